/-! ===== changes, forecasts ===== -/
theorem pz_ife {α : Type} {P : α → Prop} {p : Prop} {x y : α} (hx : p → P x) (hy : ¬ p → P y) : P (pz_if p x y) := by
  by_cases h : p
  · rw [pz_ifp h]; exact hx h
  · rw [pz_ifn h]; exact hy h
/-- nothing but group g is written -/
def pz_fr (g : Nat) (B B' : pz_Bt) : Prop := ∀ rc i, rc ≠ 4 + 3 * g → rc ≠ 5 + 3 * g → rc ≠ 6 + 3 * g → B' rc i = B rc i
theorem pz_fr_rf {g : Nat} {B : pz_Bt} : pz_fr g B B := fun _ _ _ _ _ => rfl
theorem pz_fr_tr {g : Nat} {B B1 B2 : pz_Bt} (h1 : pz_fr g B B1) (h2 : pz_fr g B1 B2) : pz_fr g B B2 := fun rc i a c d => (h2 rc i a c d).trans (h1 rc i a c d)
theorem pz_fr_u {g : Nat} {B : pz_Bt} {f : Nat} {v : Int32} : pz_fr g B (jx_u2 B (4 + 3 * g) f v) := fun rc i a _ _ => by simp [jx_u2, a]
theorem pz_fr_wnd {g : Nat} {B : pz_Bt} {w : List Int32} : pz_fr g B (pz_wndB B g w) := pz_fr_tr (pz_fr_tr pz_fr_u pz_fr_u) pz_fr_u
theorem pz_fr_cav {g : Nat} {B : pz_Bt} : pz_fr g B (pz_cavB B g) := pz_fr_tr (pz_fr_tr pz_fr_u pz_fr_u) pz_fr_u
theorem pz_fr_wB {g : Nat} {B : pz_Bt} {T : Nat → List Int32} {k n : Nat} : pz_fr g B (pz_wB B g T k n) := fun rc i a c _ => by simp [pz_wB, a, c]
theorem pz_fr_cB {g : Nat} {B : pz_Bt} {T : Nat → List Int32} {k n : Nat} : pz_fr g B (pz_cB B g T k n) := fun rc i a _ d => by simp [pz_cB, a, d]
theorem pz_fr_vv {g : Nat} {B : pz_Bt} {w : List Int32} : pz_fr g B (pz_vvB B g w) := fun rc i a _ d => by simp [pz_vvB, jx_u2, a, d]
theorem pz_fr_per {g : Nat} {B : pz_Bt} {days : Int32} {w : List Int32} {ea : Int32} : pz_fr g B (pz_perB B g days w ea) := pz_fr_tr pz_fr_u pz_fr_u
theorem pz_fr_fm {g : Nat} {B : pz_Bt} {t en : Int32} : pz_fr g B (pz_fmB B g t en) := pz_fr_tr (pz_fr_tr pz_fr_u pz_fr_u) pz_fr_u
theorem pz_fr_clouds {T : Nat → List Int32} {k : Nat} {B : pz_Bt} {g : Nat} : pz_fr g B (sp_clouds T k B g).2.2 := by
  unfold sp_clouds
  exact pz_ife (P := fun r : pz_Rt => pz_fr g B r.2.2) (fun _ => pz_fr_u) (fun _ => pz_ife (P := fun r : pz_Rt => pz_fr g B r.2.2) (fun _ => pz_fr_vv) (fun _ => pz_ife (P := fun r : pz_Rt => pz_fr g B r.2.2) (fun _ => pz_fr_rf) (fun _ => pz_fr_cB)))
theorem pz_fr_sky {T : Nat → List Int32} {k : Nat} {B : pz_Bt} {g : Nat} : pz_fr g B (sp_sky T k B g).2.2 := by
  unfold sp_sky
  exact pz_ife (P := fun r : pz_Rt => pz_fr g B r.2.2) (fun _ => pz_fr_cav) (fun _ => pz_ife (P := fun r : pz_Rt => pz_fr g B r.2.2) (fun _ => pz_fr_tr (pz_fr_tr (pz_fr_tr pz_fr_u pz_fr_u) pz_fr_wB) pz_fr_clouds) (fun _ => pz_fr_rf))
theorem pz_fr_whole {T : Nat → List Int32} {k : Nat} {B : pz_Bt} {g : Nat} : pz_fr g B (sp_whole T k B g).2.2 := by
  unfold sp_whole
  exact pz_ife (P := fun r : pz_Rt => pz_fr g B r.2.2) (fun _ => pz_fr_tr pz_fr_wnd pz_fr_sky) (fun _ => pz_fr_rf)
theorem pz_fr_p1 {T : Nat → List Int32} {k : Nat} {B : pz_Bt} {g : Nat} : pz_fr g B (sp_p1 T k B g).2 := by
  unfold sp_p1
  exact pz_ife (P := fun r : Nat × pz_Bt => pz_fr g B r.2) (fun _ => pz_fr_wnd) (fun _ => pz_fr_rf)
theorem pz_fr_p2 {T : Nat → List Int32} {k : Nat} {B : pz_Bt} {g : Nat} : pz_fr g B (sp_p2 T k B g).2 := by
  unfold sp_p2
  exact pz_ife (P := fun r : Nat × pz_Bt => pz_fr g B r.2) (fun _ => pz_fr_u) (fun _ => pz_fr_rf)
theorem pz_fr_p3 {T : Nat → List Int32} {k : Nat} {B : pz_Bt} {g : Nat} : pz_fr g B (sp_p3 T k B g).2 := by
  unfold sp_p3
  exact pz_ife (P := fun r : Nat × pz_Bt => pz_fr g B r.2) (fun _ => pz_fr_u) (fun _ => pz_fr_wB)
theorem pz_fr_parts {T : Nat → List Int32} {k : Nat} {B : pz_Bt} {g : Nat} : pz_fr g B (sp_parts T k B g).2.2 := by
  unfold sp_parts
  exact pz_ife (P := fun r : pz_Rt => pz_fr g B r.2.2) (fun _ => pz_fr_tr pz_fr_p1 pz_fr_cav) (fun _ => pz_fr_tr (pz_fr_tr (pz_fr_tr pz_fr_p1 pz_fr_p2) pz_fr_p3) pz_fr_clouds)
theorem pz_fr_prob {T : Nat → List Int32} {k : Nat} {B : pz_Bt} {g : Nat} : pz_fr g B (sp_prob T k B g).2.2 := by
  unfold sp_prob
  exact pz_ife (P := fun r : pz_Rt => pz_fr g B r.2.2) (fun _ => pz_fr_u) (fun _ => pz_fr_u)
theorem pz_fr_name {T : Nat → List Int32} {k : Nat} {B : pz_Bt} {g : Nat} : pz_fr g B (sp_name T k B g).2.2 := by
  unfold sp_name
  exact pz_ife (P := fun r : pz_Rt => pz_fr g B r.2.2) (fun _ => pz_fr_u) (fun _ => pz_ife (P := fun r : pz_Rt => pz_fr g B r.2.2) (fun _ => pz_fr_u) (fun _ => pz_ife (P := fun r : pz_Rt => pz_fr g B r.2.2) (fun _ => pz_fr_tr pz_fr_u pz_fr_prob) (fun _ => pz_ife (P := fun r : pz_Rt => pz_fr g B r.2.2) (fun _ => pz_fr_tr pz_fr_u pz_fr_prob) (fun _ => pz_fr_rf))))
theorem pz_fr_cper {T : Nat → List Int32} {days : Int32} {k : Nat} {B : pz_Bt} {g : Nat} : pz_fr g B (sp_cper T days k B g).2.2 := by
  unfold sp_cper
  exact pz_ife (P := fun r : pz_Rt => pz_fr g B r.2.2) (fun _ => pz_fr_tr pz_fr_per pz_fr_parts) (fun _ => pz_fr_rf)
theorem pz_fr_change {T : Nat → List Int32} {days : Int32} {k : Nat} {B : pz_Bt} {g : Nat} {lf : Int32} : pz_fr g B (sp_change T days k B g lf).1.2.2 := by
  unfold sp_change
  exact pz_ife (P := fun r : pz_Rt × Int32 => pz_fr g B r.1.2.2) (fun _ => pz_fr_tr pz_fr_fm pz_fr_whole) (fun _ => pz_ife (P := fun r : pz_Rt × Int32 => pz_fr g B r.1.2.2) (fun _ => pz_fr_tr pz_fr_name pz_fr_cper) (fun _ => pz_fr_name))
section PZV
variable {s0 : jx_St} {cs : List Int32} {src b : Nat} {days : Int32} {s : jx_St} {k : Nat} {B : Nat → Nat → Int32} {lf : Int32} {post : Int32 → jx_St → Prop} {g : Nat} {w : List Int32} {postv : jx_St → Prop}
theorem tX2_parts3 (h : pz_PS s0 cs src b days s k B lf) (hg : g < 9) (hB9 : B (4 + 3 * g) 9 = -1) (hs : (sp_p4 (pz_tok cs) k B g).1 = true → ∀ s' : jx_St, pz_PS s0 cs src b days s' (sp_p4 (pz_tok cs) k B g).2.1 (sp_p4 (pz_tok cs) k B g).2.2 lf → post 1 s') (hf : (sp_p4 (pz_tok cs) k B g).1 = false → ∀ s' B' lf', pz_PS s0 cs src b days s' (sp_p4 (pz_tok cs) k B g).2.1 B' lf' → post 0 s') : wX2_takeParts_b44 post 65 (b + 4 + 3 * g) s := by
  have hk := ok_g (PS_b h) hg
  have key : ∀ s1 : jx_St, pz_PS s0 cs src b days s1 (sp_clouds (pz_tok cs) k B g).2.1 (sp_clouds (pz_tok cs) k B g).2.2 lf → wX1_tellsSomething (fun r25 s26 => r25 = 0 ∨ r25 = 1 → post r25 s26) (b + 4 + 3 * g) s1 := by
    intro s1 h1
    unfold sp_p4 at hs hf
    refine tX1_tellsSomething h1 hg (fun q _ => ?_) (fun q _ => ?_)
    · rw [pz_ifp q] at hs; exact hs rfl s1 h1
    · rw [pz_ifn q] at hf; exact hf rfl s1 _ _ h1
  unfold wX2_takeParts_b44
  refine ⟨ok_rd, tX2_takeClouds h hg hB9 (fun q s1 h1 _ => ⟨hk, key s1 h1⟩) (fun q q2 _ => ⟨hk, key s ?_⟩)⟩
  rw [q2]; exact h
theorem tX2_takeParts (h : pz_PS s0 cs src b days s k B lf) (hg : g < 9) (hB8 : B (4 + 3 * g) 8 = -1) (hB9 : B (4 + 3 * g) 9 = -1) (hs : (sp_parts (pz_tok cs) k B g).1 = true → ∀ s' : jx_St, pz_PS s0 cs src b days s' (sp_parts (pz_tok cs) k B g).2.1 (sp_parts (pz_tok cs) k B g).2.2 lf → post 1 s') (hf : (sp_parts (pz_tok cs) k B g).1 = false → ∀ s' B' lf', pz_PS s0 cs src b days s' (sp_parts (pz_tok cs) k B g).2.1 B' lf' → post 0 s') : wX2_takeParts post 65 (b + 4 + 3 * g) s := by
  have hk := ok_g (PS_b h) hg
  unfold sp_parts at hs hf
  have a8 : (sp_p1 (pz_tok cs) k B g).2 (4 + 3 * g) 8 = -1 := by
    unfold sp_p1
    exact pz_ife (P := fun r : Nat × pz_Bt => r.2 (4 + 3 * g) 8 = -1) (fun _ => by rw [show (k + 1, pz_wndB B g (pz_tok cs k)).2 = pz_wndB B g (pz_tok cs k) from rfl, pz_wndB_9 (by omega)]; exact hB8) (fun _ => hB8)
  have a9 : (sp_p1 (pz_tok cs) k B g).2 (4 + 3 * g) 9 = -1 := by
    unfold sp_p1
    exact pz_ife (P := fun r : Nat × pz_Bt => r.2 (4 + 3 * g) 9 = -1) (fun _ => by rw [show (k + 1, pz_wndB B g (pz_tok cs k)).2 = pz_wndB B g (pz_tok cs k) from rfl, pz_wndB_9 (by omega)]; exact hB9) (fun _ => hB9)
  have e1 : pz_wnd (pz_tok cs k) → sp_p1 (pz_tok cs) k B g = (k + 1, pz_wndB B g (pz_tok cs k)) := fun q => by unfold sp_p1; exact pz_ifp q
  have e0 : ¬ pz_wnd (pz_tok cs k) → sp_p1 (pz_tok cs) k B g = (k, B) := fun q => by unfold sp_p1; exact pz_ifn q
  generalize sp_p1 (pz_tok cs) k B g = p1 at hs hf a8 a9 e1 e0
  have b8 : (sp_p2 (pz_tok cs) p1.1 p1.2 g).2 (4 + 3 * g) 8 = -1 := by
    unfold sp_p2
    exact pz_ife (P := fun r : Nat × pz_Bt => r.2 (4 + 3 * g) 8 = -1) (fun _ => by simp [jx_u2]; exact a8) (fun _ => a8)
  have b9 : (sp_p2 (pz_tok cs) p1.1 p1.2 g).2 (4 + 3 * g) 9 = -1 := by
    unfold sp_p2
    exact pz_ife (P := fun r : Nat × pz_Bt => r.2 (4 + 3 * g) 9 = -1) (fun _ => by simp [jx_u2]; exact a9) (fun _ => a9)
  have f1 : pz_vis ((pz_tok cs) p1.1) → sp_p2 (pz_tok cs) p1.1 p1.2 g = (p1.1 + 1, jx_u2 p1.2 (4 + 3 * g) 7 (pz_dig ((pz_tok cs) p1.1) 0 4)) := fun q => by unfold sp_p2; exact pz_ifp q
  have f0 : ¬ pz_vis ((pz_tok cs) p1.1) → sp_p2 (pz_tok cs) p1.1 p1.2 g = p1 := fun q => by unfold sp_p2; exact pz_ifn q
  generalize sp_p2 (pz_tok cs) p1.1 p1.2 g = p2 at hs hf b8 b9 f1 f0
  have c9 : (sp_p3 (pz_tok cs) p2.1 p2.2 g).2 (4 + 3 * g) 9 = -1 := by
    unfold sp_p3
    exact pz_ife (P := fun r : Nat × pz_Bt => r.2 (4 + 3 * g) 9 = -1) (fun _ => by simp [jx_u2]; exact b9) (fun _ => by rw [show (p2.1 + pz_wn (pz_tok cs) p2.1 3, pz_wB p2.2 g (pz_tok cs) p2.1 (pz_wn (pz_tok cs) p2.1 3)).2 = pz_wB p2.2 g (pz_tok cs) p2.1 (pz_wn (pz_tok cs) p2.1 3) from rfl, pz_wB_9 (by decide)]; exact b9)
  have g1 : (pz_tok cs) p2.1 = W_NSW → sp_p3 (pz_tok cs) p2.1 p2.2 g = (p2.1 + 1, jx_u2 p2.2 (4 + 3 * g) 8 0) := fun q => by unfold sp_p3; exact pz_ifp q
  have g0 : ¬ (pz_tok cs) p2.1 = W_NSW → sp_p3 (pz_tok cs) p2.1 p2.2 g = (p2.1 + pz_wn (pz_tok cs) p2.1 3, pz_wB p2.2 g (pz_tok cs) p2.1 (pz_wn (pz_tok cs) p2.1 3)) := fun q => by unfold sp_p3; exact pz_ifn q
  generalize sp_p3 (pz_tok cs) p2.1 p2.2 g = p3 at hs hf c9 g1 g0
  have rest2 : ¬ (pz_tok cs) p1.1 = W_CAVOK → ∀ s2 : jx_St, pz_PS s0 cs src b days s2 p2.1 p2.2 lf → wX2_takeWord (fun r12 s13 => r12 = 0 ∨ r12 = 1 → (((r12 = 0) → (wX2_takeWeathers (fun s17 => wX2_takeParts_b44 post 65 (b + 4 + 3 * g) s17) 65 (b + 4 + 3 * g) s13)) ∧ ((¬ r12 = 0) → (jx_ok jx_LX 1 (b + 4 + 3 * g)) ∧ (∀ s19 : jx_St, s19 = jx_sI s13 (b + 4 + 3 * g) 8 0 → wX2_takeParts_b44 post 65 (b + 4 + 3 * g) s19)))) 65 18 s2 := by
    intro hc s2 h2
    rw [pz_ifn hc] at hs hf
    refine sX2_takeWord h2 (by decide) (by decide) (fun e s3 h3 _ => ⟨fun z => absurd z (by decide), fun _ => ⟨hk, fun s4 f4 => ?_⟩⟩) (fun e _ => ⟨fun _ => ?_, fun z => absurd rfl z⟩)
    · have h4 := PS_setg h3 8 0 hg
      rw [← f4] at h4
      have eg := g1 e
      rw [eg] at hs hf c9
      exact tX2_parts3 h4 hg c9 hs hf
    · have eg := g0 e
      rw [eg] at hs hf c9
      exact sX2_takeWeathers h2 hg (Or.inr b8) (fun s3 h3 => tX2_parts3 h3 hg c9 hs hf)
  have rest1 : ∀ s1 : jx_St, pz_PS s0 cs src b days s1 p1.1 p1.2 lf → wX2_takeCavok (fun r5 s6 => r5 = 0 ∨ r5 = 1 → (((r5 = 0) → (wX2_takeVisibility (fun r9 s10 => r9 = 0 ∨ r9 = 1 → (wX2_takeWord (fun r12 s13 => r12 = 0 ∨ r12 = 1 → (((r12 = 0) → (wX2_takeWeathers (fun s17 => wX2_takeParts_b44 post 65 (b + 4 + 3 * g) s17) 65 (b + 4 + 3 * g) s13)) ∧ ((¬ r12 = 0) → (jx_ok jx_LX 1 (b + 4 + 3 * g)) ∧ (∀ s19 : jx_St, s19 = jx_sI s13 (b + 4 + 3 * g) 8 0 → wX2_takeParts_b44 post 65 (b + 4 + 3 * g) s19)))) 65 18 s10)) 65 (b + 4 + 3 * g) s6)) ∧ ((¬ r5 = 0) → post 1 s6))) 65 (b + 4 + 3 * g) s1 := by
    intro s1 h1
    refine sX2_takeCavok h1 hg (fun e s2 h2 _ => ⟨fun z => absurd z (by decide), fun _ => ?_⟩) (fun e _ => ⟨fun _ => ?_, fun z => absurd rfl z⟩)
    · rw [pz_ifp (show (pz_tok cs) p1.1 = W_CAVOK from e)] at hs; exact hs rfl s2 h2
    · refine sX2_takeVisibility h1 hg (fun q s2 h2 _ => rest2 e s2 ?_) (fun q _ => rest2 e s1 ?_)
      · rw [f1 q]; exact h2
      · rw [f0 q]; exact h1
  unfold wX2_takeParts
  refine ⟨ok_rd, sX2_takeWind h hg (fun q s1 h1 _ => rest1 s1 ?_) (fun q _ => rest1 s ?_)⟩
  · rw [e1 q]; exact h1
  · rw [e0 q]; exact h
theorem tX2_prob (h : pz_PS s0 cs src b days s k B lf) (hg : g < 9) (hs : (sp_prob (pz_tok cs) k B g).1 = true → ∀ s' : jx_St, pz_PS s0 cs src b days s' (sp_prob (pz_tok cs) k B g).2.1 (sp_prob (pz_tok cs) k B g).2.2 lf → post 1 s') : wX2_takeChangeName_b70 post 65 (b + 4 + 3 * g) s := by
  have hk := ok_g (PS_b h) hg
  unfold wX2_takeChangeName_b70
  unfold sp_prob at hs
  refine ⟨ok_rd, sX2_takeWord h (by decide) (by decide) (fun e s1 h1 _ => ⟨fun z => absurd z (by decide), fun _ => ⟨hk, fun s2 f2 => ?_⟩⟩) (fun e _ => ⟨fun _ => ⟨hk, fun s2 f2 => ?_⟩, fun z => absurd rfl z⟩)⟩
  · have h2 := PS_setg h1 0 5 hg
    rw [← f2] at h2
    rw [pz_ifp (show (pz_tok cs) k = W_TEMPO from e)] at hs
    exact hs rfl s2 h2
  · have h2 := PS_setg h 0 4 hg
    rw [← f2] at h2
    rw [pz_ifn (show ¬ (pz_tok cs) k = W_TEMPO from e)] at hs
    exact hs rfl s2 h2
theorem tX2_takeChangeName (h : pz_PS s0 cs src b days s k B lf) (hg : g < 9) (hs : (sp_name (pz_tok cs) k B g).1 = true → ∀ s' : jx_St, pz_PS s0 cs src b days s' (sp_name (pz_tok cs) k B g).2.1 (sp_name (pz_tok cs) k B g).2.2 lf → post 1 s') (hn : (sp_name (pz_tok cs) k B g).1 = false → (sp_name (pz_tok cs) k B g).2 = (k, B) → post 0 s) : wX2_takeChangeName post 65 (b + 4 + 3 * g) s := by
  have hk := ok_g (PS_b h) hg
  unfold wX2_takeChangeName
  unfold sp_name at hs hn
  refine ⟨ok_rd, sX2_takeWord h (by decide) (by decide) (fun e s1 h1 _ => ⟨fun z => absurd z (by decide), fun _ => ⟨hk, fun s2 f2 => ?_⟩⟩) (fun e _ => ⟨fun _ => ?_, fun z => absurd rfl z⟩)⟩
  · have h2 := PS_setg h1 0 2 hg
    rw [← f2] at h2
    rw [pz_ifp (show (pz_tok cs) k = W_BECMG from e)] at hs
    exact hs rfl s2 h2
  · rw [pz_ifn (show ¬ (pz_tok cs) k = W_BECMG from e)] at hs hn
    refine sX2_takeWord h (by decide) (by decide) (fun e s1 h1 _ => ⟨fun z => absurd z (by decide), fun _ => ⟨hk, fun s2 f2 => ?_⟩⟩) (fun e _ => ⟨fun _ => ?_, fun z => absurd rfl z⟩)
    · have h2 := PS_setg h1 0 3 hg
      rw [← f2] at h2
      rw [pz_ifp (show (pz_tok cs) k = W_TEMPO from e)] at hs
      exact hs rfl s2 h2
    · rw [pz_ifn (show ¬ (pz_tok cs) k = W_TEMPO from e)] at hs hn
      refine sX2_takeWord h (by decide) (by decide) (fun e s1 h1 _ => ⟨fun z => absurd z (by decide), fun _ => ⟨hk, fun s2 f2 => ?_⟩⟩) (fun e _ => ⟨fun _ => ?_, fun z => absurd rfl z⟩)
      · have h2 := PS_setg h1 1 30 hg
        rw [← f2] at h2
        rw [pz_ifp (show (pz_tok cs) k = W_P30 from e)] at hs
        exact tX2_prob h2 hg hs
      · rw [pz_ifn (show ¬ (pz_tok cs) k = W_P30 from e)] at hs hn
        refine sX2_takeWord h (by decide) (by decide) (fun e s1 h1 _ => ⟨fun z => absurd z (by decide), fun _ => ⟨hk, fun s2 f2 => ?_⟩⟩) (fun e _ => ⟨fun _ => ?_, fun z => absurd rfl z⟩)
        · have h2 := PS_setg h1 1 40 hg
          rw [← f2] at h2
          rw [pz_ifp (show (pz_tok cs) k = W_P40 from e)] at hs
          exact tX2_prob h2 hg hs
        · rw [pz_ifn (show ¬ (pz_tok cs) k = W_P40 from e)] at hn
          exact hn rfl rfl
end PZV
