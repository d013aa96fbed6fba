/-! ===== whole texts: what a text is read as (result, tokens taken, draft), and the Reader's way ===== -/
noncomputable def pz_if {α : Type} (p : Prop) (x y : α) : α := @ite α p (Classical.propDecidable p) x y
theorem pz_ifp {α : Type} {p : Prop} {x y : α} (h : p) : pz_if p x y = x := @if_pos p (Classical.propDecidable p) h α x y
theorem pz_ifn {α : Type} {p : Prop} {x y : α} (h : ¬ p) : pz_if p x y = y := @if_neg p (Classical.propDecidable p) h α x y
abbrev pz_Bt : Type := Nat → Nat → Int32
abbrev pz_Rt : Type := Bool × Nat × pz_Bt
abbrev W_NSC : List Int32 := [78, 83, 67]
abbrev W_CAVOK : List Int32 := [67, 65, 86, 79, 75]
abbrev W_NSW : List Int32 := [78, 83, 87]
abbrev W_BECMG : List Int32 := [66, 69, 67, 77, 71]
abbrev W_TEMPO : List Int32 := [84, 69, 77, 80, 79]
abbrev W_P30 : List Int32 := [80, 82, 79, 66, 51, 48]
abbrev W_P40 : List Int32 := [80, 82, 79, 66, 52, 48]
abbrev W_METAR : List Int32 := [77, 69, 84, 65, 82]
abbrev W_TAF : List Int32 := [84, 65, 70]
noncomputable def sp_clouds (T : Nat → List Int32) (k : Nat) (B : pz_Bt) (g : Nat) : pz_Rt :=
  pz_if (T k = W_NSC) (true, k + 1, jx_u2 B (4 + 3 * g) 9 0) (pz_if (pz_vv (T k)) (true, k + 1, pz_vvB B g (T k)) (pz_if (pz_cn T k 0 4 = 0) (false, k, B) (true, k + pz_cn T k 0 4, pz_cB B g T k (pz_cn T k 0 4))))
noncomputable def sp_sky (T : Nat → List Int32) (k : Nat) (B : pz_Bt) (g : Nat) : pz_Rt :=
  pz_if (T k = W_CAVOK) (true, k + 1, pz_cavB B g) (pz_if (pz_vis (T k))
    (sp_clouds T (k + 1 + pz_wn T (k + 1) 3) (pz_wB (jx_u2 (jx_u2 B (4 + 3 * g) 7 (pz_dig (T k) 0 4)) (4 + 3 * g) 8 0) g T (k + 1) (pz_wn T (k + 1) 3)) g) (false, k, B))
noncomputable def sp_whole (T : Nat → List Int32) (k : Nat) (B : pz_Bt) (g : Nat) : pz_Rt :=
  pz_if (pz_wnd (T k)) (sp_sky T (k + 1) (pz_wndB B g (T k)) g) (false, k, B)
noncomputable def sp_p1 (T : Nat → List Int32) (k : Nat) (B : pz_Bt) (g : Nat) : Nat × pz_Bt := pz_if (pz_wnd (T k)) (k + 1, pz_wndB B g (T k)) (k, B)
noncomputable def sp_p2 (T : Nat → List Int32) (k : Nat) (B : pz_Bt) (g : Nat) : Nat × pz_Bt := pz_if (pz_vis (T k)) (k + 1, jx_u2 B (4 + 3 * g) 7 (pz_dig (T k) 0 4)) (k, B)
noncomputable def sp_p3 (T : Nat → List Int32) (k : Nat) (B : pz_Bt) (g : Nat) : Nat × pz_Bt := pz_if (T k = W_NSW) (k + 1, jx_u2 B (4 + 3 * g) 8 0) (k + pz_wn T k 3, pz_wB B g T k (pz_wn T k 3))
def pz_tells (B : pz_Bt) (g : Nat) : Prop := ¬ B (4 + 3 * g) 5 = -1 ∨ ¬ B (4 + 3 * g) 7 = -1 ∨ ¬ B (4 + 3 * g) 8 = -1 ∨ ¬ B (4 + 3 * g) 9 = -1
noncomputable def sp_p4 (T : Nat → List Int32) (k : Nat) (B : pz_Bt) (g : Nat) : pz_Rt := (pz_if (pz_tells (sp_clouds T k B g).2.2 g) true false, (sp_clouds T k B g).2)
noncomputable def sp_parts (T : Nat → List Int32) (k : Nat) (B : pz_Bt) (g : Nat) : pz_Rt :=
  pz_if (T (sp_p1 T k B g).1 = W_CAVOK) (true, (sp_p1 T k B g).1 + 1, pz_cavB (sp_p1 T k B g).2 g)
    (sp_p4 T (sp_p3 T (sp_p2 T (sp_p1 T k B g).1 (sp_p1 T k B g).2 g).1 (sp_p2 T (sp_p1 T k B g).1 (sp_p1 T k B g).2 g).2 g).1 (sp_p3 T (sp_p2 T (sp_p1 T k B g).1 (sp_p1 T k B g).2 g).1 (sp_p2 T (sp_p1 T k B g).1 (sp_p1 T k B g).2 g).2 g).2 g)
noncomputable def sp_prob (T : Nat → List Int32) (k : Nat) (B : pz_Bt) (g : Nat) : pz_Rt :=
  pz_if (T k = W_TEMPO) (true, k + 1, jx_u2 B (4 + 3 * g) 0 5) (true, k, jx_u2 B (4 + 3 * g) 0 4)
noncomputable def sp_name (T : Nat → List Int32) (k : Nat) (B : pz_Bt) (g : Nat) : pz_Rt :=
  pz_if (T k = W_BECMG) (true, k + 1, jx_u2 B (4 + 3 * g) 0 2) (pz_if (T k = W_TEMPO) (true, k + 1, jx_u2 B (4 + 3 * g) 0 3)
    (pz_if (T k = W_P30) (sp_prob T (k + 1) (jx_u2 B (4 + 3 * g) 1 30) g) (pz_if (T k = W_P40) (sp_prob T (k + 1) (jx_u2 B (4 + 3 * g) 1 40) g) (false, k, B))))
noncomputable def sp_cper (T : Nat → List Int32) (days : Int32) (k : Nat) (B : pz_Bt) (g : Nat) : pz_Rt :=
  pz_if (pz_cpo days (T k) (B 4 2) (B 4 3)) (sp_parts T (k + 1) (pz_perB B g days (T k) (B 4 2)) g) (false, k, B)
/-- a change: its result, and the latest FM behind it -/
noncomputable def sp_change (T : Nat → List Int32) (days : Int32) (k : Nat) (B : pz_Bt) (g : Nat) (lf : Int32) : pz_Rt × Int32 :=
  pz_if (pz_fmo days (T k) (B 4 2) (B 4 3) lf) (sp_whole T (k + 1) (pz_fmB B g (pz_fmt days (T k) (B 4 2)) (B 4 3)) g, pz_fmt days (T k) (B 4 2))
    (pz_if ((sp_name T k B g).1 = true) (sp_cper T days (sp_name T k B g).2.1 (sp_name T k B g).2.2 g, lf) (sp_name T k B g, lf))
/-- a new group -/
def sp_add (B : pz_Bt) (g : Nat) : pz_Bt := fun rc i => if rc = 0 ∧ i = 7 then nI (g + 1) else if rc = 4 + 3 * g ∧ i < 10 then (if i < 2 then 0 else -1) else B rc i
noncomputable def sp_fl (T : Nat → List Int32) (days : Int32) : Nat → Nat → Nat → pz_Bt → Int32 → pz_Rt
  | 0, _, k, B, _ => (true, k, B)
  | r + 1, g, k, B, lf => if (T k).length = 0 then (true, k, B) else
      pz_if ((sp_change T days k (sp_add B g) g lf).1.1 = true) (sp_fl T days r (g + 1) (sp_change T days k (sp_add B g) g lf).1.2.1 (sp_change T days k (sp_add B g) g lf).1.2.2 (sp_change T days k (sp_add B g) g lf).2) (false, (sp_change T days k (sp_add B g) g lf).1.2)
section PZU
variable {s0 : jx_St} {cs : List Int32} {src b : Nat} {days : Int32} {s : jx_St} {k : Nat} {B : Nat → Nat → Int32} {lf : Int32} {post : Int32 → jx_St → Prop} {g : Nat} {w : List Int32} {postv : jx_St → Prop}
theorem tX2_takeClouds (h : pz_PS s0 cs src b days s k B lf) (hg : g < 9) (hB0 : B (4 + 3 * g) 9 = -1) (hs : (sp_clouds (pz_tok cs) k B g).1 = true → ∀ s' : jx_St, pz_PS s0 cs src b days s' (sp_clouds (pz_tok cs) k B g).2.1 (sp_clouds (pz_tok cs) k B g).2.2 lf → post 1 s') (hn : (sp_clouds (pz_tok cs) k B g).1 = false → (sp_clouds (pz_tok cs) k B g).2 = (k, B) → post 0 s) : wX2_takeClouds post 65 (b + 4 + 3 * g) s := by
  unfold sp_clouds at hs hn
  refine sX2_takeClouds h hg hB0 (fun e => ?_) (fun e1 e => ?_) (fun e1 e2 e => ?_) (fun e1 e2 e => ?_)
  · rw [pz_ifp e] at hs; exact hs rfl
  · rw [pz_ifn e1, pz_ifp e] at hs; exact hs rfl
  · rw [pz_ifn e1, pz_ifn e2, pz_ifn e] at hs; exact hs rfl
  · rw [pz_ifn e1, pz_ifn e2, pz_ifp e] at hn; exact hn rfl rfl
theorem pz_wndB_9 {g : Nat} {B : pz_Bt} {w : List Int32} {i : Nat} (h : i < 4 ∨ 6 < i) : pz_wndB B g w (4 + 3 * g) i = B (4 + 3 * g) i := by
  have h1 : ¬ i = 4 := by omega
  have h2 : ¬ i = 5 := by omega
  have h3 : ¬ i = 6 := by omega
  simp [pz_wndB, jx_u2, h1, h2, h3]
theorem pz_wB_9 {g : Nat} {B : pz_Bt} {T : Nat → List Int32} {k n i : Nat} (h : i ≠ 8) : pz_wB B g T k n (4 + 3 * g) i = B (4 + 3 * g) i := by
  have h1 : ¬ 4 + 3 * g = 5 + 3 * g := by omega
  simp [pz_wB, h]
theorem tX2_sky (h : pz_PS s0 cs src b days s k B lf) (hg : g < 9) (hB9 : B (4 + 3 * g) 9 = -1) (hs : (sp_sky (pz_tok cs) k B g).1 = true → ∀ s' : jx_St, pz_PS s0 cs src b days s' (sp_sky (pz_tok cs) k B g).2.1 (sp_sky (pz_tok cs) k B g).2.2 lf → post 1 s') (hf : (sp_sky (pz_tok cs) k B g).1 = false → ∀ s' B' lf', pz_PS s0 cs src b days s' (sp_sky (pz_tok cs) k B g).2.1 B' lf' → post 0 s') :
    wX2_takeCavok (fun r6 s7 => r6 = 0 ∨ r6 = 1 → (((r6 = 0) → (wX2_takeVisibility (fun r10 s11 => r10 = 0 ∨ r10 = 1 → (((¬ r10 = 0) → (jx_ok jx_LX 1 (b + 4 + 3 * g)) ∧ (∀ s15 : jx_St, s15 = jx_sI s11 (b + 4 + 3 * g) 8 0 → (wX2_takeWeathers (fun s17 => (wX2_takeClouds (fun r18 s19 => r18 = 0 ∨ r18 = 1 → post r18 s19) 65 (b + 4 + 3 * g) s17)) 65 (b + 4 + 3 * g) s15))) ∧ ((r10 = 0) → post 0 s11))) 65 (b + 4 + 3 * g) s7)) ∧ ((¬ r6 = 0) → post 1 s7))) 65 (b + 4 + 3 * g) s := by
  have hb := PS_b h
  unfold sp_sky at hs hf
  refine sX2_takeCavok h hg (fun e s1 h1 _ => ⟨fun z => absurd z (by decide), fun _ => ?_⟩) (fun e _ => ⟨fun _ => ?_, fun z => absurd rfl z⟩)
  · rw [pz_ifp (show pz_tok cs k = W_CAVOK from e)] at hs; exact hs rfl s1 h1
  · rw [pz_ifn (show ¬ pz_tok cs k = W_CAVOK from e)] at hs hf
    refine sX2_takeVisibility h hg (fun e2 s1 h1 _ => ⟨fun _ => ⟨ok_g hb hg, fun s2 f2 => ?_⟩, fun z => absurd z (by decide)⟩) (fun e2 _ => ⟨fun z => absurd rfl z, fun _ => ?_⟩)
    · rw [pz_ifp e2] at hs hf
      have h2 := PS_setg h1 8 0 hg
      rw [← f2] at h2
      refine sX2_takeWeathers h2 hg (Or.inl (by simp [jx_u2])) (fun s3 h3 => ?_)
      refine tX2_takeClouds h3 hg ?_ (fun q s4 h4 _ => hs q s4 h4) (fun q q2 _ => ?_)
      · rw [pz_wB_9 (by decide)]; simp [jx_u2]; exact hB9
      · have e3 := congrArg Prod.fst q2
        dsimp only at e3
        rw [← e3] at h3
        exact hf q s3 _ _ h3
    · rw [pz_ifn e2] at hf; exact hf rfl s _ _ h
theorem tX2_takeWhole (h : pz_PS s0 cs src b days s k B lf) (hg : g < 9) (hB9 : B (4 + 3 * g) 9 = -1) (hs : (sp_whole (pz_tok cs) k B g).1 = true → ∀ s' : jx_St, pz_PS s0 cs src b days s' (sp_whole (pz_tok cs) k B g).2.1 (sp_whole (pz_tok cs) k B g).2.2 lf → post 1 s') (hf : (sp_whole (pz_tok cs) k B g).1 = false → ∀ s' B' lf', pz_PS s0 cs src b days s' (sp_whole (pz_tok cs) k B g).2.1 B' lf' → post 0 s') : wX2_takeWhole post 65 (b + 4 + 3 * g) s := by
  unfold wX2_takeWhole
  unfold sp_whole at hs hf
  refine ⟨ok_rd, sX2_takeWind h hg (fun e s1 h1 _ => ⟨fun _ => ?_, fun z => absurd z (by decide)⟩) (fun e _ => ⟨fun z => absurd rfl z, fun _ => ?_⟩)⟩
  · rw [pz_ifp e] at hs hf
    exact tX2_sky h1 hg (by rw [pz_wndB_9 (by omega)]; exact hB9) hs hf
  · rw [pz_ifn e] at hf; exact hf rfl s _ _ h
theorem tX1_tells (h : pz_PS s0 cs src b days s k B lf) (hg : g < 9) {p : Int32} {f : Nat} (hf : (p = 0 ∧ f = 5) ∨ (p = 1 ∧ f = 7) ∨ (p = 2 ∧ f = 8) ∨ (p = 3 ∧ f = 9)) (h1 : ¬ B (4 + 3 * g) f = -1 → post 1 s) (h0 : B (4 + 3 * g) f = -1 → post 0 s) : wX1_tells post (b + 4 + 3 * g) p s := by
  have hb := PS_b h
  have hk := ok_g hb hg
  unfold wX1_tells
  rw [PS_Bg h 5 hg, PS_Bg h 7 hg, PS_Bg h 8 hg, PS_Bg h 9 hg]
  rcases hf with ⟨rfl, rfl⟩ | ⟨rfl, rfl⟩ | ⟨rfl, rfl⟩ | ⟨rfl, rfl⟩
  · exact ⟨fun _ => ⟨hk, h0, h1⟩, fun z => absurd z (by decide), fun z => absurd z (by decide), fun z => absurd rfl z⟩
  · exact ⟨fun z => absurd z (by decide), fun _ => ⟨hk, h0, h1⟩, fun z => absurd z (by decide), fun _ z => absurd rfl z⟩
  · exact ⟨fun z => absurd z (by decide), fun z => absurd z (by decide), fun _ => ⟨hk, h0, h1⟩, fun _ _ z => absurd rfl z⟩
  · exact ⟨fun z => absurd z (by decide), fun z => absurd z (by decide), fun z => absurd z (by decide), fun _ _ _ => ⟨hk, h0, h1⟩⟩
theorem tX1_tellsSomething (h : pz_PS s0 cs src b days s k B lf) (hg : g < 9) (h1 : pz_tells B g → post 1 s) (h0 : ¬ pz_tells B g → post 0 s) : wX1_tellsSomething post (b + 4 + 3 * g) s := by
  have hk := ok_g (PS_b h) hg
  unfold wX1_tellsSomething
  refine ⟨hk, tX1_tells h hg (f := 5) (Or.inl ⟨rfl, rfl⟩) (fun q _ => ⟨fun _ => h1 (Or.inl q), fun z => absurd z (by decide)⟩) (fun q _ => ⟨fun z => absurd rfl z, fun _ => ?_⟩)⟩
  refine tX1_tells h hg (f := 7) (Or.inr (Or.inl ⟨rfl, rfl⟩)) (fun q2 _ => ⟨fun _ => h1 (Or.inr (Or.inl q2)), fun z => absurd z (by decide)⟩) (fun q2 _ => ⟨fun z => absurd rfl z, fun _ => ?_⟩)
  refine tX1_tells h hg (f := 8) (Or.inr (Or.inr (Or.inl ⟨rfl, rfl⟩))) (fun q3 _ => ⟨fun _ => h1 (Or.inr (Or.inr (Or.inl q3))), fun z => absurd z (by decide)⟩) (fun q3 _ => ⟨fun z => absurd rfl z, fun _ => ?_⟩)
  refine tX1_tells h hg (f := 9) (Or.inr (Or.inr (Or.inr ⟨rfl, rfl⟩))) (fun q4 _ => ⟨fun z => absurd z (by decide), fun _ => h1 (Or.inr (Or.inr (Or.inr q4)))⟩) (fun q4 _ => ⟨fun _ => h0 ?_, fun z => absurd rfl z⟩)
  intro z
  rcases z with z | z | z | z
  · exact z q
  · exact z q2
  · exact z q3
  · exact z q4
end PZU
