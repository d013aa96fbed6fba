/-! ===== the reference: sky, parts ===== -/
section MZS
variable {m0 : jx_St} {cs : List Int32} {nt : Nat} {days : Int32} {g : Nat} {hd lt : Nat → Int32} {m : jx_St} {k : Nat} {B : pz_Bt} {post : Int32 → jx_St → Prop}
theorem MP_wcnt2 {n : Nat} (h : mz_P m0 cs nt days g hd lt m k B) (hg : g < 9) (hB0 : B (4 + 3 * g) 8 ≤ 0) {k0 : Nat} (hw : ∀ j, j < n → m.1 6 (3 * g + j) = pz_wno (pz_tok cs (k0 + j))) (hn : n ≤ 3) : mz_P m0 cs nt days g hd lt (jx_sI m 5 (10 * g + 8) (nI n)) k (pz_wB (jx_u2 B (4 + 3 * g) 8 0) g (pz_tok cs) k0 n) := by
  have hnp : ¬ 0 < B (4 + 3 * g) 8 := Int32.not_lt.mpr hB0
  have h1 : mz_P m0 cs nt days g hd lt m k (fun rc i => if rc = 5 + 3 * g ∧ i < n then pz_wno (pz_tok cs (k0 + i)) else B rc i) := MP_alt h (fun rc i a1 a2 => by
    rcases a1 with z | z
    · rw [if_neg (fun y => z y.1)]
    · exact absurd z hnp)
  have h2 := MP_told h1 hg (f := 8) (nI n) (by decide) (fun _ j hj hjv => by
    have := (nI_ltI (by omega) (by omega)).mp hjv
    rw [if_pos ⟨rfl, this⟩]; exact hw j this) (fun z => absurd z (by decide))
  have e : jx_u2 (fun rc i => if rc = 5 + 3 * g ∧ i < n then pz_wno (pz_tok cs (k0 + i)) else B rc i) (4 + 3 * g) 8 (nI n) = pz_wB (jx_u2 B (4 + 3 * g) 8 0) g (pz_tok cs) k0 n := by
    funext rc i
    unfold jx_u2 pz_wB
    dsimp only
    by_cases q1 : rc = 4 + 3 * g ∧ i = 8
    · have q5 : ¬ (rc = 5 + 3 * g ∧ i < n) := fun z => by omega
      rw [if_pos q1, if_neg q5]
      by_cases q : n ≠ 0
      · rw [if_pos ⟨q1.1, q1.2, q⟩]
      · rw [if_neg (fun z => q z.2.2), if_pos q1]
        have : n = 0 := by omega
        rw [this]; rfl
    · rw [if_neg q1]
      by_cases q2 : rc = 5 + 3 * g ∧ i < n
      · rw [if_pos q2, if_pos q2]
      · rw [if_neg q2, if_neg q2, if_neg (fun z => q1 ⟨z.1, z.2.1⟩), if_neg q1]
  rw [← e]
  exact h2
theorem sX4_sky (h : mz_P m0 cs nt days g hd lt m k B) (hg : g < 9) (h8 : B (4 + 3 * g) 8 = -1) (h9 : B (4 + 3 * g) 9 = -1) (hs : (sp_sky (pz_tok cs) k B g).1 = true → ∀ m' : jx_St, mz_P m0 cs nt days g hd lt m' (sp_sky (pz_tok cs) k B g).2.1 (sp_sky (pz_tok cs) k B g).2.2 → post 1 m') (hf : (sp_sky (pz_tok cs) k B g).1 = false → ∀ m' : jx_St, mz_S m0 cs nt days m' (sp_sky (pz_tok cs) k B g).2.1 → post 0 m') : wX4_sky post 0 (nI g) m := by
  unfold sp_sky at hs hf
  unfold wX4_sky
  refine ⟨ok_m, sX4_clear h hg (fun e m1 h1 _ => ⟨fun z => absurd z (by decide), fun _ => ?_⟩) (fun e _ => ⟨fun _ => ?_, fun z => absurd rfl z⟩)⟩
  · rw [pz_ifp e] at hs; exact hs rfl m1 h1
  · rw [pz_ifn e] at hs hf
    refine sX4_visibility h hg (fun e2 m1 h1 _ => ⟨fun _ => ?_, fun z => absurd z (by decide)⟩) (fun e2 _ => ⟨fun z => absurd rfl z, fun _ => ?_⟩)
    · rw [pz_ifp e2] at hs hf
      have h81 : jx_u2 B (4 + 3 * g) 7 (pz_dig (pz_tok cs k) 0 4) (4 + 3 * g) 8 ≤ 0 := by simp [jx_u2]; rw [h8]; decide
      refine sX4_weatherOf h1 hg h81 (fun m2 h2 hw => ?_)
      rw [MP_15 h1, show ((10 * nI g) + 8 : Int32) = nI (10 * g + 8) from pz_10g g 8, pz_cl (by omega)]
      refine ⟨ix_told hg (by decide), fun m3 e3 => ?_⟩
      have h3 := MP_wcnt2 h2 hg h81 hw (pz_wn_le 3 (k + 1))
      rw [← e3] at h3
      refine sX4_cloudsOf h3 hg ?_ (fun q m4 h4 _ => hs q m4 h4) (fun q q2 m4 h4 _ => hf q m4 ?_)
      · rw [pz_wB_9 (by decide)]; simp [jx_u2]; exact h9
      · rw [q2]; exact h4.1
    · rw [pz_ifn e2] at hf; exact hf rfl m h.1
theorem sp_clouds_9 {T : Nat → List Int32} {k : Nat} {B : pz_Bt} {g : Nat} (h : (sp_clouds T k B g).1 = true) : (sp_clouds T k B g).2.2 (4 + 3 * g) 9 ≠ -1 := by
  unfold sp_clouds at h ⊢
  by_cases q1 : T k = W_NSC
  · rw [pz_ifp q1]; simp [jx_u2]
  · rw [pz_ifn q1] at h ⊢
    by_cases q2 : pz_vv (T k)
    · rw [pz_ifp q2]; simp [pz_vvB, jx_u2]
    · rw [pz_ifn q2] at h ⊢
      by_cases q3 : pz_cn T k 0 4 = 0
      · rw [pz_ifp q3] at h; exact absurd (show (false : Bool) = true from h) (by decide)
      · rw [pz_ifn q3]
        have hle := pz_cn_le (T := T) 4 k 0
        have e : pz_cB B g T k (pz_cn T k 0 4) (4 + 3 * g) 9 = nI (pz_cn T k 0 4) := by
          have n6 : ¬ (4 + 3 * g = 6 + 3 * g ∧ 9 < pz_cn T k 0 4) := fun z => by omega
          unfold pz_cB
          rw [if_neg n6, if_pos ⟨rfl, rfl, q3⟩]
        show pz_cB B g T k (pz_cn T k 0 4) (4 + 3 * g) 9 ≠ -1
        rw [e]
        exact pz_nm1 (by omega)
theorem sX4_b114 (h : mz_P m0 cs nt days g hd lt m k B) (hg : g < 9) (h9 : B (4 + 3 * g) 9 = -1) {a2 : Int32} (ha : a2 = 0 ↔ (B (4 + 3 * g) 5 = -1 ∧ B (4 + 3 * g) 7 = -1 ∧ B (4 + 3 * g) 8 = -1)) (hs : (sp_p4 (pz_tok cs) k B g).1 = true → ∀ m' : jx_St, mz_P m0 cs nt days g hd lt m' (sp_p4 (pz_tok cs) k B g).2.1 (sp_p4 (pz_tok cs) k B g).2.2 → post 1 m') (hf : (sp_p4 (pz_tok cs) k B g).1 = false → ∀ m' : jx_St, mz_S m0 cs nt days m' (sp_p4 (pz_tok cs) k B g).2.1 → post 0 m') : wX4_parts_b114 post 0 (nI g) a2 m := by
  unfold wX4_parts_b114
  unfold sp_p4 at hs hf
  refine ⟨ok_m, sX4_cloudsOf h hg h9 (fun q m1 h1 _ => ⟨fun _ => ?_, fun z => absurd z (by decide)⟩) (fun q q2 m1 h1 _ => ⟨fun z => absurd rfl z, fun _ => ⟨fun q3 => ?_, fun q3 => ?_⟩⟩)⟩
  · rw [pz_ifp (show pz_tells (sp_clouds (pz_tok cs) k B g).2.2 g from Or.inr (Or.inr (Or.inr (sp_clouds_9 q))))] at hs
    exact hs rfl m1 h1
  · have e2 : (sp_clouds (pz_tok cs) k B g).2.2 = B := by rw [q2]
    have e1 : (sp_clouds (pz_tok cs) k B g).2.1 = k := by rw [q2]
    have nt' : ¬ pz_tells (sp_clouds (pz_tok cs) k B g).2.2 g := by
      rw [e2]
      intro z
      obtain ⟨z5, z7, z8⟩ := ha.mp q3
      rcases z with z | z | z | z
      · exact z z5
      · exact z z7
      · exact z z8
      · exact z h9
    rw [pz_ifn nt'] at hf
    refine hf rfl m1 ?_
    rw [e1]; exact h1.1
  · have e2 : (sp_clouds (pz_tok cs) k B g).2 = (k, B) := q2
    have yes : pz_tells (sp_clouds (pz_tok cs) k B g).2.2 g := by
      rw [e2]
      unfold pz_tells
      by_cases z5 : B (4 + 3 * g) 5 = -1
      · by_cases z7 : B (4 + 3 * g) 7 = -1
        · by_cases z8 : B (4 + 3 * g) 8 = -1
          · exact absurd (ha.mpr ⟨z5, z7, z8⟩) q3
          · exact Or.inr (Or.inr (Or.inl z8))
        · exact Or.inr (Or.inl z7)
      · exact Or.inl z5
    rw [pz_ifp yes] at hs
    refine hs rfl m1 ?_
    rw [e2]; exact h1
theorem pz_wndB_5 {g : Nat} {B : pz_Bt} {w : List Int32} : pz_wndB B g w (4 + 3 * g) 5 = pz_dig w 3 2 := by simp [pz_wndB, jx_u2]
theorem sX4_parts (h : mz_P m0 cs nt days g hd lt m k B) (hg : g < 9) (h5 : B (4 + 3 * g) 5 = -1) (h7 : B (4 + 3 * g) 7 = -1) (hB8 : B (4 + 3 * g) 8 = -1) (hB9 : B (4 + 3 * g) 9 = -1) (hs : (sp_parts (pz_tok cs) k B g).1 = true → ∀ m' : jx_St, mz_P m0 cs nt days g hd lt m' (sp_parts (pz_tok cs) k B g).2.1 (sp_parts (pz_tok cs) k B g).2.2 → post 1 m') (hf : (sp_parts (pz_tok cs) k B g).1 = false → ∀ m' : jx_St, mz_S m0 cs nt days m' (sp_parts (pz_tok cs) k B g).2.1 → post 0 m') : wX4_parts post 0 (nI g) m := by
  unfold sp_parts at hs hf
  have e1 : pz_wnd (pz_tok cs k) → sp_p1 (pz_tok cs) k B g = (k + 1, pz_wndB B g (pz_tok cs k)) := fun q => by unfold sp_p1; exact pz_ifp q
  have e0 : ¬ pz_wnd (pz_tok cs k) → sp_p1 (pz_tok cs) k B g = (k, B) := fun q => by unfold sp_p1; exact pz_ifn q
  have aB : ∀ i, (i = 7 ∨ i = 8 ∨ i = 9) → (sp_p1 (pz_tok cs) k B g).2 (4 + 3 * g) i = -1 := by
    intro i hi
    have base : B (4 + 3 * g) i = -1 := by rcases hi with rfl | rfl | rfl <;> assumption
    by_cases q : pz_wnd (pz_tok cs k)
    · rw [e1 q]; show pz_wndB B g (pz_tok cs k) (4 + 3 * g) i = -1; rw [pz_wndB_9 (by omega)]; exact base
    · rw [e0 q]; exact base
  have a5 : (sp_p1 (pz_tok cs) k B g).2 (4 + 3 * g) 5 = -1 ↔ ¬ pz_wnd (pz_tok cs k) := by
    by_cases q : pz_wnd (pz_tok cs k)
    · rw [e1 q]; show pz_wndB B g (pz_tok cs k) (4 + 3 * g) 5 = -1 ↔ _; rw [pz_wndB_5]; exact ⟨fun z => absurd z q.2.1, fun z => absurd q z⟩
    · rw [e0 q]; exact ⟨fun _ => q, fun _ => h5⟩
  generalize sp_p1 (pz_tok cs) k B g = p1 at hs hf aB a5 e1 e0
  have f1 : pz_vis (pz_tok cs p1.1) → sp_p2 (pz_tok cs) p1.1 p1.2 g = (p1.1 + 1, jx_u2 p1.2 (4 + 3 * g) 7 (pz_dig (pz_tok cs p1.1) 0 4)) := fun q => by unfold sp_p2; exact pz_ifp q
  have f0 : ¬ pz_vis (pz_tok cs p1.1) → sp_p2 (pz_tok cs) p1.1 p1.2 g = p1 := fun q => by unfold sp_p2; exact pz_ifn q
  have bB : ∀ i, (i = 8 ∨ i = 9) → (sp_p2 (pz_tok cs) p1.1 p1.2 g).2 (4 + 3 * g) i = -1 := by
    intro i hi
    by_cases q : pz_vis (pz_tok cs p1.1)
    · rw [f1 q]
      have n7 : ¬ i = 7 := by omega
      simp [jx_u2, n7]
      exact aB i (Or.inr hi)
    · rw [f0 q]; exact aB i (Or.inr hi)
  have b57 : ((sp_p2 (pz_tok cs) p1.1 p1.2 g).2 (4 + 3 * g) 5 = -1 ∧ (sp_p2 (pz_tok cs) p1.1 p1.2 g).2 (4 + 3 * g) 7 = -1) ↔ (¬ pz_wnd (pz_tok cs k) ∧ ¬ pz_vis (pz_tok cs p1.1)) := by
    by_cases q : pz_vis (pz_tok cs p1.1)
    · rw [f1 q]
      simp only [jx_u2]
      refine ⟨fun z => ?_, fun z => absurd q z.2⟩
      have := z.2
      simp at this
      exact absurd this q.2
    · rw [f0 q]
      exact ⟨fun z => ⟨a5.mp z.1, q⟩, fun z => ⟨a5.mpr z.1, aB 7 (Or.inl rfl)⟩⟩
  generalize sp_p2 (pz_tok cs) p1.1 p1.2 g = p2 at hs hf bB b57 f1 f0
  have g1 : pz_tok cs p2.1 = W_NSW → sp_p3 (pz_tok cs) p2.1 p2.2 g = (p2.1 + 1, jx_u2 p2.2 (4 + 3 * g) 8 0) := fun q => by unfold sp_p3; exact pz_ifp q
  have g0 : ¬ pz_tok cs p2.1 = W_NSW → sp_p3 (pz_tok cs) p2.1 p2.2 g = (p2.1 + pz_wn (pz_tok cs) p2.1 3, pz_wB p2.2 g (pz_tok cs) p2.1 (pz_wn (pz_tok cs) p2.1 3)) := fun q => by unfold sp_p3; exact pz_ifn q
  generalize sp_p3 (pz_tok cs) p2.1 p2.2 g = p3 at hs hf g1 g0
  have k33 : ¬ pz_tok cs p1.1 = W_CAVOK → ∀ (k0 : Int32) (m1 : jx_St), (k0 = 0 ↔ (p2.2 (4 + 3 * g) 5 = -1 ∧ p2.2 (4 + 3 * g) 7 = -1)) → (k0 = 0 ∨ k0 = 1) → mz_P m0 cs nt days g hd lt m1 p2.1 p2.2 → wX4_parts_b33 post 0 (nI g) k0 m1 := by
    intro hc k0 m1 hk hk01 h1
    rw [pz_ifn hc] at hs hf
    unfold wX4_parts_b33
    refine ⟨ok_m, sX4_word h1.1 ?_⟩
    rw [wc_NSW h1.1.2.1]
    refine ⟨fun q => ?_, fun q => ?_⟩
    · have eg := g0 q
      have b8 : p2.2 (4 + 3 * g) 8 ≤ 0 := by rw [bB 8 (Or.inl rfl)]; decide
      have hle := pz_wn_le (T := pz_tok cs) 3 p2.1
      refine sX4_weatherOf h1 hg b8 (fun m2 h2 hw => ?_)
      have k99 : ∀ v : Int32, v = (if pz_wn (pz_tok cs) p2.1 3 ≠ 0 then nI (pz_wn (pz_tok cs) p2.1 3) else p2.2 (4 + 3 * g) 8) → wX4_parts_b99 post 0 (nI g) k0 (nI (pz_wn (pz_tok cs) p2.1 3)) 5 (nI (10 * g + 8)) v m2 := by
        intro v hv
        unfold wX4_parts_b99
        rw [pz_cl (by omega)]
        refine ⟨ix_told hg (by decide), fun m3 e3 => ?_⟩
        have h3 := MP_wcnt h2 hg b8 hw hv hle
        rw [← e3] at h3
        rw [eg] at hs hf
        have w9 : pz_wB p2.2 g (pz_tok cs) p2.1 (pz_wn (pz_tok cs) p2.1 3) (4 + 3 * g) 9 = -1 := by rw [pz_wB_9 (by decide)]; exact bB 9 (Or.inr rfl)
        have w57 : ∀ i, i ≠ 8 → pz_wB p2.2 g (pz_tok cs) p2.1 (pz_wn (pz_tok cs) p2.1 3) (4 + 3 * g) i = p2.2 (4 + 3 * g) i := fun i hi => pz_wB_9 hi
        have w8 : pz_wB p2.2 g (pz_tok cs) p2.1 (pz_wn (pz_tok cs) p2.1 3) (4 + 3 * g) 8 = -1 ↔ pz_wn (pz_tok cs) p2.1 3 = 0 := by
          have n5 : ¬ (4 + 3 * g = 5 + 3 * g ∧ 8 < pz_wn (pz_tok cs) p2.1 3) := fun z => by omega
          unfold pz_wB
          rw [if_neg n5]
          by_cases q5 : pz_wn (pz_tok cs) p2.1 3 = 0
          · rw [if_neg (fun z => z.2.2 q5)]; exact ⟨fun _ => q5, fun _ => bB 8 (Or.inl rfl)⟩
          · rw [if_pos ⟨rfl, rfl, q5⟩]; exact ⟨fun z => absurd z (pz_nm1 (by omega)), fun z => absurd z q5⟩
        refine ⟨fun q2 => sX4_b114 h3 hg w9 ⟨fun z => absurd z (by decide), fun z => absurd (hk.mpr ⟨(w57 5 (by decide)) ▸ z.1, (w57 7 (by decide)) ▸ z.2.1⟩) q2⟩ hs hf, fun q2 => ⟨fun q3 => sX4_b114 h3 hg w9 ⟨fun _ => ?_, fun _ => rfl⟩ hs hf, fun q3 => sX4_b114 h3 hg w9 ⟨fun z => absurd z (by decide), fun z => ?_⟩ hs hf⟩⟩
        · have hz := pz_lew (b := 0) (by omega) q3
          rw [w57 5 (by decide), w57 7 (by decide)]
          exact ⟨(hk.mp q2).1, (hk.mp q2).2, w8.mpr (by omega)⟩
        · exact absurd (by rw [w8.mp z.2.2]; decide) q3
      rw [MP_15 h2, show ((10 * nI g) + 8 : Int32) = nI (10 * g + 8) from pz_10g g 8]
      refine ⟨fun q2 => k99 _ ?_, fun q2 => k99 _ ?_⟩
      · have hz := pz_lew (b := 0) (by omega) q2
        rw [if_neg (fun z => z (by omega)), bB 8 (Or.inl rfl)]
      · rw [if_pos (fun z => q2 (by rw [z]; decide))]
    · have eg := g1 q
      rw [eg] at hs hf
      rw [MP_15 h1, show ((10 * nI g) + 8 : Int32) = nI (10 * g + 8) from pz_10g g 8, pz_cl (by omega)]
      refine ⟨ix_told hg (by decide), fun m2 e2 m3 e3 => ?_⟩
      have h2 := MP_told h1 hg (f := 8) 0 (by decide) (fun _ j _ hj => absurd hj (nI_pos (by omega))) (fun z => absurd z (by decide))
      rw [← e2] at h2
      have h3 := MP_next h2 (by rw [q]; decide) (v := m2.1 0 5 + 1) rfl
      rw [← e3] at h3
      refine sX4_b114 h3 hg (by simp [jx_u2]; exact bB 9 (Or.inr rfl)) ⟨fun z => absurd z (by decide), fun z => ?_⟩ hs hf
      have := z.2.2
      simp [jx_u2] at this
  have rest : ∀ (r2 : Int32) (m1 : jx_St), (r2 = 0 ↔ ¬ pz_wnd (pz_tok cs k)) → (r2 = 0 ∨ r2 = 1) → mz_P m0 cs nt days g hd lt m1 p1.1 p1.2 → wX4_clear (fun r5 s6 => r5 = 0 ∨ r5 = 1 → (((r5 = 0) → (wX4_visibility (fun r9 s10 => r9 = 0 ∨ r9 = 1 → (((¬ r9 = 0) → wX4_parts_b33 post 0 (nI g) 1 s10) ∧ ((r9 = 0) → (((r2 = 0) → wX4_parts_b33 post 0 (nI g) 0 s10) ∧ ((¬ r2 = 0) → wX4_parts_b33 post 0 (nI g) 1 s10))))) 0 (nI g) s6)) ∧ ((¬ r5 = 0) → post 1 s6))) 0 (nI g) m1 := by
    intro r2 m1 hr hr01 h1
    refine sX4_clear h1 hg (fun e m2 h2 _ => ⟨fun z => absurd z (by decide), fun _ => ?_⟩) (fun e _ => ⟨fun _ => ?_, fun z => absurd rfl z⟩)
    · rw [pz_ifp e] at hs; exact hs rfl m2 h2
    · refine sX4_visibility h1 hg (fun q m2 h2 _ => ⟨fun _ => ?_, fun z => absurd z (by decide)⟩) (fun q _ => ⟨fun z => absurd rfl z, fun _ => ⟨fun q2 => ?_, fun q2 => ?_⟩⟩)
      · exact k33 e 1 m2 ⟨fun z => absurd z (by decide), fun z => absurd q (b57.mp z).2⟩ (Or.inr rfl) (by rw [f1 q]; exact h2)
      · exact k33 e 0 m1 ⟨fun _ => b57.mpr ⟨hr.mp q2, q⟩, fun _ => rfl⟩ (Or.inl rfl) (by rw [f0 q]; exact h1)
      · exact k33 e 1 m1 ⟨fun z => absurd z (by decide), fun z => absurd (hr.mpr (b57.mp z).1) q2⟩ (Or.inr rfl) (by rw [f0 q]; exact h1)
  unfold wX4_parts
  refine ⟨ok_m, sX4_wind h hg (fun q m1 h1 _ => rest 1 m1 ⟨fun z => absurd z (by decide), fun z => absurd q z⟩ (Or.inr rfl) (by rw [e1 q]; exact h1)) (fun q _ => rest 0 m ⟨fun _ => q, fun _ => rfl⟩ (Or.inl rfl) (by rw [e0 q]; exact h))⟩
end MZS
