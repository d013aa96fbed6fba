/-! ===== what is read does not hang on what stood there before ===== -/
def pz_E (G : Nat) (B B' : pz_Bt) : Prop := (∀ i, i < 8 → i ≠ 6 → B 0 i = B' 0 i) ∧ (∀ g f, g < G → f < 10 → B (4 + 3 * g) f = B' (4 + 3 * g) f) ∧ (∀ g j, g < G → j < 3 → nI j < B (4 + 3 * g) 8 → B (5 + 3 * g) j = B' (5 + 3 * g) j) ∧ (∀ g j, g < G → j < 4 → nI j < B (4 + 3 * g) 9 → B (6 + 3 * g) j = B' (6 + 3 * g) j)
def pz_Er (G : Nat) (r r' : pz_Rt) : Prop := r.1 = r'.1 ∧ r.2.1 = r'.2.1 ∧ pz_E G r.2.2 r'.2.2
def pz_Ep (G : Nat) (r r' : Nat × pz_Bt) : Prop := r.1 = r'.1 ∧ pz_E G r.2 r'.2
theorem Er_if {G : Nat} {p p' : Prop} {x y x' y' : pz_Rt} (hp : p ↔ p') (h1 : p → pz_Er G x x') (h2 : ¬ p → pz_Er G y y') : pz_Er G (pz_if p x y) (pz_if p' x' y') := by
  by_cases q : p
  · rw [pz_ifp q, pz_ifp (hp.mp q)]; exact h1 q
  · rw [pz_ifn q, pz_ifn (fun z => q (hp.mpr z))]; exact h2 q
theorem Ep_if {G : Nat} {p : Prop} {x y x' y' : Nat × pz_Bt} (h1 : p → pz_Ep G x x') (h2 : ¬ p → pz_Ep G y y') : pz_Ep G (pz_if p x y) (pz_if p x' y') := by
  by_cases q : p
  · rw [pz_ifp q, pz_ifp q]; exact h1 q
  · rw [pz_ifn q, pz_ifn q]; exact h2 q
theorem pz_nlt0 {j : Nat} (hj : j < 4) {v : Int32} (hv : v ≤ 0) : ¬ nI j < v := fun z => by
  have : nI j < 0 := Int32.lt_of_lt_of_le z hv
  exact absurd this (nI_pos (by omega))
theorem E_u {G : Nat} {B B' : pz_Bt} (h : pz_E G B B') {g f : Nat} (v : Int32) (hf : f = 8 ∨ f = 9 → v ≤ 0) : pz_E G (jx_u2 B (4 + 3 * g) f v) (jx_u2 B' (4 + 3 * g) f v) := by
  obtain ⟨a, b, c, d⟩ := h
  have o : ∀ (X : pz_Bt) rc i, ¬ (rc = 4 + 3 * g ∧ i = f) → jx_u2 X (4 + 3 * g) f v rc i = X rc i := fun X rc i hn => by unfold jx_u2; rw [if_neg hn]
  have e : ∀ (X : pz_Bt), jx_u2 X (4 + 3 * g) f v (4 + 3 * g) f = v := fun X => by unfold jx_u2; rw [if_pos ⟨rfl, rfl⟩]
  refine ⟨fun i hi h6 => by rw [o _ _ _ (by omega), o _ _ _ (by omega)]; exact a i hi h6, fun g' f' l1 l2 => ?_, fun g' j l1 l2 l3 => ?_, fun g' j l1 l2 l3 => ?_⟩
  · by_cases q : 4 + 3 * g' = 4 + 3 * g ∧ f' = f
    · rw [q.1, q.2, e, e]
    · rw [o _ _ _ q, o _ _ _ q]; exact b g' f' l1 l2
  · rw [o _ _ _ (by omega), o _ _ _ (by omega)]
    by_cases q : 4 + 3 * g' = 4 + 3 * g ∧ 8 = f
    · rw [q.1] at l3
      rw [q.2, e] at l3
      exact absurd l3 (pz_nlt0 (by omega) (hf (Or.inl q.2.symm)))
    · rw [o _ _ _ q] at l3; exact c g' j l1 l2 l3
  · rw [o _ _ _ (by omega), o _ _ _ (by omega)]
    by_cases q : 4 + 3 * g' = 4 + 3 * g ∧ 9 = f
    · rw [q.1] at l3
      rw [q.2, e] at l3
      exact absurd l3 (pz_nlt0 (by omega) (hf (Or.inr q.2.symm)))
    · rw [o _ _ _ q] at l3; exact d g' j l1 l2 l3
theorem E_0 {G : Nat} {B B' : pz_Bt} (h : pz_E G B B') {i : Nat} (v : Int32) : pz_E G (jx_u2 B 0 i v) (jx_u2 B' 0 i v) := by
  obtain ⟨a, b, c, d⟩ := h
  have o : ∀ (X : pz_Bt) rc j, rc ≠ 0 → jx_u2 X 0 i v rc j = X rc j := fun X rc j hn => by unfold jx_u2; rw [if_neg (fun z => hn z.1)]
  refine ⟨fun j hj h6 => ?_, fun g' f' l1 l2 => by rw [o _ _ _ (by omega), o _ _ _ (by omega)]; exact b g' f' l1 l2, fun g' j l1 l2 l3 => ?_, fun g' j l1 l2 l3 => ?_⟩
  · unfold jx_u2
    by_cases q : 0 = 0 ∧ j = i
    · rw [if_pos q, if_pos q]
    · rw [if_neg q, if_neg q]; exact a j hj h6
  · rw [o _ _ _ (by omega)] at l3
    rw [o _ _ _ (by omega), o _ _ _ (by omega)]; exact c g' j l1 l2 l3
  · rw [o _ _ _ (by omega)] at l3
    rw [o _ _ _ (by omega), o _ _ _ (by omega)]; exact d g' j l1 l2 l3
theorem E_ext {G : Nat} {B B' X X' : pz_Bt} (h : pz_E G B B') (h1 : ∀ rc i, rc = 0 ∨ 4 ≤ rc → X rc i = B rc i) (h2 : ∀ rc i, rc = 0 ∨ 4 ≤ rc → X' rc i = B' rc i) : pz_E G X X' := by
  obtain ⟨a, b, c, d⟩ := h
  refine ⟨fun j hj h6 => by rw [h1 0 j (Or.inl rfl), h2 0 j (Or.inl rfl)]; exact a j hj h6, fun g' f' l1 l2 => by rw [h1 _ _ (by omega), h2 _ _ (by omega)]; exact b g' f' l1 l2, fun g' j l1 l2 l3 => ?_, fun g' j l1 l2 l3 => ?_⟩
  · rw [h1 _ _ (by omega)] at l3 ⊢; rw [h2 _ _ (by omega)]; exact c g' j l1 l2 l3
  · rw [h1 _ _ (by omega)] at l3 ⊢; rw [h2 _ _ (by omega)]; exact d g' j l1 l2 l3
theorem E_sta {G : Nat} {B B' : pz_Bt} (h : pz_E G B B') (w : List Int32) : pz_E G (pz_staB B w 4) (pz_staB B' w 4) :=
  E_ext h (fun rc i hr => by unfold pz_staB; rw [if_neg (by omega)]) (fun rc i hr => by unfold pz_staB; rw [if_neg (by omega)])
theorem E_wB {G : Nat} {B B' : pz_Bt} (h : pz_E G B B') {g n : Nat} (hn : n ≤ 3) (T : Nat → List Int32) (k : Nat) : pz_E G (pz_wB B g T k n) (pz_wB B' g T k n) := by
  obtain ⟨a, b, c, d⟩ := h
  have o : ∀ (X : pz_Bt) rc i, ¬ (rc = 5 + 3 * g ∧ i < n) → ¬ (rc = 4 + 3 * g ∧ i = 8 ∧ n ≠ 0) → pz_wB X g T k n rc i = X rc i := fun X rc i q1 q2 => by unfold pz_wB; rw [if_neg q1, if_neg q2]
  refine ⟨fun i hi h6 => by rw [o _ _ _ (by omega) (by omega), o _ _ _ (by omega) (by omega)]; exact a i hi h6, fun g' f' l1 l2 => ?_, fun g' j l1 l2 l3 => ?_, fun g' j l1 l2 l3 => ?_⟩
  · by_cases q : 4 + 3 * g' = 4 + 3 * g ∧ f' = 8 ∧ n ≠ 0
    · unfold pz_wB; rw [if_neg (by omega), if_pos q, if_neg (by omega), if_pos q]
    · rw [o _ _ _ (by omega) q, o _ _ _ (by omega) q]; exact b g' f' l1 l2
  · by_cases q : 5 + 3 * g' = 5 + 3 * g ∧ j < n
    · unfold pz_wB; rw [if_pos q, if_pos q]
    · rw [o _ _ _ q (by omega), o _ _ _ q (by omega)]
      by_cases q2 : 4 + 3 * g' = 4 + 3 * g ∧ 8 = 8 ∧ n ≠ 0
      · unfold pz_wB at l3
        rw [if_neg (by omega), if_pos q2, nI_ltI (by omega) (by omega)] at l3
        exact absurd ⟨by omega, l3⟩ q
      · rw [o _ _ _ (by omega) q2] at l3; exact c g' j l1 l2 l3
  · rw [o _ _ _ (by omega) (by omega)] at l3
    rw [o _ _ _ (by omega) (by omega), o _ _ _ (by omega) (by omega)]; exact d g' j l1 l2 l3
theorem E_cB {G : Nat} {B B' : pz_Bt} (h : pz_E G B B') {g n : Nat} (hn : n ≤ 4) (T : Nat → List Int32) (k : Nat) : pz_E G (pz_cB B g T k n) (pz_cB B' g T k n) := by
  obtain ⟨a, b, c, d⟩ := h
  have o : ∀ (X : pz_Bt) rc i, ¬ (rc = 6 + 3 * g ∧ i < n) → ¬ (rc = 4 + 3 * g ∧ i = 9 ∧ n ≠ 0) → pz_cB X g T k n rc i = X rc i := fun X rc i q1 q2 => by unfold pz_cB; rw [if_neg q1, if_neg q2]
  refine ⟨fun i hi h6 => by rw [o _ _ _ (by omega) (by omega), o _ _ _ (by omega) (by omega)]; exact a i hi h6, fun g' f' l1 l2 => ?_, fun g' j l1 l2 l3 => ?_, fun g' j l1 l2 l3 => ?_⟩
  · by_cases q : 4 + 3 * g' = 4 + 3 * g ∧ f' = 9 ∧ n ≠ 0
    · unfold pz_cB; rw [if_neg (by omega), if_pos q, if_neg (by omega), if_pos q]
    · rw [o _ _ _ (by omega) q, o _ _ _ (by omega) q]; exact b g' f' l1 l2
  · rw [o _ _ _ (by omega) (by omega)] at l3
    rw [o _ _ _ (by omega) (by omega), o _ _ _ (by omega) (by omega)]; exact c g' j l1 l2 l3
  · by_cases q : 6 + 3 * g' = 6 + 3 * g ∧ j < n
    · unfold pz_cB; rw [if_pos q, if_pos q]
    · rw [o _ _ _ q (by omega), o _ _ _ q (by omega)]
      by_cases q2 : 4 + 3 * g' = 4 + 3 * g ∧ 9 = 9 ∧ n ≠ 0
      · unfold pz_cB at l3
        rw [if_neg (by omega), if_pos q2, nI_ltI (by omega) (by omega)] at l3
        exact absurd ⟨by omega, l3⟩ q
      · rw [o _ _ _ (by omega) q2] at l3; exact d g' j l1 l2 l3
theorem E_vv {G : Nat} {B B' : pz_Bt} (h : pz_E G B B') {g : Nat} (w : List Int32) : pz_E G (pz_vvB B g w) (pz_vvB B' g w) := by
  obtain ⟨a, b, c, d⟩ := h
  have o : ∀ (X : pz_Bt) rc i, ¬ (rc = 6 + 3 * g ∧ i = 0) → ¬ (rc = 4 + 3 * g ∧ i = 9) → pz_vvB X g w rc i = X rc i := fun X rc i q1 q2 => by unfold pz_vvB jx_u2; rw [if_neg q2, if_neg q1]
  refine ⟨fun i hi h6 => by rw [o _ _ _ (by omega) (by omega), o _ _ _ (by omega) (by omega)]; exact a i hi h6, fun g' f' l1 l2 => ?_, fun g' j l1 l2 l3 => ?_, fun g' j l1 l2 l3 => ?_⟩
  · by_cases q : 4 + 3 * g' = 4 + 3 * g ∧ f' = 9
    · unfold pz_vvB jx_u2; rw [if_pos q, if_pos q]
    · rw [o _ _ _ (by omega) q, o _ _ _ (by omega) q]; exact b g' f' l1 l2
  · rw [o _ _ _ (by omega) (by omega)] at l3
    rw [o _ _ _ (by omega) (by omega), o _ _ _ (by omega) (by omega)]; exact c g' j l1 l2 l3
  · by_cases q : 6 + 3 * g' = 6 + 3 * g ∧ j = 0
    · unfold pz_vvB jx_u2; rw [if_neg (by omega), if_pos q, if_neg (by omega), if_pos q]
    · rw [o _ _ _ q (by omega), o _ _ _ q (by omega)]
      by_cases q2 : 4 + 3 * g' = 4 + 3 * g ∧ 9 = 9
      · unfold pz_vvB jx_u2 at l3
        rw [if_pos q2] at l3
        have := (nI_ltI (a := j) (b := 1) (by omega) (by omega)).mp l3
        exact absurd ⟨by omega, by omega⟩ q
      · rw [o _ _ _ (by omega) q2] at l3; exact d g' j l1 l2 l3
theorem E_add {g : Nat} {B B' : pz_Bt} (h : pz_E g B B') : pz_E (g + 1) (sp_add B g) (sp_add B' g) := by
  obtain ⟨a, b, c, d⟩ := h
  have o : ∀ (X : pz_Bt) rc i, ¬ (rc = 0 ∧ i = 7) → ¬ (rc = 4 + 3 * g ∧ i < 10) → sp_add X g rc i = X rc i := fun X rc i q1 q2 => by unfold sp_add; rw [if_neg q1, if_neg q2]
  refine ⟨fun i hi h6 => ?_, fun g' f' l1 l2 => ?_, fun g' j l1 l2 l3 => ?_, fun g' j l1 l2 l3 => ?_⟩
  · by_cases q : i = 7
    · subst q; unfold sp_add; rw [if_pos ⟨rfl, rfl⟩, if_pos ⟨rfl, rfl⟩]
    · rw [o _ _ _ (by omega) (by omega), o _ _ _ (by omega) (by omega)]; exact a i hi h6
  · by_cases q : g' = g
    · subst q; rw [sp_add_own f' l2, sp_add_own f' l2]
    · rw [o _ _ _ (by omega) (by omega), o _ _ _ (by omega) (by omega)]; exact b g' f' (by omega) l2
  · by_cases q : g' = g
    · subst q; rw [sp_add_own 8 (by decide)] at l3; exact absurd l3 (pz_nlt0 (by omega) (by decide))
    · rw [o _ _ _ (by omega) (by omega)] at l3
      rw [o _ _ _ (by omega) (by omega), o _ _ _ (by omega) (by omega)]; exact c g' j (by omega) l2 l3
  · by_cases q : g' = g
    · subst q; rw [sp_add_own 9 (by decide)] at l3; exact absurd l3 (pz_nlt0 (by omega) (by decide))
    · rw [o _ _ _ (by omega) (by omega)] at l3
      rw [o _ _ _ (by omega) (by omega), o _ _ _ (by omega) (by omega)]; exact d g' j (by omega) l2 l3
section EQ
variable {G : Nat} {B B' : pz_Bt} {T : Nat → List Int32} {days : Int32} {g k : Nat} {lf : Int32}
theorem E_wnd (h : pz_E G B B') (w : List Int32) : pz_E G (pz_wndB B g w) (pz_wndB B' g w) := E_u (E_u (E_u h _ (by omega)) _ (by omega)) _ (by omega)
theorem E_cav (h : pz_E G B B') : pz_E G (pz_cavB B g) (pz_cavB B' g) := E_u (E_u (E_u h _ (by omega)) _ (fun _ => by decide)) _ (fun _ => by decide)
theorem E_clouds (h : pz_E G B B') : pz_Er G (sp_clouds T k B g) (sp_clouds T k B' g) := by
  unfold sp_clouds
  refine Er_if Iff.rfl (fun _ => ⟨rfl, rfl, E_u h _ (fun _ => by decide)⟩) (fun _ => Er_if Iff.rfl (fun _ => ⟨rfl, rfl, E_vv h _⟩) (fun _ => Er_if Iff.rfl (fun _ => ⟨rfl, rfl, h⟩) (fun _ => ⟨rfl, rfl, E_cB h (pz_cn_le 4 k 0) T k⟩)))
theorem E_sky (h : pz_E G B B') : pz_Er G (sp_sky T k B g) (sp_sky T k B' g) := by
  unfold sp_sky
  exact Er_if Iff.rfl (fun _ => ⟨rfl, rfl, E_cav h⟩) (fun _ => Er_if Iff.rfl (fun _ => E_clouds (E_wB (E_u (E_u h _ (by omega)) _ (fun _ => by decide)) (pz_wn_le 3 (k + 1)) T (k + 1))) (fun _ => ⟨rfl, rfl, h⟩))
theorem E_whole (h : pz_E G B B') : pz_Er G (sp_whole T k B g) (sp_whole T k B' g) := by
  unfold sp_whole
  exact Er_if Iff.rfl (fun _ => E_sky (E_wnd h _)) (fun _ => ⟨rfl, rfl, h⟩)
theorem E_p1 (h : pz_E G B B') : pz_Ep G (sp_p1 T k B g) (sp_p1 T k B' g) := by
  unfold sp_p1; exact Ep_if (fun _ => ⟨rfl, E_wnd h _⟩) (fun _ => ⟨rfl, h⟩)
theorem E_p2 (h : pz_E G B B') : pz_Ep G (sp_p2 T k B g) (sp_p2 T k B' g) := by
  unfold sp_p2; exact Ep_if (fun _ => ⟨rfl, E_u h _ (by omega)⟩) (fun _ => ⟨rfl, h⟩)
theorem E_p3 (h : pz_E G B B') : pz_Ep G (sp_p3 T k B g) (sp_p3 T k B' g) := by
  unfold sp_p3; exact Ep_if (fun _ => ⟨rfl, E_u h _ (fun _ => by decide)⟩) (fun _ => ⟨rfl, E_wB h (pz_wn_le 3 k) T k⟩)
theorem E_tells (h : pz_E G B B') (hg : g < G) : pz_tells B g ↔ pz_tells B' g := by
  unfold pz_tells
  rw [h.2.1 g 5 hg (by decide), h.2.1 g 7 hg (by decide), h.2.1 g 8 hg (by decide), h.2.1 g 9 hg (by decide)]
theorem E_p4 (h : pz_E G B B') (hg : g < G) : pz_Er G (sp_p4 T k B g) (sp_p4 T k B' g) := by
  unfold sp_p4
  have hc := E_clouds (T := T) (k := k) (g := g) h
  refine ⟨?_, hc.2⟩
  have ht := E_tells hc.2.2 hg
  dsimp only
  by_cases q : pz_tells (sp_clouds T k B g).2.2 g
  · rw [pz_ifp q, pz_ifp (ht.mp q)]
  · rw [pz_ifn q, pz_ifn (fun z => q (ht.mpr z))]
theorem E_parts (h : pz_E G B B') (hg : g < G) : pz_Er G (sp_parts T k B g) (sp_parts T k B' g) := by
  unfold sp_parts
  have h1 := E_p1 (T := T) (k := k) (g := g) h
  generalize sp_p1 T k B g = P at h1 ⊢
  generalize sp_p1 T k B' g = P' at h1 ⊢
  obtain ⟨k1, B1⟩ := P
  obtain ⟨k1', B1'⟩ := P'
  obtain ⟨e, h1⟩ := h1
  dsimp only at e h1 ⊢
  subst e
  refine Er_if Iff.rfl (fun _ => ⟨rfl, rfl, E_cav h1⟩) (fun _ => ?_)
  have h2 := E_p2 (T := T) (k := k1) (g := g) h1
  generalize sp_p2 T k1 B1 g = P at h2 ⊢
  generalize sp_p2 T k1 B1' g = P' at h2 ⊢
  obtain ⟨k2, B2⟩ := P
  obtain ⟨k2', B2'⟩ := P'
  obtain ⟨e, h2⟩ := h2
  dsimp only at e h2 ⊢
  subst e
  have h3 := E_p3 (T := T) (k := k2) (g := g) h2
  generalize sp_p3 T k2 B2 g = P at h3 ⊢
  generalize sp_p3 T k2 B2' g = P' at h3 ⊢
  obtain ⟨k3, B3⟩ := P
  obtain ⟨k3', B3'⟩ := P'
  obtain ⟨e, h3⟩ := h3
  dsimp only at e h3 ⊢
  subst e
  exact E_p4 h3 hg
theorem E_prob (h : pz_E G B B') : pz_Er G (sp_prob T k B g) (sp_prob T k B' g) := by
  unfold sp_prob
  exact Er_if Iff.rfl (fun _ => ⟨rfl, rfl, E_u h _ (by omega)⟩) (fun _ => ⟨rfl, rfl, E_u h _ (by omega)⟩)
theorem E_name (h : pz_E G B B') : pz_Er G (sp_name T k B g) (sp_name T k B' g) := by
  unfold sp_name
  exact Er_if Iff.rfl (fun _ => ⟨rfl, rfl, E_u h _ (by omega)⟩) (fun _ => Er_if Iff.rfl (fun _ => ⟨rfl, rfl, E_u h _ (by omega)⟩) (fun _ => Er_if Iff.rfl (fun _ => E_prob (E_u h _ (by omega))) (fun _ => Er_if Iff.rfl (fun _ => E_prob (E_u h _ (by omega))) (fun _ => ⟨rfl, rfl, h⟩))))
theorem E_per (h : pz_E G B B') (w : List Int32) (ea : Int32) : pz_E G (pz_perB B g days w ea) (pz_perB B' g days w ea) := E_u (E_u h _ (by omega)) _ (by omega)
theorem E_cper (h : pz_E G B B') (hg : g < G) : pz_Er G (sp_cper T days k B g) (sp_cper T days k B' g) := by
  unfold sp_cper
  rw [← h.2.1 0 2 (by omega) (by decide), ← h.2.1 0 3 (by omega) (by decide)]
  exact Er_if Iff.rfl (fun _ => E_parts (E_per h _ _) hg) (fun _ => ⟨rfl, rfl, h⟩)
theorem E_change (h : pz_E G B B') (hg : g < G) : pz_Er G (sp_change T days k B g lf).1 (sp_change T days k B' g lf).1 ∧ (sp_change T days k B g lf).2 = (sp_change T days k B' g lf).2 := by
  unfold sp_change
  rw [← h.2.1 0 2 (by omega) (by decide), ← h.2.1 0 3 (by omega) (by decide)]
  by_cases q : pz_fmo days (T k) (B (4 + 3 * 0) 2) (B (4 + 3 * 0) 3) lf
  · rw [pz_ifp q, pz_ifp q]
    exact ⟨E_whole (E_u (E_u (E_u h _ (by omega)) _ (by omega)) _ (by omega)), rfl⟩
  · rw [pz_ifn q, pz_ifn q]
    have hn := E_name (T := T) (k := k) (g := g) h
    generalize sp_name T k B g = P at hn ⊢
    generalize sp_name T k B' g = P' at hn ⊢
    obtain ⟨b1, k1, B1⟩ := P
    obtain ⟨b1', k1', B1'⟩ := P'
    obtain ⟨e1, e2, hn⟩ := hn
    dsimp only at e1 e2 hn ⊢
    subst e1
    subst e2
    by_cases q2 : b1 = true
    · rw [pz_ifp q2, pz_ifp q2]; exact ⟨E_cper hn hg, rfl⟩
    · rw [pz_ifn q2, pz_ifn q2]; exact ⟨⟨rfl, rfl, hn⟩, rfl⟩
theorem E_fl : ∀ (r g k : Nat) (B B' : pz_Bt) (lf : Int32), pz_E g B B' → (sp_fl T days r g k B lf).1 = (sp_fl T days r g k B' lf).1 ∧ (sp_fl T days r g k B lf).2.1 = (sp_fl T days r g k B' lf).2.1 ∧ ∀ c, (sp_fl T days r g k B lf).2.2 0 7 = nI c → c ≤ 9 → (B 0 7 = nI g) → g + r ≤ 9 → (sp_fl T days r g k B lf).1 = true → pz_E c (sp_fl T days r g k B lf).2.2 (sp_fl T days r g k B' lf).2.2 := by
  intro r
  induction r with
  | zero =>
    intro g k B B' lf h
    unfold sp_fl
    refine ⟨rfl, rfl, fun c hc hc9 hB hr _ => ?_⟩
    have : c = g := (nI_eq (by omega) (by omega)).mp (hc.symm.trans hB)
    rw [this]; exact h
  | succ r ih =>
    intro g k B B' lf h
    unfold sp_fl
    by_cases q : (T k).length = 0
    · rw [if_pos q, if_pos q]
      refine ⟨rfl, rfl, fun c hc hc9 hB hr _ => ?_⟩
      have : c = g := (nI_eq (by omega) (by omega)).mp (hc.symm.trans hB)
      rw [this]; exact h
    · rw [if_neg q, if_neg q]
      have hc := E_change (T := T) (days := days) (k := k) (g := g) (lf := lf) (E_add h) (by omega)
      have h7 : (sp_change T days k (sp_add B g) g lf).1.2.2 0 7 = nI (g + 1) := by
        rw [pz_fr_change 0 7 (by omega) (by omega) (by omega)]
        unfold sp_add
        rw [if_pos ⟨rfl, rfl⟩]
      generalize sp_change T days k (sp_add B g) g lf = P at hc h7 ⊢
      generalize sp_change T days k (sp_add B' g) g lf = P' at hc ⊢
      obtain ⟨⟨b1, k1, B1⟩, l1⟩ := P
      obtain ⟨⟨b1', k1', B1'⟩, l1'⟩ := P'
      obtain ⟨⟨e1, e2, hn⟩, e3⟩ := hc
      dsimp only at e1 e2 e3 hn h7 ⊢
      subst e1
      subst e2
      subst e3
      by_cases q2 : b1 = true
      · rw [pz_ifp q2, pz_ifp q2]
        obtain ⟨i1, i2, i3⟩ := ih (g + 1) k1 B1 B1' l1 hn
        exact ⟨i1, i2, fun c hc hc9 _ hr hs => i3 c hc hc9 h7 (by omega) hs⟩
      · rw [pz_ifn q2, pz_ifn q2]
        exact ⟨rfl, rfl, fun c _ _ _ _ hs => absurd hs Bool.false_ne_true⟩
/-- two readings of the same tokens -/
theorem E_read (T : Nat → List Int32) (days : Int32) (B0 B0' : pz_Bt) {c : Nat} (hs : (sp_read T days (sp_start B0 days)).1 = true) (hc : (sp_read T days (sp_start B0 days)).2.2 0 7 = nI c) (hc9 : c ≤ 9) : (sp_read T days (sp_start B0' days)).1 = true ∧ pz_E c (sp_read T days (sp_start B0 days)).2.2 (sp_read T days (sp_start B0' days)).2.2 := by
  have h0 : pz_E 1 (sp_start B0 days) (sp_start B0' days) := by
    refine E_add (g := 0) ⟨fun i hi h6 => ?_, fun g f l1 => absurd l1 (by omega), fun g f l1 => absurd l1 (by omega), fun g f l1 => absurd l1 (by omega)⟩
    rcases (by omega : i = 0 ∨ i = 1 ∨ i = 2 ∨ i = 3 ∨ i = 4 ∨ i = 5 ∨ i = 7) with rfl | rfl | rfl | rfl | rfl | rfl | rfl
    · simp [sp_start0, jx_u2]
    · simp [sp_start0, jx_u2]
    · simp [sp_start0, jx_u2]
    · simp [sp_start0, jx_u2]
    · simp [sp_start0, jx_u2]
    · simp [sp_start0, jx_u2]
    · simp [sp_start0, jx_u2]
  have b7 : sp_start B0 days 0 7 = nI 1 := sp_start_07
  generalize sp_start B0 days = B at hs hc h0 b7 ⊢
  generalize sp_start B0' days = B' at h0 ⊢
  have hh2 : ∀ (k : Nat) (X X' : pz_Bt), pz_E 1 X X' → X 0 7 = nI 1 → pz_Er 1 (sp_head2 T days k X) (sp_head2 T days k X') ∧ (sp_head2 T days k X).2.2 0 7 = nI 1 := fun k X X' hX h7 => by
    unfold sp_head2
    refine ⟨Er_if Iff.rfl (fun _ => Er_if Iff.rfl (fun _ => ⟨rfl, rfl, E_0 (E_sta hX _) _⟩) (fun _ => ⟨rfl, rfl, hX⟩)) (fun _ => ⟨rfl, rfl, hX⟩), ?_⟩
    exact pz_ife (P := fun r : pz_Rt => r.2.2 0 7 = nI 1) (fun _ => pz_ife (P := fun r : pz_Rt => r.2.2 0 7 = nI 1) (fun _ => by simp [jx_u2, pz_staB, h7]) (fun _ => h7)) (fun _ => h7)
  have hh : pz_Er 1 (sp_head T days 0 B) (sp_head T days 0 B') ∧ (sp_head T days 0 B).2.2 0 7 = nI 1 := by
    have x1 := hh2 1 _ _ (E_0 (i := 0) h0 1) (by simp [jx_u2, b7])
    have x2 := hh2 1 _ _ (E_0 (i := 0) h0 2) (by simp [jx_u2, b7])
    unfold sp_head
    refine ⟨Er_if Iff.rfl (fun _ => x1.1) (fun _ => Er_if Iff.rfl (fun _ => x2.1) (fun _ => ⟨rfl, rfl, h0⟩)), ?_⟩
    exact pz_ife (P := fun r : pz_Rt => r.2.2 0 7 = nI 1) (fun _ => x1.2) (fun _ => pz_ife (P := fun r : pz_Rt => r.2.2 0 7 = nI 1) (fun _ => x2.2) (fun _ => b7))
  have hb : ∀ (k : Nat) (X X' : pz_Bt), pz_E 1 X X' → X 0 7 = nI 1 → (sp_body T days k X).1 = (sp_body T days k X').1 ∧ (sp_body T days k X).2.1 = (sp_body T days k X').2.1 ∧ ((sp_body T days k X).1 = true → (sp_body T days k X).2.2 0 7 = nI c → pz_E c (sp_body T days k X).2.2 (sp_body T days k X').2.2) := by
    intro k X X' hX h7
    unfold sp_body
    rw [← hX.1 0 (by decide) (by decide)]
    by_cases q : X 0 0 = 1
    · rw [pz_ifp q, pz_ifp q]
      have hr : pz_Er 1 (sp_report T k X) (sp_report T k X') ∧ (sp_report T k X).2.2 0 7 = nI 1 := by
        unfold sp_report
        have hw := E_whole (T := T) (k := k) (g := 0) hX
        have f7 : (sp_whole T k X 0).2.2 0 7 = nI 1 := (pz_fr_whole 0 7 (by decide) (by decide) (by decide)).trans h7
        generalize sp_whole T k X 0 = P at hw f7 ⊢
        generalize sp_whole T k X' 0 = P' at hw ⊢
        obtain ⟨b1, k1, B1⟩ := P
        obtain ⟨b1', k1', B1'⟩ := P'
        obtain ⟨e1, e2, hn⟩ := hw
        dsimp only at e1 e2 hn f7 ⊢
        subst e1
        subst e2
        by_cases q2 : b1 = true
        · rw [pz_ifp q2, pz_ifp q2]
          unfold sp_tem sp_prs
          exact ⟨Er_if Iff.rfl (fun _ => Er_if Iff.rfl (fun _ => ⟨rfl, rfl, E_0 (E_0 (E_0 hn _) _) _⟩) (fun _ => ⟨rfl, rfl, E_0 (E_0 hn _) _⟩)) (fun _ => ⟨rfl, rfl, hn⟩), pz_ife (P := fun r : pz_Rt => r.2.2 0 7 = nI 1) (fun _ => pz_ife (P := fun r : pz_Rt => r.2.2 0 7 = nI 1) (fun _ => by simp [jx_u2, f7]) (fun _ => by simp [jx_u2, f7])) (fun _ => f7)⟩
        · rw [pz_ifn q2, pz_ifn q2]; exact ⟨⟨rfl, rfl, hn⟩, f7⟩
      refine ⟨hr.1.1, hr.1.2.1, fun _ e => ?_⟩
      have ec : c = 1 := (nI_eq (by omega) (by omega)).mp (e.symm.trans hr.2)
      rw [ec]; exact hr.1.2.2
    · rw [pz_ifn q, pz_ifn q]
      unfold sp_forecast
      rw [← hX.1 2 (by decide) (by decide)]
      by_cases q2 : pz_fpo days (T k) (pz_ed (X 0 2))
      · rw [pz_ifp q2, pz_ifp q2]
        have hp := E_per (days := days) (g := 0) hX (T k) (pz_ed (X 0 2))
        have f7p : pz_perB X 0 days (T k) (pz_ed (X 0 2)) 0 7 = nI 1 := (pz_fr_per 0 7 (by decide) (by decide) (by decide)).trans h7
        generalize pz_perB X 0 days (T k) (pz_ed (X 0 2)) = Y at hp f7p ⊢
        generalize pz_perB X' 0 days (T k) (pz_ed (X 0 2)) = Y' at hp ⊢
        have hw := E_whole (T := T) (k := k + 1) (g := 0) hp
        have f7 : (sp_whole T (k + 1) Y 0).2.2 0 7 = nI 1 := (pz_fr_whole 0 7 (by decide) (by decide) (by decide)).trans f7p
        generalize sp_whole T (k + 1) Y 0 = P at hw f7 ⊢
        generalize sp_whole T (k + 1) Y' 0 = P' at hw ⊢
        obtain ⟨b1, k1, B1⟩ := P
        obtain ⟨b1', k1', B1'⟩ := P'
        obtain ⟨e1, e2, hn⟩ := hw
        dsimp only at e1 e2 hn f7 ⊢
        subst e1
        subst e2
        by_cases q3 : b1 = true
        · rw [pz_ifp q3, pz_ifp q3]
          obtain ⟨i1, i2, i3⟩ := E_fl (T := T) (days := days) 8 1 k1 B1 B1' (-1) hn
          exact ⟨i1, i2, fun hs hc => i3 c hc hc9 f7 (by decide) hs⟩
        · rw [pz_ifn q3, pz_ifn q3]; exact ⟨rfl, rfl, fun z => absurd z q3⟩
      · rw [pz_ifn q2, pz_ifn q2]; exact ⟨rfl, rfl, fun z => absurd z Bool.false_ne_true⟩
  have ha : (sp_all T days B).1 = (sp_all T days B').1 ∧ (sp_all T days B).2.1 = (sp_all T days B').2.1 ∧ ((sp_all T days B).1 = true → (sp_all T days B).2.2 0 7 = nI c → pz_E c (sp_all T days B).2.2 (sp_all T days B').2.2) := by
    unfold sp_all
    generalize sp_head T days 0 B = P at hh ⊢
    generalize sp_head T days 0 B' = P' at hh ⊢
    obtain ⟨b1, k1, B1⟩ := P
    obtain ⟨b1', k1', B1'⟩ := P'
    obtain ⟨⟨e1, e2, hn⟩, f7⟩ := hh
    dsimp only at e1 e2 hn f7 ⊢
    subst e1
    subst e2
    by_cases q3 : b1 = true
    · rw [pz_ifp q3, pz_ifp q3]; exact hb k1 B1 B1' hn f7
    · rw [pz_ifn q3, pz_ifn q3]; exact ⟨rfl, rfl, fun z => absurd z q3⟩
  have hr : (sp_all T days B).1 = true ∧ (T (sp_all T days B).2.1).length = 0 := by
    by_cases z : (sp_all T days B).1 = true ∧ (T (sp_all T days B).2.1).length = 0
    · exact z
    · rw [sp_read_f z] at hs; exact absurd hs Bool.false_ne_true
  have hr' : (sp_all T days B').1 = true ∧ (T (sp_all T days B').2.1).length = 0 := by rw [← ha.1, ← ha.2.1]; exact hr
  rw [sp_read_t hr] at hc ⊢
  rw [sp_read_t hr']
  exact ⟨rfl, ha.2.2 hr.1 hc⟩
end EQ
