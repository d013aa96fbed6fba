/-! ===== ceiling, next ===== -/
section VT
variable {x m : jx_St} {b : Nat} {B : pz_Bt} {c : Nat} {post : Int32 → jx_St → Prop}
def ncl (B : pz_Bt) (g : Nat) : Nat := (B (4 + 3 * g) 9).toNatClampNeg
theorem wf_cl {g : Nat} (hG : wf_G B g) : ncl B g ≤ 4 ∧ (∀ j, j < ncl B g → nI j < B (4 + 3 * g) 9 ∧ ∃ u : Nat, u < 32768 ∧ u / 8 % 1024 < 1000 ∧ B (6 + 3 * g) j = nI u) ∧ B (4 + 3 * g) 9 ≤ nI (ncl B g) := by
  unfold ncl
  rcases hG.2.2.1 with z | ⟨n, n4, e, hn⟩
  · rw [z]
    exact ⟨by decide, fun j hj => absurd hj (by
      have : ((-1 : Int32)).toNatClampNeg = 0 := by decide
      omega), by decide⟩
  · rw [e, pz_cl (by omega)]
    exact ⟨n4, fun j hj => ⟨nI_lt hj (by omega), hn j hj⟩, nI_le (Nat.le_refl _) (by omega)⟩
theorem kX1_lower (h : vq_c x b B) {g : Nat} (hg : g < 9) (hG : wf_G B g) {v : Nat} (hv : v ≤ 1000) (hp : post (enc (lwn B g (ncl B g) 0 v)) x) : wX1_lowerCeiling post (b + 4 + 3 * g) (enc v) x :=
  ⟨ncl B g + 1, kX1_lower_l h hg (wf_cl hG).1 (wf_cl hG).2.1 (wf_cl hG).2.2 (ncl B g) 0 v (by omega) hv hp⟩
theorem qX4_lowest (h : vq_m m B c) (h9 : c ≤ 9) {g : Nat} (hg : g < c) (hG : wf_G B g) {v : Nat} (hv : v ≤ 1000) (hp : post (nI (lwn B g (ncl B g) 0 v)) m) : wX4_lowest post 0 (nI g) (nI v) m :=
  ⟨ncl B g + 1, qX4_lowest_l h h9 hg (wf_cl hG).1 (wf_cl hG).2.1 (wf_cl hG).2.2 (ncl B g) 0 v (by omega) hv hp⟩
noncomputable def clr (B : pz_Bt) (t : Int32) : Nat → Nat → Nat → Nat
  | 0, _, v => v
  | r + 1, g, v => clr B t r (g + 1) (pz_if (vq_a B g t) (lwn B g (ncl B g) 0 v) v)
theorem kX0_ceil_l (h : vq_c x b B) (hw : vq_w B c) {t : Int32} : ∀ (r g v : Nat), g + r = c → v ≤ 1000 → post (enc (clr B t r g v)) x → wX0_lowestCeiling_l20 post (r + 1) b t 1 (enc v) (nI g) x := by
  have h7 := hw.1
  have h9 := hw.2.1
  intro r
  induction r with
  | zero =>
    intro g v e hv hp
    unfold wX0_lowestCeiling_l20
    rw [vc_0 h 7 (by decide), h7]
    exact ⟨ok_b h.1, fun _ => hp, fun z => absurd (nI_le (by omega) (by omega)) z⟩
  | succ r ih =>
    intro g v e hv hp
    have hg : g < 9 := by omega
    rw [clr] at hp
    unfold wX0_lowestCeiling_l20
    rw [vc_0 h 7 (by decide), h7, vc_r8 h, pz_cl (by omega), vc_rg h hg]
    refine ⟨ok_b h.1, fun z => absurd z (nI_ge (by omega) (by omega)), fun _ => ⟨fun z => absurd z (nI_ge (b := 9) hg (by decide)), fun _ => ⟨fun z => absurd z (by decide), fun _ => ⟨ix_gs h.1 hg, ok_g h.1 hg, kX1_isActiveAt h hg t (fun q _ => ⟨fun z => absurd z (by decide), fun _ => ?_⟩) (fun q _ => ⟨fun _ y ey => ?_, fun z => absurd rfl z⟩)⟩⟩⟩⟩
    · rw [vc_r8 h, vc_rg h hg]
      rw [pz_ifp q] at hp
      refine ⟨ix_gs h.1 hg, ok_g h.1 hg, kX1_lower h hg (vw_G hw (by omega)) hv (fun y ey => ?_)⟩
      rw [ey, nI_1]; exact ih (g + 1) _ (by omega) (lwn_le _ _ _ hv) hp
    · rw [pz_ifn q] at hp
      rw [ey, nI_1]; exact ih (g + 1) _ (by omega) hv hp
theorem kX0_ceil_0 (h : vq_c x b B) (hw : vq_w B c) {t v : Int32} : ∀ (r g : Nat), g + r = c → post v x → wX0_lowestCeiling_l20 post (r + 1) b t 0 v (nI g) x := by
  have h7 := hw.1
  have h9 := hw.2.1
  intro r
  induction r with
  | zero =>
    intro g e hp
    unfold wX0_lowestCeiling_l20
    rw [vc_0 h 7 (by decide), h7]
    exact ⟨ok_b h.1, fun _ => hp, fun z => absurd (nI_le (by omega) (by omega)) z⟩
  | succ r ih =>
    intro g e hp
    unfold wX0_lowestCeiling_l20
    rw [vc_0 h 7 (by decide), h7]
    refine ⟨ok_b h.1, fun z => absurd z (nI_ge (by omega) (by omega)), fun _ => ⟨fun z => absurd z (nI_ge (b := 9) (by omega) (by decide)), fun _ => ⟨fun _ y ey => ?_, fun z => absurd rfl z⟩⟩⟩
    rw [ey, nI_1]; exact ih (g + 1) (by omega) hp
theorem enc_f {v : Nat} (hv : v ≤ 1000) (hp : post (enc v) m) : ((¬ nI v = 1000) → post (nI v) m) ∧ ((nI v = 1000) → post (-2) m) := by
  unfold enc at hp
  refine ⟨fun q => ?_, fun q => ?_⟩
  · rw [if_neg (fun z => q (by rw [z]; rfl))] at hp; exact hp
  · have : v = 1000 := (nI_eq (b := 1000) (by omega) (by decide)).mp q
    rw [if_pos this] at hp; exact hp
theorem qX4_ceil_l (h : vq_m m B c) (hw : vq_w B c) {t : Int32} : ∀ (r g v : Nat), g + r = c → v ≤ 1000 → post (enc (clr B t r g v)) m → wX4_ceiling_l37 post (r + 1) 0 t 1 (nI v) (nI g) m := by
  have h9 := hw.2.1
  intro r
  induction r with
  | zero =>
    intro g v e hv hp
    unfold wX4_ceiling_l37
    rw [h.2.2.1]
    exact ⟨ok_m, fun _ => enc_f hv hp, fun z => absurd (nI_le (by omega) (by omega)) z⟩
  | succ r ih =>
    intro g v e hv hp
    rw [clr] at hp
    unfold wX4_ceiling_l37
    rw [h.2.2.1]
    refine ⟨ok_m, fun z => absurd z (nI_ge (by omega) (by omega)), fun _ => ⟨fun z => absurd rfl z, fun _ => qX4_isActive h h9 (by omega) t (fun q _ => ⟨fun z => absurd z (by decide), fun _ => ?_⟩) (fun q _ => ⟨fun _ y ey => ?_, fun z => absurd rfl z⟩)⟩⟩
    · rw [pz_ifp q] at hp
      refine qX4_lowest h h9 (by omega) (vw_G hw (by omega)) hv (fun y ey => ?_)
      rw [ey, nI_1]; exact ih (g + 1) _ (by omega) (lwn_le _ _ _ hv) hp
    · rw [pz_ifn q] at hp
      rw [ey, nI_1]; exact ih (g + 1) _ (by omega) hv hp
theorem q_ceiling (h : Rl x m) (a1 a2 : Int32) : wX3_ceiling (fun r x' => wX4_ceiling (fun r' m' => r = r' ∧ Rl x' m') 0 a1 a2 m) 0 a1 a2 x := by
  obtain ⟨b, B, c, hc, hm, hw⟩ := Rl_v h
  have h9 := hw.2.1
  have hf : vq_p 3 9 9 := Or.inr (Or.inr (Or.inr ⟨rfl, rfl, rfl⟩))
  have bad : ∀ (v : Int32), v = -1 → (¬ vq_i B a1 ∨ a2 < 0 ∨ ¬ a2 ≤ 1) → wX4_ceiling (fun r' m' => v = r' ∧ Rl x m') 0 a1 a2 m := fun v ev hq => by
    subst ev
    unfold wX4_ceiling
    refine ⟨ok_m, qX4_isMinute hm hw a1 (fun q _ => ⟨fun z => absurd z (by decide), fun _ => ⟨fun _ => ⟨rfl, h⟩, fun q0 => ⟨fun q1 => ?_, fun _ => ⟨rfl, h⟩⟩⟩⟩) (fun q _ => ⟨fun _ => ⟨rfl, h⟩, fun z => absurd rfl z⟩)⟩
    rcases hq with z | z | z
    · exact absurd q z
    · exact absurd z q0
    · exact absurd q1 z
  unfold wX3_ceiling
  rw [hc.2.1]
  refine ⟨ok_sb, ok_b hc.1, kX0_covers hc a1 (fun q _ => ⟨fun z => absurd z (by decide), fun _ => ⟨fun q0 => bad _ rfl (Or.inr (Or.inl q0)), fun q0 => ⟨fun q1 => ?_, fun q1 => bad _ rfl (Or.inr (Or.inr q1))⟩⟩⟩) (fun q _ => ⟨fun _ => bad _ rfl (Or.inl q), fun z => absurd rfl z⟩)⟩
  have c1 := vq_i1 hw q
  obtain ⟨z, hz, ez, _⟩ := tel_r (t := a1) hw c1 hf
  have hz9 : z < 9 := by omega
  have e2 : (-2 : Int32) = enc 1000 := by decide
  rw [hc.2.1]
  refine ⟨fun qn => ⟨ok_b hc.1, ?_⟩, fun qn => ⟨ok_b hc.1, ?_⟩⟩
  · unfold wX0_lowestCeiling
    refine ⟨ok_b hc.1, kX0_teller hc hw.1 h9 c1 hf ?_⟩
    rw [ez, vc_r8 hc, pz_cl (by omega), vc_rg hc hz9, e2]
    refine ⟨ix_gs hc.1 hz9, ok_g hc.1 hz9, kX1_lower hc hz9 (vw_G hw hz) (Nat.le_refl _) ⟨c - 1 + 1, kX0_ceil_0 hc hw (c - 1) 1 (by omega) ?_⟩⟩
    unfold wX4_ceiling
    refine ⟨ok_m, qX4_isMinute hm hw a1 (fun _ _ => ⟨fun y => absurd y (by decide), fun _ => ⟨fun y => absurd y q0, fun _ => ⟨fun _ => qX4_teller hm hw c1 hf rfl ?_, fun y => absurd q1 y⟩⟩⟩) (fun y => absurd q y)⟩
    rw [ez]
    refine qX4_lowest hm h9 hz (vw_G hw hz) (v := 1000) (Nat.le_refl _) ⟨1, ?_⟩
    have fin := enc_f (m := m) (post := fun r' m' => enc (lwn B z (ncl B z) 0 1000) = r' ∧ Rl x m') (lwn_le (B := B) (g := z) (ncl B z) 0 1000 (Nat.le_refl _)) ⟨rfl, h⟩
    unfold wX4_ceiling_l37
    exact ⟨ok_m, fun _ => fin, fun _ => ⟨fun _ => fin, fun y => absurd y qn⟩⟩
  · subst qn
    unfold wX0_lowestCeiling
    refine ⟨ok_b hc.1, kX0_teller hc hw.1 h9 c1 hf ?_⟩
    rw [ez, vc_r8 hc, pz_cl (by omega), vc_rg hc hz9, e2]
    refine ⟨ix_gs hc.1 hz9, ok_g hc.1 hz9, kX1_lower hc hz9 (vw_G hw hz) (Nat.le_refl _) ⟨c - 1 + 1, kX0_ceil_l hc hw (c - 1) 1 _ (by omega) (lwn_le _ _ _ (Nat.le_refl _)) ?_⟩⟩
    unfold wX4_ceiling
    refine ⟨ok_m, qX4_isMinute hm hw a1 (fun _ _ => ⟨fun y => absurd y (by decide), fun _ => ⟨fun y => absurd y q0, fun _ => ⟨fun _ => qX4_teller hm hw c1 hf rfl ?_, fun y => absurd q1 y⟩⟩⟩) (fun y => absurd q y)⟩
    rw [ez]
    exact qX4_lowest hm h9 hz (vw_G hw hz) (v := 1000) (Nat.le_refl _) ⟨c - 1 + 1, qX4_ceil_l hm hw (c - 1) 1 _ (by omega) (lwn_le _ _ _ (Nat.le_refl _)) ⟨rfl, h⟩⟩
/-- another weather than the minute before -/
def oth (B : pz_Bt) (c : Nat) (t : Int32) : Prop := (¬ tel B c 5 t = tel B c 5 (t - 1)) ∨ (¬ tel B c 7 t = tel B c 7 (t - 1)) ∨ (¬ tel B c 8 t = tel B c 8 (t - 1)) ∨ (¬ tel B c 9 t = tel B c 9 (t - 1)) ∨ ∃ g, 1 ≤ g ∧ g < c ∧ ¬ (vq_a B g t ↔ vq_a B g (t - 1))
theorem kX0_isTurn_34 (h : vq_c x b B) (hw : vq_w B c) {t : Int32} : ∀ (r g : Nat), g + r = c → ((∃ g', g ≤ g' ∧ g' < c ∧ ¬ (vq_a B g' t ↔ vq_a B g' (t - 1))) → post 1 x) → (¬ (∃ g', g ≤ g' ∧ g' < c ∧ ¬ (vq_a B g' t ↔ vq_a B g' (t - 1))) → post 0 x) → wX0_isTurn_l34 post (r + 1) b t (nI g) x := by
  have h7 := hw.1
  have h9 := hw.2.1
  intro r
  induction r with
  | zero =>
    intro g e h1 h0
    unfold wX0_isTurn_l34
    rw [vc_0 h 7 (by decide), h7]
    exact ⟨ok_b h.1, fun _ => h0 (fun ⟨g', a1, a2, _⟩ => by omega), fun z => absurd (nI_le (by omega) (by omega)) z⟩
  | succ r ih =>
    intro g e h1 h0
    have hg : g < 9 := by omega
    unfold wX0_isTurn_l34
    rw [vc_0 h 7 (by decide), h7, vc_r8 h, pz_cl (by omega), vc_rg h hg]
    have next : (vq_a B g t ↔ vq_a B g (t - 1)) → ∀ y : Int32, y = nI g + 1 → wX0_isTurn_l34 post (r + 1) b t y x := fun q y ey => by
      rw [ey, nI_1]
      refine ih (g + 1) (by omega) (fun ⟨g', a1, a2, a3⟩ => h1 ⟨g', by omega, a2, a3⟩) (fun z => h0 (fun ⟨g', a1, a2, a3⟩ => z ⟨g', ?_, a2, a3⟩))
      by_cases y : g' = g
      · rw [y] at a3; exact absurd q a3
      · omega
    refine ⟨ok_b h.1, fun z => absurd z (nI_ge (by omega) (by omega)), fun _ => ⟨fun z => absurd z (nI_ge (b := 9) hg (by decide)), fun _ => ⟨ix_gs h.1 hg, ok_g h.1 hg, kX1_isActiveAt h hg t (fun q _ => ?_) (fun q _ => ?_)⟩⟩⟩
    · rw [vc_r8 h, vc_rg h hg]
      refine ⟨ix_gs h.1 hg, ok_g h.1 hg, kX1_isActiveAt h hg (t - 1) (fun q2 _ => ⟨fun _ => next ⟨fun _ => q2, fun _ => q⟩, fun z => absurd rfl z⟩) (fun q2 _ => ⟨fun z => absurd z (by decide), fun _ => h1 ⟨g, Nat.le_refl _, by omega, fun z => q2 (z.mp q)⟩⟩)⟩
    · rw [vc_r8 h, vc_rg h hg]
      refine ⟨ix_gs h.1 hg, ok_g h.1 hg, kX1_isActiveAt h hg (t - 1) (fun q2 _ => ⟨fun z => absurd z (by decide), fun _ => h1 ⟨g, Nat.le_refl _, by omega, fun z => q (z.mpr q2)⟩⟩) (fun q2 _ => ⟨fun _ => next ⟨fun z => absurd z q, fun z => absurd z q2⟩, fun z => absurd rfl z⟩)⟩
theorem kX0_isTurn (h : vq_c x b B) (hw : vq_w B c) (hc : 1 ≤ c) {t : Int32} (h1 : oth B c t → post 1 x) (h0 : ¬ oth B c t → post 0 x) : wX0_isTurn post b t x := by
  have h7 := hw.1
  have h9 := hw.2.1
  have p0 : vq_p 0 5 4 := Or.inl ⟨rfl, rfl, rfl⟩
  have p1 : vq_p 1 7 7 := Or.inr (Or.inl ⟨rfl, rfl, rfl⟩)
  have p2 : vq_p 2 8 8 := Or.inr (Or.inr (Or.inl ⟨rfl, rfl, rfl⟩))
  have p3 : vq_p 3 9 9 := Or.inr (Or.inr (Or.inr ⟨rfl, rfl, rfl⟩))
  refine ⟨5, ?_⟩
  unfold wX0_isTurn_l2
  refine ⟨fun z => absurd z (by decide), fun _ => ⟨ok_b h.1, kX0_teller h h7 h9 hc p0 (kX0_teller h h7 h9 hc p0 ⟨fun q y ey => ?_, fun q => h1 (Or.inl q)⟩)⟩⟩
  rw [ey]
  unfold wX0_isTurn_l2
  refine ⟨fun z => absurd z (by decide), fun _ => ⟨ok_b h.1, kX0_teller h h7 h9 hc p1 (kX0_teller h h7 h9 hc p1 ⟨fun q1 y1 ey1 => ?_, fun q1 => h1 (Or.inr (Or.inl q1))⟩)⟩⟩
  rw [ey1]
  unfold wX0_isTurn_l2
  refine ⟨fun z => absurd z (by decide), fun _ => ⟨ok_b h.1, kX0_teller h h7 h9 hc p2 (kX0_teller h h7 h9 hc p2 ⟨fun q2 y2 ey2 => ?_, fun q2 => h1 (Or.inr (Or.inr (Or.inl q2)))⟩)⟩⟩
  rw [ey2]
  unfold wX0_isTurn_l2
  refine ⟨fun z => absurd z (by decide), fun _ => ⟨ok_b h.1, kX0_teller h h7 h9 hc p3 (kX0_teller h h7 h9 hc p3 ⟨fun q3 y3 ey3 => ?_, fun q3 => h1 (Or.inr (Or.inr (Or.inr (Or.inl q3))))⟩)⟩⟩
  rw [ey3]
  unfold wX0_isTurn_l2
  refine ⟨fun _ => ⟨c - 1 + 1, kX0_isTurn_34 h hw (c - 1) 1 (by omega) (fun z => h1 (Or.inr (Or.inr (Or.inr (Or.inr z))))) (fun z => h0 (fun y => ?_))⟩, fun z => absurd (by decide) z⟩
  rcases y with y | y | y | y | y
  · exact y q
  · exact y q1
  · exact y q2
  · exact y q3
  · exact z y
theorem qX4_isOther_50 (h : vq_m m B c) (hw : vq_w B c) {t : Int32} : ∀ (r g : Nat) (a : Int32), g + r = c → (a = 0 ∨ a = 1) → ((a = 1 ∨ ∃ g', g ≤ g' ∧ g' < c ∧ ¬ (vq_a B g' t ↔ vq_a B g' (t - 1))) → post 1 m) → (¬ (a = 1 ∨ ∃ g', g ≤ g' ∧ g' < c ∧ ¬ (vq_a B g' t ↔ vq_a B g' (t - 1))) → post 0 m) → wX4_isOther_l50 post (r + 1) 0 t a (nI g) m := by
  have h9 := hw.2.1
  intro r
  induction r with
  | zero =>
    intro g a e ha h1 h0
    unfold wX4_isOther_l50
    rw [h.2.2.1]
    refine ⟨ok_m, fun _ => ⟨ha, ?_⟩, fun z => absurd (nI_le (by omega) (by omega)) z⟩
    rcases ha with rfl | rfl
    · refine h0 (fun z => ?_)
      rcases z with z | ⟨g', a1, a2, _⟩
      · exact absurd z (by decide)
      · omega
    · exact h1 (Or.inl rfl)
  | succ r ih =>
    intro g a e ha h1 h0
    unfold wX4_isOther_l50
    rw [h.2.2.1]
    have yes : (a = 1 ∨ ¬ (vq_a B g t ↔ vq_a B g (t - 1))) → ∀ y : Int32, y = nI g + 1 → wX4_isOther_l50 post (r + 1) 0 t 1 y m := fun q y ey => by
      rw [ey, nI_1]
      refine ih (g + 1) 1 (by omega) (Or.inr rfl) (fun _ => h1 ?_) (fun z => absurd (Or.inl rfl) z)
      rcases q with q | q
      · exact Or.inl q
      · exact Or.inr ⟨g, Nat.le_refl _, by omega, q⟩
    have no : a = 0 → (vq_a B g t ↔ vq_a B g (t - 1)) → ∀ y : Int32, y = nI g + 1 → wX4_isOther_l50 post (r + 1) 0 t 0 y m := fun q0 q y ey => by
      rw [ey, nI_1]
      refine ih (g + 1) 0 (by omega) (Or.inl rfl) (fun z => h1 ?_) (fun z => h0 (fun y => z ?_))
      · rcases z with z | ⟨g', a1, a2, a3⟩
        · exact absurd z (by decide)
        · exact Or.inr ⟨g', by omega, a2, a3⟩
      · rcases y with y | ⟨g', a1, a2, a3⟩
        · rw [q0] at y; exact absurd y (by decide)
        · refine Or.inr ⟨g', ?_, a2, a3⟩
          by_cases w : g' = g
          · rw [w] at a3; exact absurd q a3
          · omega
    refine ⟨ok_m, fun z => absurd z (nI_ge (by omega) (by omega)), fun _ => ⟨fun q => yes (Or.inl ?_), fun q => qX4_isActive h h9 (by omega) t (fun q1 _ => ?_) (fun q1 _ => ?_)⟩⟩
    · rcases ha with z | z
      · exact absurd z q
      · exact z
    · exact qX4_isActive h h9 (by omega) (t - 1) (fun q2 _ => ⟨fun _ => no q ⟨fun _ => q2, fun _ => q1⟩, fun z => absurd rfl z⟩) (fun q2 _ => ⟨fun z => absurd z (by decide), fun _ => yes (Or.inr (fun z => q2 (z.mp q1)))⟩)
    · exact qX4_isActive h h9 (by omega) (t - 1) (fun q2 _ => ⟨fun z => absurd z (by decide), fun _ => yes (Or.inr (fun z => q1 (z.mpr q2)))⟩) (fun q2 _ => ⟨fun _ => no q ⟨fun z => absurd z q1, fun z => absurd z q2⟩, fun z => absurd rfl z⟩)
/-- one part more -/
theorem qX4_isOther_s (h : vq_m m B c) (hw : vq_w B c) (hc : 1 ≤ c) {t p : Int32} {f f' n : Nat} (hf : vq_p p f f') (hpp : p = 0 ∧ f' = 4 ∨ ¬ p = 0 ∧ 6 + p = nI f') (h4 : ¬ 4 ≤ p) {a : Int32} (ha : a = 0 ∨ a = 1) (hp : ∀ a' : Int32, (a' = 0 ∨ a' = 1) → (a' = 1 ↔ (a = 1 ∨ ¬ tel B c f t = tel B c f (t - 1))) → wX4_isOther_l4 post n 0 t a' (p + 1) m) : wX4_isOther_l4 post (n + 1) 0 t a p m := by
  unfold wX4_isOther_l4
  refine ⟨fun z => absurd z h4, fun _ => ⟨fun q y ey => ?_, fun q => ?_⟩⟩
  · rw [ey]
    refine hp 1 (Or.inr rfl) ⟨fun _ => Or.inl ?_, fun _ => rfl⟩
    rcases ha with z | z
    · exact absurd z q
    · exact z
  · refine qX4_part hpp ⟨ok_m, qX4_teller h hw hc hf rfl (qX4_part hpp (qX4_teller h hw hc hf rfl ⟨fun q2 y ey => ?_, fun q2 y ey => ?_⟩))⟩
    · rw [ey]
      refine hp 0 (Or.inl rfl) ⟨fun z => absurd z (by decide), fun z => ?_⟩
      rcases z with z | z
      · rw [q] at z; exact absurd z (by decide)
      · exact absurd q2 z
    · rw [ey]
      exact hp 1 (Or.inr rfl) ⟨fun _ => Or.inr q2, fun _ => rfl⟩
theorem qX4_isOther (h : vq_m m B c) (hw : vq_w B c) (hc : 1 ≤ c) {t : Int32} (h1 : oth B c t → post 1 m) (h0 : ¬ oth B c t → post 0 m) : wX4_isOther post 0 t m := by
  have p0 : vq_p 0 5 4 := Or.inl ⟨rfl, rfl, rfl⟩
  have p1 : vq_p 1 7 7 := Or.inr (Or.inl ⟨rfl, rfl, rfl⟩)
  have p2 : vq_p 2 8 8 := Or.inr (Or.inr (Or.inl ⟨rfl, rfl, rfl⟩))
  have p3 : vq_p 3 9 9 := Or.inr (Or.inr (Or.inr ⟨rfl, rfl, rfl⟩))
  refine ⟨5, qX4_isOther_s h hw hc p0 (Or.inl ⟨rfl, rfl⟩) (by decide) (Or.inl rfl) (fun a1 k1 e1 => qX4_isOther_s h hw hc p1 (Or.inr ⟨by decide, by decide⟩) (by decide) k1 (fun a2 k2 e2 => qX4_isOther_s h hw hc p2 (Or.inr ⟨by decide, by decide⟩) (by decide) k2 (fun a3 k3 e3 => qX4_isOther_s h hw hc p3 (Or.inr ⟨by decide, by decide⟩) (by decide) k3 (fun a4 k4 e4 => ?_))))⟩
  unfold wX4_isOther_l4
  have ee : (a4 = 1 ∨ ∃ g', 1 ≤ g' ∧ g' < c ∧ ¬ (vq_a B g' t ↔ vq_a B g' (t - 1))) ↔ oth B c t := by
    rw [e4, e3, e2, e1]
    unfold oth
    constructor
    · rintro ((((((z | z) | z) | z) | z)) | z)
      · exact absurd z (by decide)
      · exact Or.inl z
      · exact Or.inr (Or.inl z)
      · exact Or.inr (Or.inr (Or.inl z))
      · exact Or.inr (Or.inr (Or.inr (Or.inl z)))
      · exact Or.inr (Or.inr (Or.inr (Or.inr z)))
    · rintro (z | z | z | z | z)
      · exact Or.inl (Or.inl (Or.inl (Or.inl (Or.inr z))))
      · exact Or.inl (Or.inl (Or.inl (Or.inr z)))
      · exact Or.inl (Or.inl (Or.inr z))
      · exact Or.inl (Or.inr z)
      · exact Or.inr z
  refine ⟨fun _ => ⟨c - 1 + 1, qX4_isOther_50 h hw (c - 1) 1 a4 (by omega) k4 (fun z => h1 (ee.mp z)) (fun z => h0 (fun y => z (ee.mpr y)))⟩, fun z => absurd (by decide) z⟩
end VT
