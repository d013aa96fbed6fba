/-! ===== active, activeOne, least, ceiling ===== -/
section VS
variable {x m : jx_St} {b : Nat} {B : pz_Bt} {c : Nat} {post : Int32 → jx_St → Prop}
noncomputable def acr (B : pz_Bt) (t : Int32) : Nat → Nat → Int32 → Int32
  | 0, _, n => n
  | r + 1, g, n => acr B t r (g + 1) (pz_if (vq_a B g t) (n + 1) n)
theorem kX0_countActive_l (h : vq_c x b B) (h7 : B 0 7 = nI c) (h9 : c ≤ 9) {t : Int32} : ∀ (r g : Nat) (n : Int32), g + r = c → post (acr B t r g n) x → wX0_countActive_l4 post (r + 1) b t n (nI g) x := by
  intro r
  induction r with
  | zero =>
    intro g n e hp
    unfold wX0_countActive_l4
    rw [vc_0 h 7 (by decide), h7]
    exact ⟨ok_b h.1, fun _ => hp, fun z => absurd (nI_le (by omega) (by omega)) z⟩
  | succ r ih =>
    intro g n e hp
    have hg : g < 9 := by omega
    rw [acr] at hp
    unfold wX0_countActive_l4
    rw [vc_0 h 7 (by decide), h7, vc_r8 h, pz_cl (by omega), vc_rg h hg]
    refine ⟨ok_b h.1, fun z => absurd z (nI_ge (by omega) (by omega)), fun _ => ⟨fun z => absurd z (nI_ge (b := 9) hg (by decide)), fun _ => ⟨ix_gs h.1 hg, ok_g h.1 hg, kX1_isActiveAt h hg t (fun q _ => ⟨fun z => absurd z (by decide), fun _ y ey z ez => ?_⟩) (fun q _ => ⟨fun _ y ey => ?_, fun z => absurd rfl z⟩)⟩⟩⟩
    · rw [pz_ifp q] at hp
      rw [ey, ez, nI_1]; exact ih (g + 1) _ (by omega) hp
    · rw [pz_ifn q] at hp
      rw [ey, nI_1]; exact ih (g + 1) _ (by omega) hp
theorem qX4_active_l (h : vq_m m B c) (hw : vq_w B c) {t : Int32} (hi : vq_i B t) : ∀ (r g : Nat) (n : Int32), g + r = c → post (acr B t r g n) m → wX4_active_l4 post (r + 1) 0 t n (nI g) m := by
  have h9 := hw.2.1
  intro r
  induction r with
  | zero =>
    intro g n e hp
    unfold wX4_active_l4 wX4_active_b43
    rw [h.2.2.1]
    exact ⟨ok_m, fun _ => ⟨ok_m, qX4_isMinute h hw t (fun _ _ => ⟨fun z => absurd z (by decide), fun _ => hp⟩) (fun z => absurd hi z)⟩, fun z => absurd (nI_le (by omega) (by omega)) z⟩
  | succ r ih =>
    intro g n e hp
    rw [acr] at hp
    unfold wX4_active_l4
    rw [h.2.2.1]
    refine ⟨ok_m, fun z => absurd z (nI_ge (by omega) (by omega)), fun _ => qX4_isMinute h hw t (fun _ _ => ⟨fun z => absurd z (by decide), fun _ => qX4_isActive h h9 (by omega) t (fun q _ => ⟨fun z => absurd z (by decide), fun _ y ey z ez => ?_⟩) (fun q _ => ⟨fun _ y ey z ez => ?_, fun z => absurd rfl z⟩)⟩) (fun z => absurd hi z)⟩
    · rw [pz_ifp q] at hp
      rw [ey, ez, nI_1]; exact ih (g + 1) _ (by omega) hp
    · rw [pz_ifn q] at hp
      rw [ey, ez, nI_1, show n + 0 = n from Int32.add_zero n]; exact ih (g + 1) _ (by omega) hp
theorem q_active (h : Rl x m) (a1 : Int32) : wX3_active (fun r x' => wX4_active (fun r' m' => r = r' ∧ Rl x' m') 0 a1 m) 0 a1 x := by
  obtain ⟨b, B, c, hc, hm, hw⟩ := Rl_v h
  have h9 := hw.2.1
  unfold wX3_active
  rw [hc.2.1]
  refine ⟨ok_sb, ok_b hc.1, kX0_covers hc a1 (fun q _ => ⟨fun z => absurd z (by decide), fun _ => ?_⟩) (fun q _ => ⟨fun _ => ?_, fun z => absurd rfl z⟩)⟩
  · rw [hc.2.1]
    have c1 := vq_i1 hw q
    refine ⟨ok_b hc.1, c - 1 + 1, kX0_countActive_l hc hw.1 h9 (c - 1) 1 0 (by omega) ⟨c - 1 + 1, qX4_active_l hm hw q (c - 1) 1 0 (by omega) ⟨rfl, h⟩⟩⟩
  · rcases Nat.lt_or_ge 1 c with z | z
    · refine ⟨1, ?_⟩
      unfold wX4_active_l4
      rw [hm.2.2.1]
      exact ⟨ok_m, fun y => absurd (pz_lew (b := 1) (by omega) y) (by omega), fun _ => qX4_isMinute hm hw a1 (fun y => absurd y q) (fun _ _ => ⟨fun _ => ⟨ok_m, qX4_isMinute hm hw a1 (fun y => absurd y q) (fun _ _ => ⟨fun _ => ⟨rfl, h⟩, fun y => absurd rfl y⟩)⟩, fun y => absurd rfl y⟩)⟩
    · refine ⟨1, ?_⟩
      unfold wX4_active_l4
      rw [hm.2.2.1]
      exact ⟨ok_m, fun _ => ⟨ok_m, qX4_isMinute hm hw a1 (fun y => absurd y q) (fun _ _ => ⟨fun _ => ⟨rfl, h⟩, fun y => absurd rfl y⟩)⟩, fun y => absurd (nI_le (b := 1) z (by decide)) y⟩
noncomputable def anr (B : pz_Bt) (t i : Int32) : Nat → Nat → Int32 → Int32
  | 0, _, _ => -1
  | r + 1, g, n => pz_if (vq_a B g t) (pz_if (n = i) (nI g) (anr B t i r (g + 1) (n + 1))) (anr B t i r (g + 1) n)
theorem kX0_findActive_l (h : vq_c x b B) (h7 : B 0 7 = nI c) (h9 : c ≤ 9) {t i : Int32} : ∀ (r g : Nat) (n : Int32), g + r = c → post (anr B t i r g n) x → wX0_findActive_l5 post (r + 1) b t i n (nI g) x := by
  intro r
  induction r with
  | zero =>
    intro g n e hp
    unfold wX0_findActive_l5
    rw [vc_0 h 7 (by decide), h7]
    exact ⟨ok_b h.1, fun _ => hp, fun z => absurd (nI_le (by omega) (by omega)) z⟩
  | succ r ih =>
    intro g n e hp
    have hg : g < 9 := by omega
    rw [anr] at hp
    unfold wX0_findActive_l5
    rw [vc_0 h 7 (by decide), h7, vc_r8 h, pz_cl (by omega), vc_rg h hg]
    refine ⟨ok_b h.1, fun z => absurd z (nI_ge (by omega) (by omega)), fun _ => ⟨fun z => absurd z (nI_ge (b := 9) hg (by decide)), fun _ => ⟨ix_gs h.1 hg, ok_g h.1 hg, kX1_isActiveAt h hg t (fun q _ => ⟨fun z => absurd z (by decide), fun _ => ⟨fun q2 y ey z ez => ?_, fun q2 => ?_⟩⟩) (fun q _ => ⟨fun _ y ey => ?_, fun z => absurd rfl z⟩)⟩⟩⟩
    · rw [pz_ifp q, pz_ifn q2] at hp
      rw [ey, ez, nI_1]; exact ih (g + 1) _ (by omega) hp
    · rw [pz_ifp q, pz_ifp q2] at hp
      exact hp
    · rw [pz_ifn q] at hp
      rw [ey, nI_1]; exact ih (g + 1) _ (by omega) hp
theorem qX4_activeOne_l (h : vq_m m B c) (hw : vq_w B c) {t i : Int32} (hi : vq_i B t) : ∀ (r g : Nat) (n : Int32), g + r = c → post (anr B t i r g n) m → wX4_activeOne_l5 post (r + 1) 0 t i n (nI g) m := by
  have h9 := hw.2.1
  intro r
  induction r with
  | zero =>
    intro g n e hp
    unfold wX4_activeOne_l5
    rw [h.2.2.1]
    exact ⟨ok_m, fun _ => hp, fun z => absurd (nI_le (by omega) (by omega)) z⟩
  | succ r ih =>
    intro g n e hp
    rw [anr] at hp
    unfold wX4_activeOne_l5
    rw [h.2.2.1]
    refine ⟨ok_m, fun z => absurd z (nI_ge (by omega) (by omega)), fun _ => qX4_isMinute h hw t (fun _ _ => ⟨fun z => absurd z (by decide), fun _ => qX4_isActive h h9 (by omega) t (fun q _ => ⟨fun z => absurd z (by decide), fun _ => ⟨fun q2 => ?_, fun q2 => ?_⟩⟩) (fun q _ => ⟨fun _ => ?_, fun z => absurd rfl z⟩)⟩) (fun z => absurd hi z)⟩
    · rw [pz_ifp q, pz_ifn q2] at hp
      unfold wX4_activeOne_b44
      refine ⟨fun z => absurd z (by decide), fun _ y ey z ez => ?_⟩
      rw [ey, ez, nI_1]; exact ih (g + 1) _ (by omega) hp
    · rw [pz_ifp q, pz_ifp q2] at hp
      exact hp
    · rw [pz_ifn q] at hp
      unfold wX4_activeOne_b44
      refine ⟨fun _ y ey z ez => ?_, fun z => absurd rfl z⟩
      rw [ey, ez, nI_1, show n + 0 = n from Int32.add_zero n]; exact ih (g + 1) _ (by omega) hp
theorem q_activeOne (h : Rl x m) (a1 a2 : Int32) : wX3_activeOne (fun r x' => wX4_activeOne (fun r' m' => r = r' ∧ Rl x' m') 0 a1 a2 m) 0 a1 a2 x := by
  obtain ⟨b, B, c, hc, hm, hw⟩ := Rl_v h
  have h9 := hw.2.1
  unfold wX3_activeOne
  rw [hc.2.1]
  refine ⟨ok_sb, ok_b hc.1, kX0_covers hc a1 (fun q _ => ⟨fun z => absurd z (by decide), fun _ => ?_⟩) (fun q _ => ⟨fun _ => ?_, fun z => absurd rfl z⟩)⟩
  · rw [hc.2.1]
    have c1 := vq_i1 hw q
    refine ⟨ok_b hc.1, c - 1 + 1, kX0_findActive_l hc hw.1 h9 (c - 1) 1 0 (by omega) ⟨c - 1 + 1, qX4_activeOne_l hm hw q (c - 1) 1 0 (by omega) ⟨rfl, h⟩⟩⟩
  · refine ⟨1, ?_⟩
    unfold wX4_activeOne_l5
    rw [hm.2.2.1]
    exact ⟨ok_m, fun _ => ⟨rfl, h⟩, fun _ => qX4_isMinute hm hw a1 (fun y => absurd y q) (fun _ _ => ⟨fun _ => ⟨rfl, h⟩, fun y => absurd rfl y⟩)⟩
noncomputable def lsr (B : pz_Bt) (t : Int32) : Nat → Nat → Int32 → Int32
  | 0, _, v => v
  | r + 1, g, v => lsr B t r (g + 1) (pz_if (vq_a B g t ∧ ¬ B (4 + 3 * g) 7 = -1 ∧ B (4 + 3 * g) 7 < v) (B (4 + 3 * g) 7) v)
theorem kX0_least_l (h : vq_c x b B) (h7 : B 0 7 = nI c) (h9 : c ≤ 9) {t : Int32} : ∀ (r g : Nat) (v : Int32), g + r = c → post (lsr B t r g v) x → wX0_leastVisibility_l17 post (r + 1) b t v (nI g) x := by
  intro r
  induction r with
  | zero =>
    intro g n e hp
    unfold wX0_leastVisibility_l17
    rw [vc_0 h 7 (by decide), h7]
    exact ⟨ok_b h.1, fun _ => hp, fun z => absurd (nI_le (by omega) (by omega)) z⟩
  | succ r ih =>
    intro g v e hp
    have hg : g < 9 := by omega
    rw [lsr] at hp
    unfold wX0_leastVisibility_l17
    rw [vc_0 h 7 (by decide), h7, vc_r8 h, pz_cl (by omega), vc_rg h hg]
    refine ⟨ok_b h.1, fun z => absurd z (nI_ge (by omega) (by omega)), fun _ => ⟨fun z => absurd z (nI_ge (b := 9) hg (by decide)), fun _ => ⟨ix_gs h.1 hg, ok_g h.1 hg, kX1_isActiveAt h hg t (fun q _ => ⟨fun z => absurd z (by decide), fun _ => ?_⟩) (fun q _ => ⟨fun _ y ey => ?_, fun z => absurd rfl z⟩)⟩⟩⟩
    · rw [vc_r8 h, vc_rg h hg]
      refine ⟨ix_gs h.1 hg, ok_g h.1 hg, kX1_tells h hg (f := 7) (f' := 7) (Or.inr (Or.inl ⟨rfl, rfl, rfl⟩)) (fun q2 _ => ⟨fun z => absurd z (by decide), fun _ => ?_⟩) (fun q2 _ => ⟨fun _ y ey => ?_, fun z => absurd rfl z⟩)⟩
      · rw [vc_r8 h, vc_rg h hg, vc_g h hg 7]
        refine ⟨ix_gs h.1 hg, ok_g h.1 hg, fun y ey z ez => ?_⟩
        rw [ez, nI_1]
        by_cases q3 : B (4 + 3 * g) 7 < v
        · rw [if_pos q3] at ey
          rw [pz_ifp ⟨q, q2, q3⟩] at hp
          rw [ey]; exact ih (g + 1) _ (by omega) hp
        · rw [if_neg q3] at ey
          rw [pz_ifn (fun z => q3 z.2.2)] at hp
          rw [ey]; exact ih (g + 1) _ (by omega) hp
      · rw [pz_ifn (fun z => z.2.1 q2)] at hp
        rw [ey, nI_1]; exact ih (g + 1) _ (by omega) hp
    · rw [pz_ifn (fun z => q z.1)] at hp
      rw [ey, nI_1]; exact ih (g + 1) _ (by omega) hp
theorem qX4_least_l (h : vq_m m B c) (hw : vq_w B c) {t : Int32} : ∀ (r g : Nat) (v : Int32), g + r = c → post (lsr B t r g v) m → wX4_least_l31 post (r + 1) 0 t v (nI g) m := by
  have h9 := hw.2.1
  intro r
  induction r with
  | zero =>
    intro g n e hp
    unfold wX4_least_l31
    rw [h.2.2.1]
    exact ⟨ok_m, fun _ => hp, fun z => absurd (nI_le (by omega) (by omega)) z⟩
  | succ r ih =>
    intro g v e hp
    rw [lsr] at hp
    unfold wX4_least_l31
    rw [h.2.2.1, vm_25 h, show ((10 * nI g) + 7 : Int32) = nI (10 * g + 7) from pz_10g g 7, pz_cl (by omega), vm_t h (by omega) (by decide)]
    refine ⟨ok_m, fun z => absurd z (nI_ge (by omega) (by omega)), fun _ => ⟨ix9 (by omega) (by decide), fun w ew => qX4_isActive h h9 (by omega) t (fun q _ => ⟨fun z => absurd z (by decide), fun _ => ⟨fun q2 y ey => ?_, fun q2 => ⟨fun q3 y ey => ?_, fun q3 y ey => ?_⟩⟩⟩) (fun q _ => ⟨fun _ y ey => ?_, fun z => absurd rfl z⟩)⟩⟩
    · rw [ew] at q2
      rw [pz_ifn (fun z => z.2.1 q2)] at hp
      rw [ey, nI_1]; exact ih (g + 1) _ (by omega) hp
    · rw [ew] at q3
      rw [pz_ifn (fun z => absurd z.2.2 (Int32.not_lt.mpr q3))] at hp
      rw [ey, nI_1]; exact ih (g + 1) _ (by omega) hp
    · rw [ew] at q2 q3
      rw [pz_ifp ⟨q, q2, Int32.not_le.mp q3⟩] at hp
      rw [ey, nI_1, ew]; exact ih (g + 1) _ (by omega) hp
    · rw [pz_ifn (fun z => q z.1)] at hp
      rw [ey, nI_1]; exact ih (g + 1) _ (by omega) hp
theorem q_least (h : Rl x m) (a1 : Int32) : wX3_least (fun r x' => wX4_least (fun r' m' => r = r' ∧ Rl x' m') 0 a1 m) 0 a1 x := by
  obtain ⟨b, B, c, hc, hm, hw⟩ := Rl_v h
  have h9 := hw.2.1
  unfold wX3_least
  rw [hc.2.1]
  refine ⟨ok_sb, ok_b hc.1, kX0_covers hc a1 (fun q _ => ⟨fun z => absurd z (by decide), fun _ => ?_⟩) (fun q _ => ⟨fun _ => ?_, fun z => absurd rfl z⟩)⟩
  · rw [hc.2.1]
    have c1 := vq_i1 hw q
    have hf : vq_p 1 7 7 := Or.inr (Or.inl ⟨rfl, rfl, rfl⟩)
    obtain ⟨z, hz, ez, _⟩ := tel_r (t := a1) hw c1 hf
    have hz9 : z < 9 := by omega
    refine ⟨ok_b hc.1, ?_⟩
    unfold wX0_leastVisibility
    refine ⟨ok_b hc.1, kX0_teller hc hw.1 h9 c1 hf ?_⟩
    rw [ez, vc_r8 hc, pz_cl (by omega), vc_rg hc hz9, vc_g hc hz9]
    refine ⟨ix_gs hc.1 hz9, ok_g hc.1 hz9, fun v ev => ⟨c - 1 + 1, kX0_least_l hc hw.1 h9 (c - 1) 1 v (by omega) ?_⟩⟩
    subst ev
    unfold wX4_least
    refine ⟨ok_m, qX4_isMinute hm hw a1 (fun _ _ => ⟨fun _ => qX4_teller hm hw c1 hf rfl ?_, fun y => absurd y (by decide)⟩) (fun y => absurd q y)⟩
    rw [ez, vm_25 hm, show ((10 * nI z) + 7 : Int32) = nI (10 * z + 7) from pz_10g z 7, pz_cl (by omega), vm_t hm hz (by decide)]
    refine ⟨ix9 hz9 (by decide), fun v ev => ⟨c - 1 + 1, qX4_least_l hm hw (c - 1) 1 v (by omega) ?_⟩⟩
    subst ev
    exact ⟨rfl, h⟩
  · unfold wX4_least
    exact ⟨ok_m, qX4_isMinute hm hw a1 (fun y => absurd y q) (fun _ _ => ⟨fun y => absurd rfl y, fun _ => ⟨rfl, h⟩⟩)⟩
/-- the lowest ceiling, 1000 for none -/
def lwn (B : pz_Bt) (g : Nat) : Nat → Nat → Nat → Nat
  | 0, _, v => v
  | r + 1, j, v => lwn B g r (j + 1) (if 3 ≤ (B (6 + 3 * g) j).toNatClampNeg % 8 ∧ (B (6 + 3 * g) j).toNatClampNeg / 8 % 1024 < v then (B (6 + 3 * g) j).toNatClampNeg / 8 % 1024 else v)
theorem lwn_le {B : pz_Bt} {g : Nat} : ∀ (r j v : Nat), v ≤ 1000 → lwn B g r j v ≤ 1000 := by
  intro r
  induction r with
  | zero => intro j v h; exact h
  | succ r ih =>
    intro j v h
    rw [lwn]
    refine ih (j + 1) _ ?_
    split <;> omega
def enc (v : Nat) : Int32 := if v = 1000 then -2 else nI v
theorem pz_amt {u : Nat} (h : u < 32768) : (nI u &&& 7 : Int32) = nI (u % 8) ∧ (nI u - nI u / 8 * 8 : Int32) = nI (u % 8) := by
  refine ⟨?_, pk_rem (d := 8) (by omega) (by decide) (by decide)⟩
  exact pk_andN (n := u) (by omega) 3 (by decide)
theorem wf_cn {g0 : Nat} (hG : wf_G B g0) : ∃ n : Nat, n ≤ 4 ∧ (∀ j, j < n → nI j < B (4 + 3 * g0) 9 ∧ ∃ u : Nat, u < 32768 ∧ u / 8 % 1024 < 1000 ∧ B (6 + 3 * g0) j = nI u) ∧ B (4 + 3 * g0) 9 ≤ nI n ∧ (∀ j, j ≤ n → j < n ∨ B (4 + 3 * g0) 9 ≤ nI j) := by
  rcases hG.2.2.1 with z | ⟨n, n4, e, hn⟩
  · refine ⟨0, by omega, fun j hj => absurd hj (by omega), by rw [z]; decide, fun j hj => Or.inr ?_⟩
    have : j = 0 := by omega
    rw [z, this]; decide
  · refine ⟨n, n4, fun j hj => ⟨by rw [e]; exact nI_lt hj (by omega), hn j hj⟩, by rw [e]; exact nI_le (Nat.le_refl _) (by omega), fun j hj => ?_⟩
    rcases Nat.lt_or_ge j n with y | y
    · exact Or.inl y
    · right; rw [e]; exact nI_le y (by omega)
theorem kX1_lower_l (h : vq_c x b B) {g n : Nat} (hg : g < 9) (n4 : n ≤ 4) (hn : ∀ j, j < n → nI j < B (4 + 3 * g) 9 ∧ ∃ u : Nat, u < 32768 ∧ u / 8 % 1024 < 1000 ∧ B (6 + 3 * g) j = nI u) (he : B (4 + 3 * g) 9 ≤ nI n) : ∀ (r j v : Nat), j + r = n → v ≤ 1000 → post (enc (lwn B g r j v)) x → wX1_lowerCeiling_l4 post (r + 1) (b + 4 + 3 * g) (enc v) (nI j) x := by
  have hr := (h.2.2.1.2.2.2 g hg).2.2
  have hgc := ok_gc h.1 hg
  intro r
  induction r with
  | zero =>
    intro j v e hv hp
    have ej : j = n := by omega
    subst ej
    unfold wX1_lowerCeiling_l4
    rw [vc_g h hg 9]
    exact ⟨ok_g h.1 hg, fun _ => hp, fun z => absurd he z⟩
  | succ r ih =>
    intro j v e hv hp
    obtain ⟨hj, u, hu, hu2, eu⟩ := hn j (by omega)
    rw [lwn, eu, pz_cl (by omega)] at hp
    unfold wX1_lowerCeiling_l4 wX1_heightOf wX1_amountOf
    dsimp only
    rw [vc_g h hg 9, hr, pz_cl (by omega), vc_6 h hg, eu, (pz_amt hu).1]
    have eh : ((nI u >>> (3 &&& 31)) &&& 1023 : Int32) = nI (u / 8 % 1024) := (pz_hgt_q (u := u) (by omega)).1
    rw [eh]
    have ix : jx_ix jx_LX 6 (b + 6 + 3 * g) (nI j) := ⟨hgc.1, by rw [hgc.2]; exact vp_in_nI (by omega) (by decide)⟩
    refine ⟨ok_g h.1 hg, fun z => absurd z (Int32.not_le.mpr hj), fun _ => ⟨fun z => absurd (pz_lew (a := 4) (by decide) z) (by omega), fun _ => ⟨ix, ix, fun q y ey => ?_, fun q => ⟨fun q2 y ey => ?_, fun q2 => ⟨fun q3 y ey => ?_, fun q3 y ey => ?_⟩⟩⟩⟩⟩
    · have nq : ¬ (3 ≤ u % 8 ∧ u / 8 % 1024 < v) := fun z => by
        have := (nI_ltI (b := 3) (by omega) (by decide)).mp q
        omega
      rw [if_neg nq] at hp
      rw [ey, nI_1]; exact ih (j + 1) v (by omega) hv hp
    · have v1 : v = 1000 := by
        unfold enc at q2
        by_cases z : v = 1000
        · exact z
        · rw [if_neg z] at q2
          exact absurd q2 (fun y => by
            have := congrArg Int32.toInt y
            rw [nI_toInt (by omega)] at this
            have h2 : ((-2 : Int32)).toInt = -2 := by decide
            rw [h2] at this
            omega)
      have yq : 3 ≤ u % 8 ∧ u / 8 % 1024 < v := ⟨by
        rcases Nat.lt_or_ge (u % 8) 3 with z | z
        · exact absurd (nI_lt (b := 3) z (by decide)) q
        · exact z, by omega⟩
      rw [if_pos yq] at hp
      rw [ey, nI_1]
      have := ih (j + 1) (u / 8 % 1024) (by omega) (by omega) hp
      unfold enc at this
      rw [if_neg (by omega)] at this
      exact this
    · have v1 : ¬ v = 1000 := fun z => q2 (by rw [z]; rfl)
      unfold enc at q3
      rw [if_neg v1] at q3
      have nq : ¬ (3 ≤ u % 8 ∧ u / 8 % 1024 < v) := fun z => by
        have := pz_lew (by omega) q3
        omega
      rw [if_neg nq] at hp
      rw [ey, nI_1]; exact ih (j + 1) v (by omega) hv hp
    · have v1 : ¬ v = 1000 := fun z => q2 (by rw [z]; rfl)
      unfold enc at q3
      rw [if_neg v1] at q3
      have yq : 3 ≤ u % 8 ∧ u / 8 % 1024 < v := ⟨by
        rcases Nat.lt_or_ge (u % 8) 3 with z | z
        · exact absurd (nI_lt (b := 3) z (by decide)) q
        · exact z, by
        rcases Nat.lt_or_ge (u / 8 % 1024) v with z | z
        · exact z
        · exact absurd (nI_le z (by omega)) q3⟩
      rw [if_pos yq] at hp
      rw [ey, nI_1]
      have := ih (j + 1) (u / 8 % 1024) (by omega) (by omega) hp
      unfold enc at this
      rw [if_neg (by omega)] at this
      exact this
theorem qX4_lowest_l (h : vq_m m B c) (h9 : c ≤ 9) {g n : Nat} (hg : g < c) (n4 : n ≤ 4) (hn : ∀ j, j < n → nI j < B (4 + 3 * g) 9 ∧ ∃ u : Nat, u < 32768 ∧ u / 8 % 1024 < 1000 ∧ B (6 + 3 * g) j = nI u) (he : B (4 + 3 * g) 9 ≤ nI n) : ∀ (r j v : Nat), j + r = n → v ≤ 1000 → post (nI (lwn B g r j v)) m → wX4_lowest_l5 post (r + 1) 0 (nI g) (nI v) (nI j) m := by
  intro r
  induction r with
  | zero =>
    intro j v e hv hp
    have ej : j = n := by omega
    subst ej
    unfold wX4_lowest_l5
    rw [vm_25 h, show ((10 * nI g) + 9 : Int32) = nI (10 * g + 9) from pz_10g g 9, pz_cl (by omega), vm_t h hg (by decide)]
    exact ⟨ok_m, ix9 (by omega) (by decide), fun _ => hp, fun z => absurd he z⟩
  | succ r ih =>
    intro j v e hv hp
    obtain ⟨hj, u, hu, hu2, eu⟩ := hn j (by omega)
    rw [lwn, eu, pz_cl (by omega)] at hp
    unfold wX4_lowest_l5
    rw [vm_25 h, vm_27 h, show ((10 * nI g) + 9 : Int32) = nI (10 * g + 9) from pz_10g g 9, pz_cl (by omega), vm_t h hg (by decide), show ((4 * nI g) + nI j : Int32) = nI (4 * g + j) by rw [show (4 : Int32) = nI 4 from rfl, pk_mul, nI_add], pz_cl (by omega), h.2.2.2.2.2.1 g j hg (by omega) hj, eu]
    refine ⟨ok_m, ix9 (by omega) (by decide), fun z => absurd z (Int32.not_le.mpr hj), fun _ => ⟨ix_m (by decide) rfl (by omega) (by decide), fun y5 e5 y6 e6 => ?_⟩⟩
    subst e5
    rw [(pz_hgt_q (u := u) (by omega)).2] at e6
    subst e6
    rw [(pz_amt hu).2]
    refine ⟨fun q y ey => ?_, fun q => ⟨fun q3 y ey => ?_, fun q3 y ey => ?_⟩⟩
    · have nq : ¬ (3 ≤ u % 8 ∧ u / 8 % 1024 < v) := fun z => by
        have := (nI_ltI (b := 3) (by omega) (by decide)).mp q
        omega
      rw [if_neg nq] at hp
      rw [ey, nI_1]; exact ih (j + 1) v (by omega) hv hp
    · have nq : ¬ (3 ≤ u % 8 ∧ u / 8 % 1024 < v) := fun z => by
        have := pz_lew (by omega) q3
        omega
      rw [if_neg nq] at hp
      rw [ey, nI_1]; exact ih (j + 1) v (by omega) hv hp
    · have yq : 3 ≤ u % 8 ∧ u / 8 % 1024 < v := ⟨by
        rcases Nat.lt_or_ge (u % 8) 3 with z | z
        · exact absurd (nI_lt (b := 3) z (by decide)) q
        · exact z, by
        rcases Nat.lt_or_ge (u / 8 % 1024) v with z | z
        · exact z
        · exact absurd (nI_le z (by omega)) q3⟩
      rw [if_pos yq] at hp
      rw [ey, nI_1]; exact ih (j + 1) _ (by omega) (by omega) hp
end VS
