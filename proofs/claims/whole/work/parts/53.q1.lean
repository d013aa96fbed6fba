/-! ===== weather, clouds; the questions of a minute ===== -/
section VR
variable {x m : jx_St} {b : Nat} {B : pz_Bt} {c : Nat} {post : Int32 → jx_St → Prop}
theorem vm_26 (h : vq_m m B c) : m.2 0 26 = 10 := h.1.2.2.2.2.2.2.2.2.2.1
theorem vm_27 (h : vq_m m B c) : m.2 0 27 = 11 := h.1.2.2.2.2.2.2.2.2.2.2.1
theorem vw_G (hw : vq_w B c) {g : Nat} (hg : g < c) : wf_G B g := by
  obtain ⟨h7, h9, hk⟩ := hw
  rcases hk with z | z
  · omega
  · exact (z.2.1 g hg).1
theorem q_weather (h : Rl x m) (a1 a2 : Int32) : wX3_weather (fun r x' => wX4_weather (fun r' m' => r = r' ∧ Rl x' m') 0 a1 a2 m) 0 a1 a2 x := by
  obtain ⟨b, B, c, hc, hm, hw⟩ := Rl_v h
  have h9 := hw.2.1
  unfold wX3_weather
  rw [hc.2.1]
  refine ⟨ok_sb, ok_b hc.1, kX0_hasGroup hc hw.1 h9 a1 (fun g hg e _ => ⟨fun z => absurd z (by decide), fun _ => ?_⟩) (fun z _ => ⟨fun _ => ?_, fun y => absurd rfl y⟩)⟩
  · have hg9 : g < 9 := by omega
    have hr := (hc.2.2.1.2.2.2 g hg9).2.1
    have ref : ∀ v : Int32, (a2 < 0 → v = -1) → (¬ a2 < 0 → ¬ a2 < B (4 + 3 * g) 8 → v = -1) → (¬ a2 < 0 → a2 < B (4 + 3 * g) 8 → v = B (5 + 3 * g) a2.toNatClampNeg) → wX4_weather (fun r' m' => v = r' ∧ Rl x m') 0 a1 a2 m := by
      intro v v1 v2 v3
      unfold wX4_weather
      refine ⟨ok_m, qX4_isGroup hm hw a1 (fun g' hg' e' _ => ⟨fun z => absurd z (by decide), fun _ => ?_⟩) (fun z => absurd z (pz_out (by omega) hg e))⟩
      rw [vm_25 hm, vm_26 hm, e, show ((10 * nI g) + 8 : Int32) = nI (10 * g + 8) from pz_10g g 8, pz_cl (by omega), hm.2.2.2.1 g 8 hg (by decide)]
      refine ⟨fun q => ⟨v1 q, h⟩, fun q => ⟨ix9 hg9 (by decide), fun q2 => ⟨v2 q (Int32.not_lt.mpr q2), h⟩, fun q2 => ?_⟩⟩
      have q3 : a2 < B (4 + 3 * g) 8 := Int32.not_le.mp q2
      obtain ⟨j, hj, ej⟩ : ∃ j : Nat, j < 3 ∧ a2 = nI j := by
        rcases (vw_G hw hg).2.1 with z | ⟨n, hn, z⟩
        · rw [z] at q3
          exact absurd (Int32.lt_trans q3 (by decide)) q
        · rw [z] at q2
          obtain ⟨j, hj, ej, _⟩ := pk_mu q q2 (by omega)
          exact ⟨j, by omega, ej⟩
      rw [ej, show (3 : Int32) = nI 3 from rfl, pk_mul, nI_add, pz_cl (by omega)]
      refine ⟨ix_m (by decide) rfl (by omega) (by decide), ?_, h⟩
      rw [v3 q q3, ej, pz_cl (by omega)]
      exact (hm.2.2.2.2.1 g j hg hj (by rw [← ej]; exact q3)).symm
    rw [hc.2.1, e, pz_cl (by omega), vc_r8 hc, vc_rg hc hg9, vc_g hc hg9, hr, vc_5 hc hg9]
    rw [e] at ref
    refine ⟨fun q => ref _ (fun _ => rfl) (fun z => absurd q z) (fun z => absurd q z), fun q => ⟨ok_b hc.1, ix_gs hc.1 hg9, ok_g hc.1 hg9, fun q2 => ⟨?_, ref _ (fun z => absurd z q) (fun _ z => absurd q2 z) (fun _ _ => rfl)⟩, fun q2 => ref _ (fun z => absurd z q) (fun _ _ => rfl) (fun _ z => absurd z q2)⟩⟩
    rcases (vw_G hw hg).2.1 with z | ⟨n, hn, z⟩
    · rw [z] at q2
      exact absurd (Int32.lt_trans q2 (by decide)) q
    · rw [z] at q2
      obtain ⟨j, hj, ej, _⟩ := pk_mu q (Int32.not_le.mpr q2) (by omega)
      have := ok_gw hc.1 hg9
      exact ⟨this.1, by rw [this.2, ej]; exact vp_in_nI (by omega) (by decide)⟩
  · unfold wX4_weather
    exact ⟨ok_m, qX4_isGroup hm hw a1 (fun g hg e _ => absurd z (pz_out (by omega) hg e)) (fun _ _ => ⟨fun _ => ⟨rfl, h⟩, fun y => absurd rfl y⟩)⟩
theorem q_cloud (h : Rl x m) (a1 a2 : Int32) : wX3_cloud (fun r x' => wX4_cloud (fun r' m' => r = r' ∧ Rl x' m') 0 a1 a2 m) 0 a1 a2 x := by
  obtain ⟨b, B, c, hc, hm, hw⟩ := Rl_v h
  have h9 := hw.2.1
  unfold wX3_cloud
  rw [hc.2.1]
  refine ⟨ok_sb, ok_b hc.1, kX0_hasGroup hc hw.1 h9 a1 (fun g hg e _ => ⟨fun z => absurd z (by decide), fun _ => ?_⟩) (fun z _ => ⟨fun _ => ?_, fun y => absurd rfl y⟩)⟩
  · have hg9 : g < 9 := by omega
    have hr := (hc.2.2.1.2.2.2 g hg9).2.2
    have ref : ∀ v : Int32, (a2 < 0 → v = -1) → (¬ a2 < 0 → ¬ a2 < B (4 + 3 * g) 9 → v = -1) → (¬ a2 < 0 → a2 < B (4 + 3 * g) 9 → v = B (6 + 3 * g) a2.toNatClampNeg) → wX4_cloud (fun r' m' => v = r' ∧ Rl x m') 0 a1 a2 m := by
      intro v v1 v2 v3
      unfold wX4_cloud
      refine ⟨ok_m, qX4_isGroup hm hw a1 (fun g' hg' e' _ => ⟨fun z => absurd z (by decide), fun _ => ?_⟩) (fun z => absurd z (pz_out (by omega) hg e))⟩
      rw [vm_25 hm, vm_27 hm, e, show ((10 * nI g) + 9 : Int32) = nI (10 * g + 9) from pz_10g g 9, pz_cl (by omega), hm.2.2.2.1 g 9 hg (by decide)]
      refine ⟨fun q => ⟨v1 q, h⟩, fun q => ⟨ix9 hg9 (by decide), fun q2 => ⟨v2 q (Int32.not_lt.mpr q2), h⟩, fun q2 => ?_⟩⟩
      have q3 : a2 < B (4 + 3 * g) 9 := Int32.not_le.mp q2
      obtain ⟨j, hj, ej⟩ : ∃ j : Nat, j < 4 ∧ a2 = nI j := by
        rcases (vw_G hw hg).2.2.1 with z | ⟨n, hn, z, _⟩
        · rw [z] at q3
          exact absurd (Int32.lt_trans q3 (by decide)) q
        · rw [z] at q2
          obtain ⟨j, hj, ej, _⟩ := pk_mu q q2 (by omega)
          exact ⟨j, by omega, ej⟩
      rw [ej, show (4 : Int32) = nI 4 from rfl, pk_mul, nI_add, pz_cl (by omega)]
      refine ⟨ix_m (by decide) rfl (by omega) (by decide), ?_, h⟩
      rw [v3 q q3, ej, pz_cl (by omega)]
      exact (hm.2.2.2.2.2.1 g j hg hj (by rw [← ej]; exact q3)).symm
    rw [hc.2.1, e, pz_cl (by omega), vc_r8 hc, vc_rg hc hg9, vc_g hc hg9, hr, vc_6 hc hg9]
    rw [e] at ref
    refine ⟨fun q => ref _ (fun _ => rfl) (fun z => absurd q z) (fun z => absurd q z), fun q => ⟨ok_b hc.1, ix_gs hc.1 hg9, ok_g hc.1 hg9, fun q2 => ⟨?_, ref _ (fun z => absurd z q) (fun _ z => absurd q2 z) (fun _ _ => rfl)⟩, fun q2 => ref _ (fun z => absurd z q) (fun _ _ => rfl) (fun _ z => absurd z q2)⟩⟩
    rcases (vw_G hw hg).2.2.1 with z | ⟨n, hn, z, _⟩
    · rw [z] at q2
      exact absurd (Int32.lt_trans q2 (by decide)) q
    · rw [z] at q2
      obtain ⟨j, hj, ej, _⟩ := pk_mu q (Int32.not_le.mpr q2) (by omega)
      have := ok_gc hc.1 hg9
      exact ⟨this.1, by rw [this.2, ej]; exact vp_in_nI (by omega) (by decide)⟩
  · unfold wX4_cloud
    exact ⟨ok_m, qX4_isGroup hm hw a1 (fun g hg e _ => absurd z (pz_out (by omega) hg e)) (fun _ _ => ⟨fun _ => ⟨rfl, h⟩, fun y => absurd rfl y⟩)⟩
/-- a minute of a forecast -/
def vq_i (B : pz_Bt) (t : Int32) : Prop := B 0 0 = 2 ∧ ¬ t < B 4 2 ∧ ¬ B 4 3 ≤ t
theorem kX0_covers (h : vq_c x b B) (t : Int32) (h1 : vq_i B t → post 1 x) (h0 : ¬ vq_i B t → post 0 x) : wX0_covers post b t x := by
  unfold wX0_covers
  rw [vc_0 h 0 (by decide), vc_r8 h, show ((0 : Int32).toNatClampNeg) = 0 from rfl, vc_rg h (by decide), vc_g h (by decide) 2, vc_g h (by decide) 3]
  exact ⟨ok_b h.1, fun q => h0 (fun z => q z.1), fun q => ⟨ix_gs h.1 (g := 0) (by decide), ok_g h.1 (g := 0) (by decide), fun q2 => h0 (fun z => z.2.1 q2), fun q2 => ⟨fun q3 => h0 (fun z => z.2.2 q3), fun q3 => h1 ⟨q, q2, q3⟩⟩⟩⟩
theorem vq_i1 (hw : vq_w B c) {t : Int32} (hi : vq_i B t) : 1 ≤ c := by
  obtain ⟨h7, h9, hk⟩ := hw
  rcases hk with z | z
  · have := hi.1
    rw [z.1] at this; exact absurd this (by decide)
  · exact z.1
theorem vm_t (h : vq_m m B c) {g f : Nat} (hg : g < c) (hf : f < 10) : m.1 9 (10 * g + f) = B (4 + 3 * g) f := h.2.2.2.1 g f hg hf
theorem qX4_isMinute (h : vq_m m B c) (hw : vq_w B c) (t : Int32) (h1 : vq_i B t → post 1 m) (h0 : ¬ vq_i B t → post 0 m) : wX4_isMinute post 0 t m := by
  unfold wX4_isMinute
  rw [h.2.1, vm_25 h]
  refine ⟨ok_m, fun q => h0 (fun z => q z.1), fun q => ?_⟩
  have c1 : 0 < c := by
    obtain ⟨h7, h9, hk⟩ := hw
    rcases hk with z | z
    · rw [z.1] at q; exact absurd q (by decide)
    · exact z.1
  have e2 : m.1 9 ((2 : Int32).toNatClampNeg) = B 4 2 := vm_t h (g := 0) (f := 2) c1 (by decide)
  have e3 : m.1 9 ((3 : Int32).toNatClampNeg) = B 4 3 := vm_t h (g := 0) (f := 3) c1 (by decide)
  rw [e2, e3]
  exact ⟨ix9 (g := 0) (f := 2) (by decide) (by decide), fun q2 => h0 (fun z => z.2.1 q2), fun q2 => ⟨ix9 (g := 0) (f := 3) (by decide) (by decide), fun q3 => h0 (fun z => z.2.2 q3), fun q3 => h1 ⟨q, q2, q3⟩⟩⟩
/-- TEMPO and PROB at their time -/
def vq_a (B : pz_Bt) (g : Nat) (t : Int32) : Prop := ¬ B (4 + 3 * g) 0 < 3 ∧ ¬ t < B (4 + 3 * g) 2 ∧ ¬ B (4 + 3 * g) 3 ≤ t
theorem kX1_isActiveAt (h : vq_c x b B) {g : Nat} (hg : g < 9) (t : Int32) (h1 : vq_a B g t → post 1 x) (h0 : ¬ vq_a B g t → post 0 x) : wX1_isActiveAt post (b + 4 + 3 * g) t x := by
  unfold wX1_isActiveAt
  rw [vc_g h hg 0, vc_g h hg 2, vc_g h hg 3]
  exact ⟨ok_g h.1 hg, fun q => h0 (fun z => z.1 q), fun q => ⟨fun q2 => h0 (fun z => z.2.1 q2), fun q2 => ⟨fun q3 => h0 (fun z => z.2.2 q3), fun q3 => h1 ⟨q, q2, q3⟩⟩⟩⟩
theorem qX4_isActive (h : vq_m m B c) (h9 : c ≤ 9) {g : Nat} (hg : g < c) (t : Int32) (h1 : vq_a B g t → post 1 m) (h0 : ¬ vq_a B g t → post 0 m) : wX4_isActive post 0 (nI g) t m := by
  have e0 := vm_t h (g := g) (f := 0) hg (by decide)
  rw [Nat.add_zero] at e0
  unfold wX4_isActive
  rw [vm_25 h, pz_10, show (nI (10 * g) + 2 : Int32) = nI (10 * g + 2) from nI_add _ _, show (nI (10 * g) + 3 : Int32) = nI (10 * g + 3) from nI_add _ _, pz_cl (by omega), pz_cl (by omega), pz_cl (by omega), e0, vm_t h hg (by decide), vm_t h hg (by decide)]
  exact ⟨ok_m, ix9 (f := 0) (by omega) (by decide), fun q => h0 (fun z => z.1 q), fun q => ⟨ix9 (by omega) (by decide), fun q2 => h0 (fun z => z.2.1 q2), fun q2 => ⟨ix9 (by omega) (by decide), fun q3 => h0 (fun z => z.2.2 q3), fun q3 => h1 ⟨q, q2, q3⟩⟩⟩⟩
/-- FM and BECMG that hold -/
def vq_h (B : pz_Bt) (g : Nat) (t : Int32) : Prop := (B (4 + 3 * g) 0 = 1 ∧ B (4 + 3 * g) 2 ≤ t) ∨ (B (4 + 3 * g) 0 = 2 ∧ ¬ t < B (4 + 3 * g) 3)
theorem kX1_holdsAt (h : vq_c x b B) {g : Nat} (hg : g < 9) (t : Int32) (h1 : vq_h B g t → post 1 x) (h0 : ¬ vq_h B g t → post 0 x) : wX1_holdsAt post (b + 4 + 3 * g) t x := by
  unfold wX1_holdsAt wX1_holdsAt_b16
  rw [vc_g h hg 0, vc_g h hg 2, vc_g h hg 3]
  have k := ok_g h.1 hg
  refine ⟨k, fun q => ⟨k, fun q2 => h0 (fun z => ?_), fun q2 => ⟨fun q3 => h0 (fun z => ?_), fun q3 => h1 (Or.inr ⟨q2, q3⟩)⟩⟩, fun q => ⟨fun q2 => h1 (Or.inl ⟨q, q2⟩), fun q2 => ⟨k, fun q3 => h0 (fun z => ?_), fun q3 => ?_⟩⟩⟩
  · rcases z with z | z
    · exact q z.1
    · exact q2 z.1
  · rcases z with z | z
    · exact q z.1
    · exact z.2 q3
  · rcases z with z | z
    · exact q2 z.2
    · exact q3 z.1
  · rw [q] at q3; exact absurd q3 (by decide)
/-- the parts: the class's field and the reference's -/
def vq_p (p : Int32) (f f' : Nat) : Prop := (p = 0 ∧ f = 5 ∧ f' = 4) ∨ (p = 1 ∧ f = 7 ∧ f' = 7) ∨ (p = 2 ∧ f = 8 ∧ f' = 8) ∨ (p = 3 ∧ f = 9 ∧ f' = 9)
theorem kX1_tells (h : vq_c x b B) {g : Nat} (hg : g < 9) {p : Int32} {f f' : Nat} (hf : vq_p p f f') (h1 : ¬ B (4 + 3 * g) f = -1 → post 1 x) (h0 : B (4 + 3 * g) f = -1 → post 0 x) : wX1_tells post (b + 4 + 3 * g) p x := by
  have hk := ok_g h.1 hg
  unfold wX1_tells
  rw [vc_g h hg 5, vc_g h hg 7, vc_g h hg 8, vc_g h hg 9]
  rcases hf with ⟨rfl, rfl, _⟩ | ⟨rfl, rfl, _⟩ | ⟨rfl, rfl, _⟩ | ⟨rfl, rfl, _⟩
  · exact ⟨fun _ => ⟨hk, h0, h1⟩, fun z => absurd z (by decide), fun z => absurd z (by decide), fun z => absurd rfl z⟩
  · exact ⟨fun z => absurd z (by decide), fun _ => ⟨hk, h0, h1⟩, fun z => absurd z (by decide), fun _ z => absurd rfl z⟩
  · exact ⟨fun z => absurd z (by decide), fun z => absurd z (by decide), fun _ => ⟨hk, h0, h1⟩, fun _ _ z => absurd rfl z⟩
  · exact ⟨fun z => absurd z (by decide), fun z => absurd z (by decide), fun z => absurd z (by decide), fun _ _ _ => ⟨hk, h0, h1⟩⟩
/-- who tells a part: r groups from g on, cur so far -/
noncomputable def tlr (B : pz_Bt) (f : Nat) (t : Int32) : Nat → Nat → Int32 → Int32
  | 0, _, cur => cur
  | r + 1, g, cur => tlr B f t r (g + 1) (pz_if (vq_h B g t ∧ ¬ B (4 + 3 * g) f = -1) (nI g) cur)
noncomputable def tel (B : pz_Bt) (c f : Nat) (t : Int32) : Int32 := tlr B f t (c - 1) 1 0
theorem tlr_r {B : pz_Bt} {f : Nat} {t : Int32} : ∀ (r g y : Nat), ∃ z : Nat, tlr B f t r g (nI y) = nI z ∧ (z = y ∨ (g ≤ z ∧ z < g + r ∧ vq_h B z t ∧ ¬ B (4 + 3 * z) f = -1)) := by
  intro r
  induction r with
  | zero => intro g y; exact ⟨y, rfl, Or.inl rfl⟩
  | succ r ih =>
    intro g y
    rw [tlr]
    by_cases q : vq_h B g t ∧ ¬ B (4 + 3 * g) f = -1
    · rw [pz_ifp q]
      obtain ⟨z, e, hz⟩ := ih (g + 1) g
      refine ⟨z, e, Or.inr ?_⟩
      rcases hz with rfl | ⟨z1, z2, z3⟩
      · exact ⟨Nat.le_refl _, by omega, q⟩
      · exact ⟨by omega, by omega, z3⟩
    · rw [pz_ifn q]
      obtain ⟨z, e, hz⟩ := ih (g + 1) y
      refine ⟨z, e, ?_⟩
      rcases hz with rfl | ⟨z1, z2, z3⟩
      · exact Or.inl rfl
      · exact Or.inr ⟨by omega, by omega, z3⟩
theorem tel_r (hw : vq_w B c) {t : Int32} (hc : 1 ≤ c) {p : Int32} {f f' : Nat} (hf : vq_p p f f') : ∃ z : Nat, z < c ∧ tel B c f t = nI z ∧ ¬ B (4 + 3 * z) f = -1 := by
  obtain ⟨z, e, hz⟩ := tlr_r (B := B) (f := f) (t := t) (c - 1) 1 0
  refine ⟨z, by omega, e, ?_⟩
  rcases hz with rfl | hz
  · obtain ⟨h7, h9, hk⟩ := hw
    rcases hk with y | y
    · omega
    · have hh := (y.2.1 0 (by omega)).2 (Or.inl rfl)
      rcases hf with ⟨_, rfl, _⟩ | ⟨_, rfl, _⟩ | ⟨_, rfl, _⟩ | ⟨_, rfl, _⟩
      · exact hh.1
      · exact hh.2.1
      · exact hh.2.2.1
      · exact hh.2.2.2
  · exact hz.2.2.2
theorem kX0_teller_l (h : vq_c x b B) (h7 : B 0 7 = nI c) (h9 : c ≤ 9) {t p : Int32} {f f' : Nat} (hf : vq_p p f f') : ∀ (r g : Nat) (cur : Int32), g + r = c → post (tlr B f t r g cur) x → wX0_teller_l5 post (r + 1) b t p cur (nI g) x := by
  intro r
  induction r with
  | zero =>
    intro g cur e hp
    unfold wX0_teller_l5
    rw [vc_0 h 7 (by decide), h7]
    exact ⟨ok_b h.1, fun _ => hp, fun z => absurd (nI_le (by omega) (by omega)) z⟩
  | succ r ih =>
    intro g cur e hp
    have hg : g < 9 := by omega
    rw [tlr] at hp
    unfold wX0_teller_l5
    rw [vc_0 h 7 (by decide), h7, vc_r8 h, pz_cl (by omega), vc_rg h hg]
    refine ⟨ok_b h.1, fun z => absurd z (nI_ge (by omega) (by omega)), fun _ => ⟨fun z => absurd z (nI_ge (b := 9) hg (by decide)), fun _ => ⟨ix_gs h.1 hg, ok_g h.1 hg, kX1_holdsAt h hg t (fun q _ => ⟨fun z => absurd z (by decide), fun _ => ?_⟩) (fun q _ => ⟨fun _ y ey => ?_, fun z => absurd rfl z⟩)⟩⟩⟩
    · rw [vc_r8 h, vc_rg h hg]
      refine ⟨ix_gs h.1 hg, ok_g h.1 hg, kX1_tells h hg hf (fun q2 _ => ⟨fun z => absurd z (by decide), fun _ y ey => ?_⟩) (fun q2 _ => ⟨fun _ y ey => ?_, fun z => absurd rfl z⟩)⟩
      · rw [ey, nI_1]
        rw [pz_ifp ⟨q, q2⟩] at hp
        exact ih (g + 1) _ (by omega) hp
      · rw [ey, nI_1]
        rw [pz_ifn (fun z => z.2 q2)] at hp
        exact ih (g + 1) _ (by omega) hp
    · rw [ey, nI_1]
      rw [pz_ifn (fun z => q z.1)] at hp
      exact ih (g + 1) _ (by omega) hp
theorem kX0_teller (h : vq_c x b B) (h7 : B 0 7 = nI c) (h9 : c ≤ 9) (hc : 1 ≤ c) {t p : Int32} {f f' : Nat} (hf : vq_p p f f') (hp : post (tel B c f t) x) : wX0_teller post b t p x :=
  ⟨c - 1 + 1, kX0_teller_l h h7 h9 hf (c - 1) 1 0 (by omega) hp⟩
theorem qX4_teller_l (h : vq_m m B c) (hw : vq_w B c) {t p : Int32} {f f' : Nat} (hf : vq_p p f f') : ∀ (r g : Nat) (cur : Int32), g + r = c → post (tlr B f t r g cur) m → wX4_teller_l5 post (r + 1) 0 t (nI f') cur (nI g) m := by
  have h9 := hw.2.1
  have f10 : f' < 10 := by rcases hf with z | z | z | z <;> omega
  intro r
  induction r with
  | zero =>
    intro g cur e hp
    unfold wX4_teller_l5
    rw [h.2.2.1]
    exact ⟨ok_m, fun _ => hp, fun z => absurd (nI_le (by omega) (by omega)) z⟩
  | succ r ih =>
    intro g cur e hp
    have hg : g < c := by omega
    have hg9 : g < 9 := by omega
    rw [tlr] at hp
    have e0 := vm_t h (g := g) (f := 0) hg (by decide)
    rw [Nat.add_zero] at e0
    have hA : wf_G B g ∧ (B (4 + 3 * g) 0 = 1 → wf_H B g) := by
      rcases hw.2.2 with y | y
      · omega
      · exact ⟨(y.2.1 g hg).1, fun z => (y.2.1 g hg).2 (Or.inr z)⟩
    have ff : B (4 + 3 * g) f' = -1 ↔ B (4 + 3 * g) f = -1 := by
      rcases hf with ⟨_, rfl, rfl⟩ | ⟨_, rfl, rfl⟩ | ⟨_, rfl, rfl⟩ | ⟨_, rfl, rfl⟩
      · exact hA.1.1
      · exact Iff.rfl
      · exact Iff.rfl
      · exact Iff.rfl
    have fh : B (4 + 3 * g) 0 = 1 → ¬ B (4 + 3 * g) f = -1 := fun z => by
      have hh := hA.2 z
      rcases hf with ⟨_, rfl, _⟩ | ⟨_, rfl, _⟩ | ⟨_, rfl, _⟩ | ⟨_, rfl, _⟩
      · exact hh.1
      · exact hh.2.1
      · exact hh.2.2.1
      · exact hh.2.2.2
    have b102 : ∀ k1 k2 : Int32, (k1 = 0 ∨ k1 = 1) → (k2 = 0 ∨ k2 = 1) → ((k1 = 1 ∨ k2 = 1) ↔ (vq_h B g t ∧ ¬ B (4 + 3 * g) f = -1)) → wX4_teller_b102 post (fun z0 z1 z2 z3 z4 zs => wX4_teller_l5 post (r + 1) z0 z1 z2 z3 z4 zs) 0 t (nI f') cur (nI g) k1 k2 m := by
      intro k1 k2 hk1 hk2 hk
      have yes : (vq_h B g t ∧ ¬ B (4 + 3 * g) f = -1) → ∀ y : Int32, y = nI g + 1 → wX4_teller_l5 post (r + 1) 0 t (nI f') (nI g) y m := fun z y ey => by
        rw [pz_ifp z] at hp
        rw [ey, nI_1]
        exact ih (g + 1) _ (by omega) hp
      have no : ¬ (vq_h B g t ∧ ¬ B (4 + 3 * g) f = -1) → ∀ y : Int32, y = nI g + 1 → wX4_teller_l5 post (r + 1) 0 t (nI f') cur y m := fun z y ey => by
        rw [pz_ifn z] at hp
        rw [ey, nI_1]
        exact ih (g + 1) _ (by omega) hp
      unfold wX4_teller_b102
      refine ⟨fun q => yes (hk.mp (Or.inl ?_)), fun q => ⟨fun q2 => no (fun z => ?_), fun q2 => yes (hk.mp (Or.inr ?_))⟩⟩
      · rcases hk1 with z | z
        · exact absurd z q
        · exact z
      · rcases hk.mpr z with y | y
        · rw [q] at y; exact absurd y (by decide)
        · rw [q2] at y; exact absurd y (by decide)
      · rcases hk2 with z | z
        · exact absurd z q2
        · exact z
    have b49 : ∀ k1 : Int32, (k1 = 0 ∨ k1 = 1) → (k1 = 1 ↔ (B (4 + 3 * g) 0 = 1 ∧ B (4 + 3 * g) 2 ≤ t)) → wX4_teller_b49 post (fun z0 z1 z2 z3 z4 zs => wX4_teller_l5 post (r + 1) z0 z1 z2 z3 z4 zs) 0 t (nI f') cur (nI g) k1 m := by
      intro k1 hk1 hk
      unfold wX4_teller_b49
      rw [vm_25 h, pz_10, show (nI (10 * g) + 3 : Int32) = nI (10 * g + 3) from nI_add _ _, nI_add, pz_cl (by omega), pz_cl (by omega), pz_cl (by omega), e0, vm_t h hg (by decide), vm_t h hg f10]
      refine ⟨ok_m, ix9 (f := 0) hg9 (by decide), fun q => b102 k1 0 hk1 (Or.inl rfl) ⟨fun z => ?_, fun z => ?_⟩, fun q => ⟨ix9 hg9 (by decide), fun q2 => b102 k1 0 hk1 (Or.inl rfl) ⟨fun z => ?_, fun z => ?_⟩, fun q2 => ⟨ix9 hg9 f10, fun q3 => b102 k1 0 hk1 (Or.inl rfl) ⟨fun z => ?_, fun z => ?_⟩, fun q3 => b102 k1 1 hk1 (Or.inr rfl) ⟨fun z => ?_, fun z => Or.inr rfl⟩⟩⟩⟩
      · rcases z with z | z
        · exact ⟨Or.inl (hk.mp z), fh (hk.mp z).1⟩
        · exact absurd z (by decide)
      · rcases z.1 with y | y
        · exact Or.inl (hk.mpr y)
        · exact absurd y.1 q
      · rcases z with z | z
        · have := (hk.mp z).1
          rw [q] at this; exact absurd this (by decide)
        · exact absurd z (by decide)
      · rcases z.1 with y | y
        · exact Or.inl (hk.mpr y)
        · exact absurd q2 y.2
      · rcases z with z | z
        · have := (hk.mp z).1
          rw [q] at this; exact absurd this (by decide)
        · exact absurd z (by decide)
      · exact absurd (ff.mp q3) z.2
      · exact ⟨Or.inr ⟨q, q2⟩, fun y => q3 (ff.mpr y)⟩
    unfold wX4_teller_l5
    rw [h.2.2.1, vm_25 h, pz_10, show (nI (10 * g) + 2 : Int32) = nI (10 * g + 2) from nI_add _ _, pz_cl (by omega), pz_cl (by omega), e0, vm_t h hg (by decide)]
    refine ⟨ok_m, fun z => absurd z (nI_ge (by omega) (by omega)), fun _ => ⟨ix9 (f := 0) hg9 (by decide), fun q => b49 0 (Or.inl rfl) ⟨fun z => absurd z (by decide), fun z => absurd z.1 q⟩, fun q => ⟨ix9 hg9 (by decide), fun q2 => b49 0 (Or.inl rfl) ⟨fun z => absurd z (by decide), fun z => absurd z.2 (Int32.not_le.mpr q2)⟩, fun q2 => b49 1 (Or.inr rfl) ⟨fun _ => ⟨q, Int32.not_lt.mp q2⟩, fun _ => rfl⟩⟩⟩⟩
theorem qX4_teller (h : vq_m m B c) (hw : vq_w B c) (hc : 1 ≤ c) {t p : Int32} {f f' : Nat} (hf : vq_p p f f') {q : Int32} (hq : q = nI f') (hp : post (tel B c f t) m) : wX4_teller post 0 t q m := by
  subst hq
  exact ⟨c - 1 + 1, qX4_teller_l h hw hf (c - 1) 1 0 (by omega) hp⟩
theorem vq_p4 {p : Int32} (h0 : ¬ p < 0) (h4 : p < 4) : ∃ f f' : Nat, vq_p p f f' ∧ (p = 0 ∧ f' = 4 ∨ ¬ p = 0 ∧ 6 + p = nI f') := by
  obtain ⟨j, hj, e, _⟩ := pk_mu (L := 4) h0 (Int32.not_le.mpr h4) (by decide)
  subst e
  rcases (by omega : j = 0 ∨ j = 1 ∨ j = 2 ∨ j = 3) with rfl | rfl | rfl | rfl
  · exact ⟨5, 4, Or.inl ⟨rfl, rfl, rfl⟩, Or.inl ⟨rfl, rfl⟩⟩
  · exact ⟨7, 7, Or.inr (Or.inl ⟨rfl, rfl, rfl⟩), Or.inr ⟨by decide, by decide⟩⟩
  · exact ⟨8, 8, Or.inr (Or.inr (Or.inl ⟨rfl, rfl, rfl⟩)), Or.inr ⟨by decide, by decide⟩⟩
  · exact ⟨9, 9, Or.inr (Or.inr (Or.inr ⟨rfl, rfl, rfl⟩)), Or.inr ⟨by decide, by decide⟩⟩
theorem qX4_part {p : Int32} {f' : Nat} (hp : p = 0 ∧ f' = 4 ∨ ¬ p = 0 ∧ 6 + p = nI f') (h : post (nI f') m) : wX4_part post p m := by
  unfold wX4_part
  refine ⟨fun q => ?_, fun q => ?_⟩
  · rcases hp with z | z
    · exact absurd z.1 q
    · rw [z.2]; exact h
  · rcases hp with z | z
    · rw [z.2] at h; exact h
    · exact absurd q z.1
theorem q_from (h : Rl x m) (a1 a2 : Int32) : wX3_from (fun r x' => wX4_from (fun r' m' => r = r' ∧ Rl x' m') 0 a1 a2 m) 0 a1 a2 x := by
  obtain ⟨b, B, c, hc, hm, hw⟩ := Rl_v h
  have h9 := hw.2.1
  unfold wX3_from
  rw [hc.2.1]
  refine ⟨ok_sb, ok_b hc.1, kX0_covers hc a1 (fun q _ => ⟨fun z => absurd z (by decide), fun _ => ⟨fun q0 => ?_, fun q0 => ⟨fun q4 => ?_, fun q4 => ?_⟩⟩⟩) (fun q _ => ⟨fun _ => ?_, fun z => absurd rfl z⟩)⟩
  · unfold wX4_from
    exact ⟨ok_m, qX4_isMinute hm hw a1 (fun _ _ => ⟨fun z => absurd z (by decide), fun _ => ⟨fun _ => ⟨rfl, h⟩, fun z => absurd q0 z⟩⟩) (fun z => absurd q z)⟩
  · rw [hc.2.1]
    obtain ⟨f, f', hf, hf'⟩ := vq_p4 q0 q4
    have c1 := vq_i1 hw q
    refine ⟨ok_b hc.1, kX0_teller hc hw.1 h9 c1 hf ?_⟩
    unfold wX4_from
    refine ⟨ok_m, qX4_isMinute hm hw a1 (fun _ _ => ⟨fun z => absurd z (by decide), fun _ => ⟨fun z => absurd z q0, fun _ => ⟨fun z => ?_, fun _ => qX4_part hf' (qX4_teller hm hw c1 hf rfl ⟨rfl, h⟩)⟩⟩⟩) (fun z => absurd q z)⟩
    obtain ⟨j, hj, e, _⟩ := pk_mu (L := 4) q0 (Int32.not_le.mpr q4) (by decide)
    rw [e] at z
    have := (nI_ltI (a := 3) (by decide) (by omega)).mp z
    omega
  · unfold wX4_from
    refine ⟨ok_m, qX4_isMinute hm hw a1 (fun _ _ => ⟨fun z => absurd z (by decide), fun _ => ⟨fun _ => ⟨rfl, h⟩, fun _ => ⟨fun _ => ⟨rfl, h⟩, fun z => ?_⟩⟩⟩) (fun z => absurd q z)⟩
    exact absurd (Int32.lt_of_lt_of_le (by decide : (3 : Int32) < 4) (Int32.not_lt.mp q4)) z
  · unfold wX4_from
    exact ⟨ok_m, qX4_isMinute hm hw a1 (fun z => absurd z q) (fun _ _ => ⟨fun _ => ⟨rfl, h⟩, fun z => absurd rfl z⟩)⟩
end VR
