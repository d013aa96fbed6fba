/-! ===== the two worlds side by side; the plain questions ===== -/
def cr_b (u : jx_St) (b : Nat) : Prop := u.2 b 6 = b + 1 ∧ u.2 b 8 = b + 2 ∧ u.2 b 9 = b + 3 ∧ ∀ g, g < 9 → u.2 (b + 2) g = b + 4 + 3 * g ∧ u.2 (b + 4 + 3 * g) 10 = b + 5 + 3 * g ∧ u.2 (b + 4 + 3 * g) 11 = b + 6 + 3 * g
def rl_t (x m : jx_St) : Prop := ∃ cs : List Int32, pz_V cs ∧ x.1 0 1 = nI cs.length ∧ m.1 0 1 = nI cs.length ∧ ∀ i, i < cs.length → x.1 1 i = cs.getD i 0 ∧ m.1 1 i = cs.getD i 0
def rl_p (x m : jx_St) : Prop := ∃ n : Nat, n ≤ 700 ∧ x.1 0 3 = nI n ∧ m.1 0 31 = nI n ∧ ∀ i, i < n → x.1 2 i = m.1 13 i
def rl_c (x : jx_St) (kb : Nat) (B : pz_Bt) (tx : List Int32) : Prop := (∀ rc i, rc < 31 → rc ≠ 3 → ¬ (rc = 0 ∧ i = 10) → x.1 (kb + rc) i = B rc i) ∧ x.1 kb 10 = nI tx.length ∧ (∀ i, i < tx.length → x.1 (kb + 3) i = tx.getD i 0) ∧ tx.length ≤ 700
def rl_e (m : jx_St) (B : pz_Bt) (c : Nat) (tx : List Int32) : Prop := B 0 0 = 0 ∧ c = 0 ∧ tx = [] ∧ m.1 0 18 = 0 ∧ m.1 0 19 = 0
def rl_f (m : jx_St) (B : pz_Bt) (c : Nat) (tx : List Int32) : Prop := ∃ (ks : List Int32) (days : Int32) (B0 : pz_Bt), pz_V ks ∧ ¬ days < 28 ∧ days ≤ 31 ∧ (sp_read (pz_tok ks) days (sp_start B0 days)).1 = true ∧ B = (sp_read (pz_tok ks) days (sp_start B0 days)).2.2 ∧ tx = pz_can ks ∧ wf_R ks days B c ∧ mz_KK m B tx
def rl_r (x m : jx_St) (kb db : Nat) : Prop := ((kb = 3 ∧ db = 34) ∨ (kb = 34 ∧ db = 3)) ∧ x.2 0 0 = 1 ∧ x.2 0 2 = 2 ∧ x.2 0 4 = kb ∧ x.2 65 7 = db ∧ x.2 0 5 = 65 ∧ x.2 65 4 = 66 ∧ cr_b x 3 ∧ cr_b x 34 ∧ mz_R m
def Rl (x m : jx_St) : Prop := ∃ (kb db : Nat) (B : pz_Bt) (c : Nat) (tx : List Int32), rl_r x m kb db ∧ rl_t x m ∧ rl_p x m ∧ B 0 7 = nI c ∧ c ≤ 9 ∧ rl_c x kb B tx ∧ (rl_e m B c tx ∨ rl_f m B c tx)
/-- the view of the questions -/
def vq_c (x : jx_St) (b : Nat) (B : pz_Bt) : Prop := (b = 3 ∨ b = 34) ∧ x.2 0 4 = b ∧ cr_b x b ∧ ∀ rc i, rc < 31 → rc ≠ 3 → ¬ (rc = 0 ∧ i = 10) → x.1 (b + rc) i = B rc i
def vq_m (m : jx_St) (B : pz_Bt) (c : Nat) : Prop := mz_R m ∧ m.1 0 18 = B 0 0 ∧ m.1 0 19 = nI c ∧ (∀ g f, g < c → f < 10 → m.1 9 (10 * g + f) = B (4 + 3 * g) f) ∧ (∀ g j, g < c → j < 3 → nI j < B (4 + 3 * g) 8 → m.1 10 (3 * g + j) = B (5 + 3 * g) j) ∧ (∀ g j, g < c → j < 4 → nI j < B (4 + 3 * g) 9 → m.1 11 (4 * g + j) = B (6 + 3 * g) j) ∧ (c ≠ 0 → m.1 0 20 = B 0 2 ∧ ∀ j, j < 4 → m.1 8 j = B 1 j) ∧ (B 0 0 = 1 → m.1 0 21 = B 0 3 ∧ m.1 0 22 = B 0 4 ∧ m.1 0 23 = B 0 5)
def vq_w (B : pz_Bt) (c : Nat) : Prop := B 0 7 = nI c ∧ c ≤ 9 ∧ ((B 0 0 = 0 ∧ c = 0) ∨ (1 ≤ c ∧ wf_A B c ∧ (B 0 0 = 1 ∨ (B 0 0 = 2 ∧ (∃ u v : Nat, u < v ∧ v < 1048576 ∧ B 4 2 = nI u ∧ B 4 3 = nI v) ∧ B 0 3 = -1001 ∧ B 0 4 = -1001 ∧ B 0 5 = -1001))))
theorem Rl_v {x m : jx_St} (h : Rl x m) : ∃ (b : Nat) (B : pz_Bt) (c : Nat), vq_c x b B ∧ vq_m m B c ∧ vq_w B c := by
  obtain ⟨kb, db, B, c, tx, ⟨hk, r0, r2, r4, r5, r6, r65, c3, c34, hR⟩, ht, hp, h7, h9, hc, hk2⟩ := h
  refine ⟨kb, B, c, ⟨by rcases hk with z | z <;> omega, r4, by rcases hk with z | z <;> (rw [z.1]; assumption), hc.1⟩, ?_, h7, h9, ?_⟩
  · rcases hk2 with ⟨e0, ec, _, e18, e19⟩ | ⟨ks, days, B0, _, _, _, _, _, _, hw, ⟨gm, g1, g2, g3, g4, g5⟩, k1, k2, k3, k4, k5, _, _⟩
    · refine ⟨hR, by rw [e18, e0], by rw [e19, ec]; rfl, fun g f l1 => absurd l1 (by omega), fun g f l1 => absurd l1 (by omega), fun g f l1 => absurd l1 (by omega), fun z => absurd ec z, fun z => ?_⟩
      rw [e0] at z; exact absurd z (by decide)
    · have ec : c = gm + 1 := (nI_eq (by omega) (by omega)).mp (h7.symm.trans g2)
      refine ⟨hR, k1, by rw [k2, h7], fun g f l1 l2 => g3 g f (by omega) l2, fun g f l1 l2 => g4 g f (by omega) l2, fun g f l1 l2 => g5 g f (by omega) l2, fun _ => ⟨k3, k5⟩, k4⟩
  · rcases hk2 with ⟨e0, ec, _⟩ | ⟨ks, days, B0, _, _, _, _, _, _, hw, _⟩
    · exact Or.inl ⟨e0, ec⟩
    · exact Or.inr ⟨hw.1, hw.2.2.2.1, hw.2.2.2.2.2.1⟩
section VQ
variable {x m : jx_St} {b : Nat} {B : pz_Bt} {c : Nat} {post : Int32 → jx_St → Prop}
theorem vc_b (h : vq_c x b B) : b = 3 ∨ b = 34 := h.1
theorem vc_g (h : vq_c x b B) {g : Nat} (hg : g < 9) (i : Nat) : x.1 (b + 4 + 3 * g) i = B (4 + 3 * g) i := by
  have := h.2.2.2 (4 + 3 * g) i (by omega) (by omega) (by omega)
  rwa [← Nat.add_assoc] at this
theorem vc_0 (h : vq_c x b B) (i : Nat) (hi : i ≠ 10) : x.1 b i = B 0 i := h.2.2.2 0 i (by decide) (by decide) (by omega)
theorem vc_1 (h : vq_c x b B) (i : Nat) : x.1 (b + 1) i = B 1 i := h.2.2.2 1 i (by decide) (by decide) (by omega)
theorem vc_5 (h : vq_c x b B) {g : Nat} (hg : g < 9) (i : Nat) : x.1 (b + 5 + 3 * g) i = B (5 + 3 * g) i := by
  have := h.2.2.2 (5 + 3 * g) i (by omega) (by omega) (by omega)
  rwa [← Nat.add_assoc] at this
theorem vc_6 (h : vq_c x b B) {g : Nat} (hg : g < 9) (i : Nat) : x.1 (b + 6 + 3 * g) i = B (6 + 3 * g) i := by
  have := h.2.2.2 (6 + 3 * g) i (by omega) (by omega) (by omega)
  rwa [← Nat.add_assoc] at this
theorem vc_r8 (h : vq_c x b B) : x.2 b 8 = b + 2 := h.2.2.1.2.1
theorem vc_rg (h : vq_c x b B) {g : Nat} (hg : g < 9) : x.2 (b + 2) g = b + 4 + 3 * g := (h.2.2.1.2.2.2 g hg).1
theorem kX0_hasGroup (h : vq_c x b B) (h7 : B 0 7 = nI c) (h9 : c ≤ 9) (a : Int32) (h1 : ∀ g, g < c → a = nI g → post 1 x) (h0 : (a < 0 ∨ nI c ≤ a) → post 0 x) : wX0_hasGroup post b a x := by
  unfold wX0_hasGroup
  rw [vc_0 h 7 (by decide), h7]
  refine ⟨fun q => h0 (Or.inl q), fun q => ⟨ok_b h.1, fun q2 => h0 (Or.inr q2), fun q2 => ?_⟩⟩
  obtain ⟨j, hj, e, _⟩ := pk_mu q q2 (by omega)
  refine ⟨fun q3 => ?_, fun _ => h1 j hj e⟩
  rw [e] at q3
  exact absurd (pz_lew (a := 9) (by decide) q3) (by omega)
theorem qX4_isGroup (h : vq_m m B c) (hw : vq_w B c) (a : Int32) (h1 : ∀ g, g < c → a = nI g → post 1 m) (h0 : (a < 0 ∨ nI c ≤ a) → post 0 m) : wX4_isGroup post 0 a m := by
  obtain ⟨h7, h9, hk⟩ := hw
  unfold wX4_isGroup
  rw [h.2.1, h.2.2.1]
  refine ⟨ok_m, fun q => ?_, fun _ => ⟨fun q => h0 (Or.inl q), fun q => ⟨fun q2 => h0 (Or.inr q2), fun q2 => ?_⟩⟩⟩
  · rcases hk with ⟨e0, ec⟩ | ⟨_, _, z | z⟩
    · by_cases q0 : a < 0
      · exact h0 (Or.inl q0)
      · refine h0 (Or.inr ?_)
        rw [ec]; exact Int32.not_lt.mp q0
    · rw [z] at q; exact absurd q (by decide)
    · rw [z.1] at q; exact absurd q (by decide)
  · obtain ⟨j, hj, e, _⟩ := pk_mu q q2 (by omega)
    exact h1 j hj e
theorem pz_pick {a : Int32} {n : Nat} (hn : n < 2 ^ 31) : (a < 0 ∨ nI n ≤ a) ∨ ∃ j, j < n ∧ a = nI j := by
  rcases pk_ix a hn with z | z | z
  · exact Or.inl (Or.inl z)
  · exact Or.inl (Or.inr z)
  · exact Or.inr z
/-- not two at once -/
theorem pz_out {a : Int32} {n j : Nat} (hn : n < 2 ^ 31) (hj : j < n) (e : a = nI j) : ¬ (a < 0 ∨ nI n ≤ a) := by
  rw [e]
  rintro (z | z)
  · exact nI_pos (by omega) z
  · exact nI_ge hj hn z
theorem ix9 {g f : Nat} (hg : g < 9) (hf : f < 10) : jx_ix jx_LM 6 9 (nI (10 * g + f)) := ix_m (by decide) rfl (by omega) (by decide)
theorem vm_25 (h : vq_m m B c) : m.2 0 25 = 9 := h.1.2.2.2.2.2.2.2.2.1
theorem q_group (h : Rl x m) (a1 a2 : Int32) : wX3_group (fun r x' => wX4_group (fun r' m' => r = r' ∧ Rl x' m') 0 a1 a2 m) 0 a1 a2 x := by
  obtain ⟨b, B, c, hc, hm, hw⟩ := Rl_v h
  have h9 := hw.2.1
  have none : (a1 < 0 ∨ nI c ≤ a1) → wX4_group (fun r' m' => -1 = r' ∧ Rl x m') 0 a1 a2 m := fun z => by
    unfold wX4_group
    exact ⟨ok_m, qX4_isGroup hm hw a1 (fun g hg e _ => absurd z (pz_out (by omega) hg e)) (fun _ _ => ⟨fun _ => ⟨rfl, h⟩, fun y => absurd rfl y⟩)⟩
  unfold wX3_group
  rw [hc.2.1]
  refine ⟨ok_sb, ok_b hc.1, kX0_hasGroup hc hw.1 h9 a1 (fun g hg e _ => ⟨fun _ => ?_, fun z => absurd z (by decide)⟩) (fun z _ => ⟨fun y => absurd rfl y, fun _ => none z⟩)⟩
  have hg9 : g < 9 := by omega
  have ref : wX4_group (fun r' m' => (if a2 < 0 then -1 else if 9 < a2 then -1 else B (4 + 3 * g) a2.toNatClampNeg) = r' ∧ Rl x m') 0 a1 a2 m := by
    unfold wX4_group
    refine ⟨ok_m, qX4_isGroup hm hw a1 (fun g' hg' e' _ => ⟨fun z => absurd z (by decide), fun _ => ?_⟩) (fun z => absurd z (pz_out (by omega) hg e))⟩
    refine ⟨fun q => by rw [if_pos q]; exact ⟨rfl, h⟩, fun q => ⟨fun q2 => by rw [if_neg q, if_pos q2]; exact ⟨rfl, h⟩, fun q2 => ?_⟩⟩
    obtain ⟨f, hf, ef⟩ := nI_of2 (M := 9) (n := 9) (by decide) q (Int32.not_lt.mp q2)
    rw [if_neg q, if_neg q2, vm_25 hm, e, ef, show ((10 * nI g) + nI f : Int32) = nI (10 * g + f) from pz_10g g f, pz_cl (by omega), pz_cl (by omega), hm.2.2.2.1 g f hg (by omega)]
    exact ⟨ix9 hg9 (by omega), rfl, h⟩
  rw [hc.2.1, e, pz_cl (by omega), vc_r8 hc, vc_rg hc hg9]
  rw [e] at ref
  refine ⟨ok_b hc.1, ix_gs hc.1 hg9, fun y ey => ?_⟩
  subst ey
  have hk := ok_g hc.1 hg9
  have fld : ∀ f : Nat, f < 10 → a2 = nI f → (jx_ok jx_LX 1 (b + 4 + 3 * g)) ∧ wX4_group (fun r' m' => x.1 (b + 4 + 3 * g) f = r' ∧ Rl x m') 0 (nI g) a2 m := fun f hf ef => by
    refine ⟨hk, ?_⟩
    have n1 : ¬ a2 < 0 := by rw [ef]; exact nI_pos (by omega)
    have n2 : ¬ 9 < a2 := by rw [ef]; exact nI_nlt (a := 9) (by omega) (by decide)
    rw [if_neg n1, if_neg n2] at ref
    rw [vc_g hc hg9 f]
    have e3 : a2.toNatClampNeg = f := by rw [ef, pz_cl (by omega)]
    rw [e3] at ref
    exact ref
  refine ⟨fld 0 (by decide), fld 1 (by decide), fld 2 (by decide), fld 3 (by decide), fld 4 (by decide), fld 5 (by decide), fld 6 (by decide), fld 7 (by decide), fld 8 (by decide), fld 9 (by decide), fun n0 n1 n2 n3 n4 n5 n6 n7 n8 n9 => ?_⟩
  by_cases q : a2 < 0
  · rw [if_pos q] at ref; exact ref
  · by_cases q2 : 9 < a2
    · rw [if_neg q, if_pos q2] at ref; exact ref
    · obtain ⟨f, hf, ef⟩ := nI_of2 (M := 9) (n := 9) (by decide) q (Int32.not_lt.mp q2)
      rcases (by omega : f = 0 ∨ f = 1 ∨ f = 2 ∨ f = 3 ∨ f = 4 ∨ f = 5 ∨ f = 6 ∨ f = 7 ∨ f = 8 ∨ f = 9) with rfl | rfl | rfl | rfl | rfl | rfl | rfl | rfl | rfl | rfl
      · exact absurd ef n0
      · exact absurd ef n1
      · exact absurd ef n2
      · exact absurd ef n3
      · exact absurd ef n4
      · exact absurd ef n5
      · exact absurd ef n6
      · exact absurd ef n7
      · exact absurd ef n8
      · exact absurd ef n9
theorem q_told (h : Rl x m) (a1 : Int32) : wX3_told (fun r x' => wX4_told (fun r' m' => r = r' ∧ Rl x' m') 0 a1 m) 0 a1 x := by
  obtain ⟨b, B, c, hc, hm, hw⟩ := Rl_v h
  obtain ⟨h7, h9, hk⟩ := hw
  have r6 : x.2 b 6 = b + 1 := hc.2.2.1.1
  have r24 : m.2 0 24 = 8 := hm.1.2.2.2.2.2.2.2.1
  unfold wX3_told
  rw [hc.2.1, vc_0 hc 0 (by decide), vc_0 hc 2 (by decide), vc_0 hc 3 (by decide), vc_0 hc 4 (by decide), vc_0 hc 5 (by decide), vc_0 hc 7 (by decide), r6]
  unfold wX4_told wX4_told_b70
  rw [hm.2.1, hm.2.2.1, r24]
  refine ⟨fun q0 => ⟨fun q1 => ⟨ok_sb, ok_b hc.1, fun qk => ?_, fun qk => ?_⟩, fun q1 => ⟨ok_sb, ok_b hc.1, ?_⟩⟩, fun q0 => ⟨ok_sb, ok_b hc.1, fun z => absurd q0 z, fun _ => ⟨ok_m, rfl, h⟩⟩⟩
  · have full : 1 ≤ c ∧ (B 0 0 = 1 ∨ (B 0 0 = 2 ∧ B 0 3 = -1001 ∧ B 0 4 = -1001 ∧ B 0 5 = -1001)) := by
      rcases hk with z | ⟨z1, _, z2 | z2⟩
      · exact absurd z.1 qk
      · exact ⟨z1, Or.inl z2⟩
      · exact ⟨z1, Or.inr ⟨z2.1, z2.2.2⟩⟩
    have c0 : c ≠ 0 := by omega
    have m20 := (hm.2.2.2.2.2.2.1 c0).1
    have m8 := (hm.2.2.2.2.2.2.1 c0).2
    have mk := hm.2.2.2.2.2.2.2
    refine ⟨fun e => ?_, fun e => ?_, fun e => ?_, fun e => ?_, fun n2 n3 n4 n5 => ⟨fun q => ?_, fun q => ⟨fun q' => ?_, fun q' => ?_⟩⟩⟩
    · subst e
      refine ⟨fun _ => ⟨fun _ => ⟨ok_m, fun z => absurd z qk, fun _ => ⟨fun z => absurd z (by decide), fun _ => ⟨fun z => absurd z (by decide), fun _ => ?_⟩⟩⟩, fun z => absurd z (by decide)⟩, fun z => absurd z (by decide)⟩
      have fin : (((¬ (2 : Int32) = 2) → (((¬ (2 : Int32) = 3) → (((¬ (2 : Int32) = 4) → (((¬ (2 : Int32) = 5) → (jx_ok jx_LM 4 0) ∧ (jx_ix jx_LM 6 8 (2 - 6)) ∧ B 0 2 = (m.1 8 ((2 - 6) : Int32).toNatClampNeg) ∧ Rl x m) ∧ (((2 : Int32) = 5) → (jx_ok jx_LM 4 0) ∧ B 0 2 = (m.1 0 23) ∧ Rl x m))) ∧ (((2 : Int32) = 4) → (jx_ok jx_LM 4 0) ∧ B 0 2 = (m.1 0 22) ∧ Rl x m))) ∧ (((2 : Int32) = 3) → (jx_ok jx_LM 4 0) ∧ B 0 2 = (m.1 0 21) ∧ Rl x m))) ∧ (((2 : Int32) = 2) → (jx_ok jx_LM 4 0) ∧ B 0 2 = (m.1 0 20) ∧ Rl x m)) := ⟨fun z => absurd rfl z, fun _ => ⟨ok_m, m20.symm, h⟩⟩
      exact ⟨fun _ => fin, fun _ => ⟨fun _ => fin, fun z => absurd (by decide) z⟩⟩
    · subst e
      refine ⟨fun _ => ⟨fun _ => ⟨ok_m, fun z => absurd z qk, fun _ => ⟨fun z => absurd z (by decide), fun _ => ⟨fun z => absurd z (by decide), fun _ => ?_⟩⟩⟩, fun z => absurd z (by decide)⟩, fun z => absurd z (by decide)⟩
      refine ⟨fun qn => ⟨fun _ => ⟨fun z => absurd rfl z, fun _ => ⟨ok_m, ?_, h⟩⟩, fun z => absurd z (by decide)⟩, fun q2 => ⟨fun z => absurd z (by decide), fun _ => ⟨fun z => absurd z (by decide), fun _ => ⟨?_, h⟩⟩⟩⟩
      · rcases full.2 with z | z
        · exact (mk z).1.symm
        · exact absurd z.1 qn
      · rcases full.2 with z | z
        · rw [z] at q2; exact absurd q2 (by decide)
        · exact z.2.1
    · subst e
      refine ⟨fun _ => ⟨fun _ => ⟨ok_m, fun z => absurd z qk, fun _ => ⟨fun z => absurd z (by decide), fun _ => ⟨fun z => absurd z (by decide), fun _ => ?_⟩⟩⟩, fun z => absurd z (by decide)⟩, fun z => absurd z (by decide)⟩
      refine ⟨fun qn => ⟨fun _ => ⟨fun _ => ⟨fun z => absurd rfl z, fun _ => ⟨ok_m, ?_, h⟩⟩, fun z => absurd z (by decide)⟩, fun z => absurd z (by decide)⟩, fun q2 => ⟨fun z => absurd z (by decide), fun _ => ⟨fun z => absurd z (by decide), fun _ => ⟨?_, h⟩⟩⟩⟩
      · rcases full.2 with z | z
        · exact (mk z).2.1.symm
        · exact absurd z.1 qn
      · rcases full.2 with z | z
        · rw [z] at q2; exact absurd q2 (by decide)
        · exact z.2.2.1
    · subst e
      refine ⟨fun _ => ⟨fun _ => ⟨ok_m, fun z => absurd z qk, fun _ => ⟨fun z => absurd z (by decide), fun _ => ⟨fun z => absurd z (by decide), fun _ => ?_⟩⟩⟩, fun z => absurd z (by decide)⟩, fun z => absurd z (by decide)⟩
      refine ⟨fun qn => ⟨fun _ => ⟨fun _ => ⟨fun _ => ⟨fun z => absurd rfl z, fun _ => ⟨ok_m, ?_, h⟩⟩, fun z => absurd z (by decide)⟩, fun z => absurd z (by decide)⟩, fun z => absurd z (by decide)⟩, fun q2 => ⟨fun z => absurd z (by decide), fun _ => ⟨fun z => absurd z (by decide), fun _ => ⟨?_, h⟩⟩⟩⟩
      · rcases full.2 with z | z
        · exact (mk z).2.2.symm
        · exact absurd z.1 qn
      · rcases full.2 with z | z
        · rw [z] at q2; exact absurd q2 (by decide)
        · exact z.2.2.2
    · refine ⟨fun _ => ⟨fun _ => ⟨ok_m, fun z => absurd z qk, fun _ => ⟨fun _ => ⟨rfl, h⟩, fun q2 => ?_⟩⟩, fun z => absurd z q1⟩, fun z => absurd z q0⟩
      have a0 : ¬ a1 < 0 := fun z => q2 (Int32.lt_trans z (by decide))
      have a6 : a1 ≤ 6 := Int32.le_of_lt q
      obtain ⟨f, hf, ef⟩ := nI_of2 (M := 6) (n := 6) (by decide) a0 a6
      subst ef
      rcases (by omega : f = 0 ∨ f = 1 ∨ f = 2 ∨ f = 3 ∨ f = 4 ∨ f = 5 ∨ f = 6) with rfl | rfl | rfl | rfl | rfl | rfl | rfl
      · exact absurd rfl q0
      · exact absurd rfl q1
      · exact absurd rfl n2
      · exact absurd rfl n3
      · exact absurd rfl n4
      · exact absurd rfl n5
      · exact absurd q (by decide)
    · refine ⟨fun _ => ⟨fun _ => ⟨ok_m, fun z => absurd z qk, fun _ => ⟨fun _ => ⟨rfl, h⟩, fun q2 => ⟨fun _ => ⟨rfl, h⟩, fun q3 => ?_⟩⟩⟩, fun z => absurd z q1⟩, fun z => absurd z q0⟩
      exact absurd (Int32.lt_of_lt_of_le (by decide : (9 : Int32) < 10) q') q3
    · have a0 : ¬ a1 < 0 := fun z => q (Int32.lt_trans z (by decide))
      obtain ⟨f, hf, ef, _⟩ := pk_mu (L := 10) a0 q' (by decide)
      have f6 : 6 ≤ f := by
        rcases Nat.lt_or_ge f 6 with z | z
        · rw [ef] at q; exact absurd (nI_lt (b := 6) z (by decide)) q
        · exact z
      have e6 : (a1 - 6 : Int32) = nI (f - 6) := by rw [ef, show (6 : Int32) = nI 6 from rfl, pk_sub f6]
      rw [e6, pz_cl (by omega), vc_1 hc, m8 (f - 6) (by omega)]
      refine ⟨ix_st hc.1 (by omega), fun _ => ⟨fun _ => ⟨ok_m, fun z => absurd z qk, fun _ => ⟨fun z => absurd (Int32.lt_trans z (by decide)) q, fun _ => ⟨fun z => ?_, fun _ => ?_⟩⟩⟩, fun z => absurd z q1⟩, fun z => absurd z q0⟩
      · rw [ef] at z
        have := (nI_ltI (a := 9) (by decide) (by omega)).mp z
        omega
      · have fin : (((¬ a1 = 2) → (((¬ a1 = 3) → (((¬ a1 = 4) → (((¬ a1 = 5) → (jx_ok jx_LM 4 0) ∧ (jx_ix jx_LM 6 8 (nI (f - 6))) ∧ B 1 (f - 6) = (B 1 (f - 6)) ∧ Rl x m) ∧ ((a1 = 5) → (jx_ok jx_LM 4 0) ∧ B 1 (f - 6) = (m.1 0 23) ∧ Rl x m))) ∧ ((a1 = 4) → (jx_ok jx_LM 4 0) ∧ B 1 (f - 6) = (m.1 0 22) ∧ Rl x m))) ∧ ((a1 = 3) → (jx_ok jx_LM 4 0) ∧ B 1 (f - 6) = (m.1 0 21) ∧ Rl x m))) ∧ ((a1 = 2) → (jx_ok jx_LM 4 0) ∧ B 1 (f - 6) = (m.1 0 20) ∧ Rl x m)) :=
          ⟨fun _ => ⟨fun _ => ⟨fun _ => ⟨fun _ => ⟨ok_m, ix_m (by decide) rfl (by omega) (by decide), rfl, h⟩, fun z => absurd z n5⟩, fun z => absurd z n4⟩, fun z => absurd z n3⟩, fun z => absurd z n2⟩
        refine ⟨fun _ => fin, fun _ => ⟨fun _ => fin, fun q3 => ⟨fun _ => fin, fun q5 => ?_⟩⟩⟩
        rw [ef] at q5
        exact absurd (nI_lt (a := 5) (by omega) (by omega)) q5
  · refine ⟨fun _ => ⟨fun _ => ⟨ok_m, fun _ => ⟨rfl, h⟩, fun z => absurd qk z⟩, fun z => absurd z q1⟩, fun z => absurd z q0⟩
  · rw [h7]
    refine ⟨fun _ => ⟨fun z => absurd q1 z, fun _ => ⟨ok_m, fun _ => ⟨rfl, h⟩, fun qk => ⟨?_, h⟩⟩⟩, fun z => absurd z q0⟩
    rcases hk with z | ⟨_, _, z | z⟩
    · rw [z.2]; rfl
    · rw [z] at qk; exact absurd qk (by decide)
    · rw [z.1] at qk; exact absurd qk (by decide)
end VQ
