/-! ===== next: turns are at beginnings and ends alone ===== -/
theorem stp {y : Int32} {k : Nat} (hk : 1 ≤ k) (h : k < 2 ^ 31) (hne : y ≠ nI k) : y ≤ nI k ↔ y ≤ nI (k - 1) := by
  have e1 := nI_toInt h
  have e2 := nI_toInt (n := k - 1) (by omega)
  have hn : y.toInt ≠ (k : Int) := fun z => hne (Int32.toInt_inj.mp (by rw [z, e1]))
  rw [Int32.le_iff_toInt_le, Int32.le_iff_toInt_le, e1, e2]
  omega
theorem tlr_eq {B : pz_Bt} {f : Nat} {t t' : Int32} : ∀ (r g : Nat) (cur : Int32), (∀ g', g ≤ g' → g' < g + r → (vq_h B g' t ↔ vq_h B g' t')) → tlr B f t r g cur = tlr B f t' r g cur := by
  intro r
  induction r with
  | zero => intro g cur _; rfl
  | succ r ih =>
    intro g cur h
    rw [tlr, tlr]
    have hg := h g (Nat.le_refl _) (by omega)
    have e : pz_if (vq_h B g t ∧ ¬ B (4 + 3 * g) f = -1) (nI g) cur = pz_if (vq_h B g t' ∧ ¬ B (4 + 3 * g) f = -1) (nI g) cur := by
      by_cases q : vq_h B g t ∧ ¬ B (4 + 3 * g) f = -1
      · rw [pz_ifp q, pz_ifp ⟨hg.mp q.1, q.2⟩]
      · rw [pz_ifn q, pz_ifn (fun z => q ⟨hg.mpr z.1, z.2⟩)]
    rw [e]
    exact ih (g + 1) _ (fun g' l1 l2 => h g' (by omega) (by omega))
/-- a group begins or ends there -/
def cnd (B : pz_Bt) (c k : Nat) : Prop := ∃ g, 1 ≤ g ∧ g < c ∧ (B (4 + 3 * g) 2 = nI k ∨ B (4 + 3 * g) 3 = nI k)
theorem oth_cnd {B : pz_Bt} {c k : Nat} (hk : 1 ≤ k) (h31 : k < 2 ^ 31) (h : oth B c (nI k)) : cnd B c k := by
  by_cases q : cnd B c k
  · exact q
  · exfalso
    have n2 : ∀ g, 1 ≤ g → g < c → B (4 + 3 * g) 2 ≠ nI k := fun g a1 a2 z => q ⟨g, a1, a2, Or.inl z⟩
    have n3 : ∀ g, 1 ≤ g → g < c → B (4 + 3 * g) 3 ≠ nI k := fun g a1 a2 z => q ⟨g, a1, a2, Or.inr z⟩
    have em : nI k - 1 = nI (k - 1) := by
      obtain ⟨j, rfl⟩ : ∃ j, k = j + 1 := ⟨k - 1, by omega⟩
      rw [nI_pred]; rfl
    have hh : ∀ g, 1 ≤ g → g < c → (vq_h B g (nI k) ↔ vq_h B g (nI k - 1)) := fun g a1 a2 => by
      unfold vq_h
      rw [em, Int32.not_lt, Int32.not_lt, stp hk h31 (n2 g a1 a2), stp hk h31 (n3 g a1 a2)]
    have ha : ∀ g, 1 ≤ g → g < c → (vq_a B g (nI k) ↔ vq_a B g (nI k - 1)) := fun g a1 a2 => by
      unfold vq_a
      rw [em, Int32.not_lt, Int32.not_lt, Int32.not_lt, stp hk h31 (n2 g a1 a2), stp hk h31 (n3 g a1 a2)]
    have ht : ∀ f, tel B c f (nI k) = tel B c f (nI k - 1) := fun f => tlr_eq (c - 1) 1 0 (fun g a1 a2 => hh g a1 (by omega))
    rcases h with z | z | z | z | ⟨g, a1, a2, z⟩
    · exact z (ht 5)
    · exact z (ht 7)
    · exact z (ht 8)
    · exact z (ht 9)
    · exact z (ha g a1 a2)
/-- the next turn behind s, ahead of v -/
def nxs (B : pz_Bt) (c s v : Nat) (N : Int32) : Prop := (N = -1 ∧ ∀ k, s < k → k < v → ¬ oth B c (nI k)) ∨ ∃ k, s < k ∧ k < v ∧ N = nI k ∧ oth B c (nI k) ∧ ∀ j, s < j → j < k → ¬ oth B c (nI j)
def bst (B : pz_Bt) (c s v : Nat) (S : Nat → Prop) (cur : Int32) : Prop := (cur = -1 ∧ ∀ k, S k → s < k → k < v → ¬ oth B c (nI k)) ∨ ∃ k, cur = nI k ∧ s < k ∧ k < v ∧ oth B c (nI k) ∧ ∀ j, S j → s < j → j < k → ¬ oth B c (nI j)
section VU
variable {x m : jx_St} {b : Nat} {B : pz_Bt} {c : Nat} {post : Int32 → jx_St → Prop} {u s v : Nat}
theorem kX0_nearer (h : vq_c x b B) (hw : vq_w B c) (hc : 1 ≤ c) (k2 : B 0 0 = 2) (e2 : B 4 2 = nI u) (e3 : B 4 3 = nI v) (hus : u ≤ s) (hsv : s < v) (hv : v < 1048576) {S : Nat → Prop} {cur a3 : Int32} (hb : bst B c s v S cur) (hp : ∀ cur' : Int32, bst B c s v (fun k => S k ∨ a3 = nI k) cur' → post cur' x) : wX0_nearerTurn post b (nI s) cur a3 x := by
  have keep : (∀ k, a3 = nI k → s < k → k < v → oth B c (nI k) → ∃ k0, cur = nI k0 ∧ k0 ≤ k ∧ k0 < v) → post cur x := fun hk => by
    refine hp cur ?_
    rcases hb with ⟨e, hb⟩ | ⟨k0, e, b1, b2, b3, b4⟩
    · refine Or.inl ⟨e, fun k hS l1 l2 => ?_⟩
      rcases hS with z | z
      · exact hb k z l1 l2
      · intro y
        obtain ⟨k0, e0, _, l0⟩ := hk k z l1 l2 y
        rw [e] at e0
        exact absurd e0.symm (pz_nm1 (by omega))
    · refine Or.inr ⟨k0, e, b1, b2, b3, fun j hS l1 l2 => ?_⟩
      rcases hS with z | z
      · exact b4 j z l1 l2
      · intro y
        obtain ⟨k', e0, l3, l4⟩ := hk j z l1 (by omega) y
        have : k0 = k' := (nI_eq (by omega) (by omega)).mp (e.symm.trans e0)
        omega
  have take : ¬ a3 ≤ nI s → (cur = -1 ∨ ¬ cur ≤ a3) → wX0_nearerTurn_b20 post b cur a3 1 x := fun q1 q2 => by
    unfold wX0_nearerTurn_b20
    refine ⟨fun z => absurd z (by decide), fun _ => ⟨ok_b h.1, kX0_covers h a3 (fun q _ => ⟨fun z => absurd z (by decide), fun _ => ?_⟩) (fun q _ => ⟨fun _ => ?_, fun z => absurd rfl z⟩)⟩⟩
    · obtain ⟨_, i2, i3⟩ := q
      rw [e2] at i2
      rw [e3] at i3
      have a0 : ¬ a3 < 0 := fun z => i2 (Int32.lt_of_lt_of_le z (nI_pos' (by omega)))
      obtain ⟨k, hk, ek, _⟩ := pk_mu a0 i3 (by omega)
      have sk : s < k := by
        rw [ek] at q1
        exact pz_nle (by omega) q1
      refine kX0_isTurn h hw hc (fun o _ => ⟨fun z => absurd z (by decide), fun _ => ?_⟩) (fun o _ => ⟨fun _ => keep (fun k' e' _ _ o' => ?_), fun z => absurd rfl z⟩)
      · refine hp a3 (Or.inr ⟨k, ek, sk, hk, by rw [← ek]; exact o, fun j hS l1 l2 => ?_⟩)
        rcases hS with z | z
        · rcases hb with ⟨e, hb⟩ | ⟨k0, e, b1, b2, b3, b4⟩
          · exact hb j z l1 (by omega)
          · refine b4 j z l1 ?_
            rcases q2 with y | y
            · rw [e] at y; exact absurd y (pz_nm1 (by omega))
            · rw [e, ek] at y
              have := pz_nle (by omega) y
              omega
        · have : k = j := (nI_eq (by omega) (by omega)).mp (ek.symm.trans z)
          omega
      · rw [← e'] at o'; exact absurd o' o
    · refine keep (fun k ek l1 l2 _ => absurd ⟨k2, ?_, ?_⟩ q)
      · rw [ek, e2]; exact nI_nlt (by omega) (by omega)
      · rw [ek, e3]; exact nI_ge l2 (by omega)
  unfold wX0_nearerTurn
  refine ⟨fun q => ?_, fun q => ⟨fun q2 => take q (Or.inl q2), fun q2 => ⟨fun q3 => ?_, fun q3 => take q (Or.inr q3)⟩⟩⟩
  · unfold wX0_nearerTurn_b20
    refine ⟨fun _ => keep (fun k ek l1 l2 _ => ?_), fun z => absurd rfl z⟩
    rw [ek] at q
    have := pz_lew (by omega) q
    omega
  · unfold wX0_nearerTurn_b20
    refine ⟨fun _ => keep (fun k ek l1 l2 _ => ?_), fun z => absurd rfl z⟩
    rcases hb with ⟨e, _⟩ | ⟨k0, e, b1, b2, b3, b4⟩
    · exact absurd e q2
    · rw [e, ek] at q3
      exact ⟨k0, e, pz_lew (by omega) q3, b2⟩
theorem kX0_next_l (h : vq_c x b B) (hw : vq_w B c) (hc : 1 ≤ c) (k2 : B 0 0 = 2) (e2 : B 4 2 = nI u) (e3 : B 4 3 = nI v) (hus : u ≤ s) (hsv : s < v) (hv : v < 1048576) (hp : ∀ N : Int32, nxs B c s v N → post N x) :
    ∀ (r g : Nat) (cur : Int32), g + r = c → 1 ≤ g → bst B c s v (cnd B g) cur → wX0_nextTurn_l4 post (r + 1) b (nI s) cur (nI g) x := by
  have h7 := hw.1
  have h9 := hw.2.1
  intro r
  induction r with
  | zero =>
    intro g cur e eg hb
    have ec : g = c := by omega
    subst ec
    unfold wX0_nextTurn_l4
    rw [vc_0 h 7 (by decide), h7]
    refine ⟨ok_b h.1, fun _ => hp cur ?_, fun z => absurd (nI_le (by omega) (by omega)) z⟩
    rcases hb with ⟨e, hb⟩ | ⟨k0, e, b1, b2, b3, b4⟩
    · exact Or.inl ⟨e, fun k l1 l2 o => hb k (oth_cnd (by omega) (by omega) o) l1 l2 o⟩
    · exact Or.inr ⟨k0, b1, b2, e, b3, fun j l1 l2 o => b4 j (oth_cnd (by omega) (by omega) o) l1 l2 o⟩
  | succ r ih =>
    intro g cur e eg hb
    have hg : g < 9 := by omega
    unfold wX0_nextTurn_l4
    rw [vc_0 h 7 (by decide), h7, vc_r8 h, pz_cl (by omega), vc_rg h hg, vc_g h hg 2]
    refine ⟨ok_b h.1, fun z => absurd z (nI_ge (by omega) (by omega)), fun _ => ⟨fun z => absurd z (nI_ge (b := 9) hg (by decide)), fun _ => ⟨ix_gs h.1 hg, ok_g h.1 hg, kX0_nearer h hw hc k2 e2 e3 hus hsv hv hb (fun c1 hb1 => ?_)⟩⟩⟩
    rw [vc_r8 h, vc_rg h hg, vc_g h hg 3]
    refine ⟨ix_gs h.1 hg, ok_g h.1 hg, kX0_nearer h hw hc k2 e2 e3 hus hsv hv hb1 (fun c2 hb2 y ey => ?_)⟩
    rw [ey, nI_1]
    refine ih (g + 1) c2 (by omega) (by omega) ?_
    have sub : ∀ k, cnd B (g + 1) k → (cnd B g k ∨ B (4 + 3 * g) 2 = nI k) ∨ B (4 + 3 * g) 3 = nI k := fun k ⟨g', a1, a2, a3⟩ => by
      by_cases z : g' = g
      · subst z
        rcases a3 with y | y
        · exact Or.inl (Or.inr y)
        · exact Or.inr y
      · exact Or.inl (Or.inl ⟨g', a1, by omega, a3⟩)
    rcases hb2 with ⟨e, hb⟩ | ⟨k0, e, b1, b2, b3, b4⟩
    · exact Or.inl ⟨e, fun k hS l1 l2 => hb k (sub k hS) l1 l2⟩
    · exact Or.inr ⟨k0, e, b1, b2, b3, fun j hS l1 l2 => b4 j (sub j hS) l1 l2⟩
theorem qX4_next_l (h : vq_m m B c) (hw : vq_w B c) (hc : 1 ≤ c) (e3 : B 4 3 = nI v) (hv : v < 1048576) {N : Int32} (hN : nxs B c s v N) (hp : post N m) :
    ∀ (r k : Nat), k + r = v → s < k → (∀ j, s < j → j < k → ¬ oth B c (nI j)) → wX4_next_l14 post (r + 1) 0 (nI k) m := by
  have t3 : m.1 9 ((3 : Int32).toNatClampNeg) = B 4 3 := vm_t h (g := 0) (f := 3) hc (by decide)
  have ix3 : jx_ix jx_LM 6 9 3 := ix9 (g := 0) (f := 3) (by decide) (by decide)
  intro r
  induction r with
  | zero =>
    intro k e hk hj
    unfold wX4_next_l14
    rw [vm_25 h, t3, e3]
    refine ⟨ok_m, ix3, fun _ => ?_, fun z => absurd (nI_le (by omega) (by omega)) z⟩
    rcases hN with ⟨e, _⟩ | ⟨k', l1, l2, _, o, _⟩
    · rw [e] at hp; exact hp
    · exact absurd o (hj k' l1 (by omega))
  | succ r ih =>
    intro k e hk hj
    unfold wX4_next_l14
    rw [vm_25 h, t3, e3]
    refine ⟨ok_m, ix3, fun z => absurd z (nI_ge (by omega) (by omega)), fun _ => qX4_isOther h hw hc (fun o _ => ⟨fun z => absurd z (by decide), fun _ => ?_⟩) (fun o _ => ⟨fun _ y ey => ?_, fun z => absurd rfl z⟩)⟩
    · rcases hN with ⟨e', n'⟩ | ⟨k', l1, l2, e', o', n'⟩
      · exact absurd o (n' k hk (by omega))
      · rcases Nat.lt_trichotomy k' k with z | z | z
        · exact absurd o' (hj k' l1 z)
        · rw [e', z] at hp; exact hp
        · exact absurd o (n' k hk z)
    · rw [ey, nI_1]
      refine ih (k + 1) (by omega) (by omega) (fun j l1 l2 => ?_)
      by_cases z : j = k
      · rw [z]; exact o
      · exact hj j l1 (by omega)
theorem q_next (h : Rl x m) (a1 : Int32) : wX3_next (fun r x' => wX4_next (fun r' m' => r = r' ∧ Rl x' m') 0 a1 m) 0 a1 x := by
  obtain ⟨b, B, c, hc, hm, hw⟩ := Rl_v h
  have h9 := hw.2.1
  unfold wX3_next
  rw [hc.2.1]
  refine ⟨ok_sb, ok_b hc.1, kX0_covers hc a1 (fun q _ => ⟨fun z => absurd z (by decide), fun _ => ?_⟩) (fun q _ => ⟨fun _ => ?_, fun z => absurd rfl z⟩)⟩
  · have c1 := vq_i1 hw q
    obtain ⟨u, v, uv, v20, e2, e3⟩ : ∃ u v : Nat, u < v ∧ v < 1048576 ∧ B 4 2 = nI u ∧ B 4 3 = nI v := by
      rcases hw.2.2 with z | ⟨_, _, z | z⟩
      · have := q.1
        rw [z.1] at this; exact absurd this (by decide)
      · have := q.1
        rw [z] at this; exact absurd this (by decide)
      · exact z.2.1
    obtain ⟨k2, i2, i3⟩ := q
    have i2' := i2
    have i3' := i3
    rw [e2] at i2
    rw [e3] at i3
    have a0 : ¬ a1 < 0 := fun z => i2 (Int32.lt_of_lt_of_le z (nI_pos' (by omega)))
    obtain ⟨s, hs, es, es1⟩ := pk_mu a0 i3 (by omega)
    have us : u ≤ s := by
      rw [es] at i2
      exact pz_lew (by omega) (Int32.not_lt.mp i2)
    rw [hc.2.1]
    refine ⟨ok_b hc.1, ?_⟩
    have main : wX0_nextTurn (fun r x' => wX4_next (fun r' m' => r = r' ∧ Rl x' m') 0 (nI s) m) b (nI s) x := by
      refine ⟨c - 1 + 1, kX0_next_l hc hw c1 k2 e2 e3 us hs v20 (fun N hN => ?_) (c - 1) 1 (-1) (by omega) (by omega) (Or.inl ⟨rfl, fun k ⟨g, l1, l2, _⟩ => by omega⟩)⟩
      unfold wX4_next
      refine ⟨ok_m, qX4_isMinute hm hw (nI s) (fun _ _ => ⟨fun _ y ey => ⟨v - (s + 1) + 1, ?_⟩, fun y => absurd y (by decide)⟩) (fun y => absurd ⟨k2, by rw [← es]; exact i2', by rw [← es]; exact i3'⟩ y)⟩
      rw [ey, nI_1]
      exact qX4_next_l hm hw c1 e3 v20 hN ⟨rfl, h⟩ (v - (s + 1)) (s + 1) (by omega) (by omega) (fun j l1 l2 => by omega)
    rw [← es] at main
    exact main
  · unfold wX4_next
    exact ⟨ok_m, qX4_isMinute hm hw a1 (fun y => absurd y q) (fun _ _ => ⟨fun y => absurd rfl y, fun _ => ⟨rfl, h⟩⟩)⟩
end VU
