/-! ===== type, print, character ===== -/
theorem by_32 (n : Nat) : (lN n).toInt32 = nI n := by
  apply Int32.toBitVec_inj.mp
  rw [Int64.toBitVec_toInt32, BitVec.signExtend_eq_setWidth_of_le _ (by decide)]
  show (BitVec.ofNat 64 n).setWidth 32 = BitVec.ofNat 32 n
  apply BitVec.eq_of_toNat_eq
  rw [BitVec.toNat_setWidth, BitVec.toNat_ofNat, BitVec.toNat_ofNat]
  omega
theorem by_q (y : Int64) : ∃ q : Nat, q < 256 ∧ y &&& 255 = lN q ∧ (y.toInt32 &&& 255) = nI q ∧ (y &&& 255).toInt32 = nI q := by
  obtain ⟨n, hn, e⟩ := wb_of y
  subst e
  have e1 : lN n &&& 255 = lN (n % 256) := wb_mask (k := 8) hn (by decide)
  refine ⟨n % 256, Nat.mod_lt _ (by decide), e1, ?_, by rw [e1, by_32]⟩
  rw [by_32, pk_and (nI n) (m := 255) 8 (by decide)]
  congr 1
  show (BitVec.ofNat 32 n).toNat % 256 = n % 256
  rw [BitVec.toNat_ofNat]
  omega
/-- the i-th character of what is typed, from the lowest byte -/
def byt (a : Int64) (i : Nat) : Int32 := (((a >>> (((8 * nI i) : Int32).toInt64 &&& 63)) : Int64).toInt32) &&& 255
def bok (a : Int64) (i : Nat) : Prop := (32 : Int32) ≤ byt a i ∧ byt a i ≤ 126
theorem pz_narU {r : Int32} (h : (32 : Int32) ≤ r ∧ r ≤ 126) : vp_nar .char (((r : Int32).toUInt32 % 65536).toInt32) = r := by
  have h0 : ¬ r < 0 := fun z => absurd (Int32.lt_of_lt_of_le z (by decide : (0 : Int32) ≤ 32)) (Int32.not_lt.mpr h.1)
  obtain ⟨q, hq, e⟩ := nI_of2 (M := 126) (n := 126) (by decide) h0 h.2
  have : (((r : Int32).toUInt32 % 65536).toInt32) = r := by
    rw [pk_char, e]
    congr 1
    show (BitVec.ofNat 32 q).toNat % 65536 = q
    rw [BitVec.toNat_ofNat]
    omega
  rw [this]
  exact pz_nar h
section VV
variable {x m x0 m0 : jx_St} {post : Int32 → jx_St → Prop} {a : Int64} {n : Nat}
theorem kX3_type_28 (hn : n ≤ 8) (h1 : (∀ j, j < n → bok a j) → ∃ n_ : Nat, wX3_type_l69 post n_ 0 a (nI n - 1) x) (h0 : (∃ j, j < n ∧ ¬ bok a j) → post (-1) x) : ∀ (r i : Nat), i + r = n → (∀ j, j < i → bok a j) → wX3_type_l28 post (r + 1) 0 a (nI n) (nI i) x := by
  intro r
  induction r with
  | zero =>
    intro i e hj
    unfold wX3_type_l28
    refine ⟨fun _ y ey => ?_, fun z => absurd (nI_le (by omega) (by omega)) z⟩
    rw [ey]; exact h1 (fun j l => hj j (by omega))
  | succ r ih =>
    intro i e hj
    unfold wX3_type_l28 wX3_byteOf
    refine ⟨fun z => absurd z (nI_ge (by omega) (by omega)), fun _ => ⟨fun q => h0 ⟨i, by omega, fun z => absurd z.1 (Int32.not_le.mpr q)⟩, fun q => ⟨fun q2 y ey => ?_, fun q2 => h0 ⟨i, by omega, fun z => q2 z.2⟩⟩⟩⟩
    rw [ey, nI_1]
    refine ih (i + 1) (by omega) (fun j l => ?_)
    by_cases z : j = i
    · rw [z]; exact ⟨Int32.not_lt.mp q, q2⟩
    · exact hj j (by omega)
theorem qX4_type_28 (hn : n ≤ 8) (h1 : (∀ j, j < n → bok a j) → ∃ n_ : Nat, wX4_type_l78 post n_ 0 a (nI n - 1) m) (h0 : (∃ j, j < n ∧ ¬ bok a j) → post (-1) m) : ∀ (r i : Nat), i + r = n → (∀ j, j < i → bok a j) → wX4_type_l28 post (r + 1) 0 a (nI n) (nI i) m := by
  intro r
  induction r with
  | zero =>
    intro i e hj
    unfold wX4_type_l28
    refine ⟨fun _ y ey => ?_, fun z => absurd (nI_le (by omega) (by omega)) z⟩
    rw [ey]; exact h1 (fun j l => hj j (by omega))
  | succ r ih =>
    intro i e hj
    unfold wX4_type_l28
    refine ⟨fun z => absurd z (nI_ge (by omega) (by omega)), fun _ y7 e7 => ?_⟩
    obtain ⟨q, hq, f1, f2, f3⟩ := by_q (a >>> (((8 * nI i) : Int32).toInt64 &&& 63))
    have eb : byt a i = nI q := f2
    rw [e7, f1, lg_cmp_lt, lg_cmp_le, show (32 : Int64) = lN 32 from rfl, show (126 : Int64) = lN 126 from rfl, pk_lLT (by omega) (by decide), pk_lLE (by omega) (by decide)]
    have b1 : (32 : Int32) ≤ byt a i ↔ 32 ≤ q := by rw [eb]; exact nI_leI (a := 32) (by decide) (by omega)
    have b2 : byt a i ≤ 126 ↔ q ≤ 126 := by rw [eb]; exact nI_leI (b := 126) (by omega) (by decide)
    refine ⟨fun q => h0 ⟨i, by omega, fun z => absurd (b1.mp z.1) (by omega)⟩, fun q => ⟨fun q2 y ey => ?_, fun q2 => h0 ⟨i, by omega, fun z => q2 (b2.mp z.2)⟩⟩⟩
    rw [ey, nI_1]
    refine ih (i + 1) (by omega) (fun j l => ?_)
    by_cases z : j = i
    · rw [z]; exact ⟨b1.mpr (by omega), b2.mpr q2⟩
    · exact hj j (by omega)
/-- the bytes from the j-th lowest on down -/
def bts (a : Int64) : Nat → List Int32
  | 0 => []
  | j + 1 => byt a j :: bts a j
theorem bts_len (a : Int64) : ∀ j, (bts a j).length = j := by
  intro j
  induction j with
  | zero => rfl
  | succ j ih => rw [bts, List.length_cons, ih]
def ty_x (x0 x : jx_St) (cs : List Int32) : Prop := x.2 = x0.2 ∧ x.1 0 1 = nI cs.length ∧ (∀ i, i < cs.length → x.1 1 i = cs.getD i 0) ∧ ∀ c i, c ≠ 1 → ¬ (c = 0 ∧ i = 1) → x.1 c i = x0.1 c i
theorem ty_push {cs : List Int32} {v : Int32} {x1 x2 : jx_St} (h : ty_x x0 x cs) (e1 : x1 = jx_sI x 1 cs.length v) (e2 : x2 = jx_sI x1 0 1 (x1.1 0 1 + 1)) : ty_x x0 x2 (cs ++ [v]) := by
  have o1 : ∀ c i, ¬ (c = 1 ∧ i = cs.length) → x1.1 c i = x.1 c i := fun c i hc => by rw [e1, pz_s1, if_neg hc]
  have o2 : ∀ c i, ¬ (c = 0 ∧ i = 1) → x2.1 c i = x1.1 c i := fun c i hc => by rw [e2, pz_s1, if_neg hc]
  refine ⟨by rw [e2, pz_s2, e1, pz_s2]; exact h.1, ?_, fun i hi => ?_, fun c i c1 c2 => ?_⟩
  · rw [e2, pz_s1, if_pos ⟨rfl, rfl⟩, o1 0 1 (by omega), h.2.1, nI_1, List.length_append]; rfl
  · rw [o2 1 i (by omega)]
    rw [List.length_append, List.length_singleton] at hi
    by_cases q : i = cs.length
    · rw [e1, pz_s1, if_pos ⟨rfl, q⟩, q]
      simp [List.getD_eq_getElem?_getD]
    · rw [o1 1 i (by omega), h.2.2.1 i (by omega)]
      have hi' : i < cs.length := by omega
      simp [List.getD_eq_getElem?_getD, List.getElem?_append_left hi']
  · rw [o2 c i c2, o1 c i (fun z => c1 z.1)]; exact h.2.2.2 c i c1 c2
theorem kX3_type_69 (hr : x0.2 0 0 = 1) : ∀ (j : Nat) (cs : List Int32) (x : jx_St), (∀ i, i < j → bok a i) → j ≤ 8 → cs.length + j ≤ 700 → ty_x x0 x cs → (∀ x' : jx_St, ty_x x0 x' (cs ++ bts a j) → post (nI (cs.length + j)) x') → wX3_type_l69 post (j + 1) 0 a (nI j - 1) x := by
  intro j
  induction j with
  | zero =>
    intro cs x hb h8 hl h hp
    unfold wX3_type_l69
    have e : (nI 0 - 1 : Int32) = -1 := by decide
    rw [e, h.2.1]
    refine ⟨fun _ => ⟨ok_sb, hp x (by rw [bts, List.append_nil]; exact h)⟩, fun z => absurd (by decide) z⟩
  | succ j ih =>
    intro cs x hb h8 hl h hp
    unfold wX3_type_l69 wX3_byteOf
    rw [nI_pred, h.1, hr, h.2.1, pz_cl (by omega)]
    refine ⟨fun z => absurd z (nI_pos (by omega)), fun _ => ⟨ok_sb, ⟨⟨by decide, by decide⟩, vp_in_nI (by show cs.length < 700; omega) (by decide)⟩, fun x1 e1 x2 e2 y ey => ?_⟩⟩
    have eb : vp_nar .char ((((((a >>> (((8 * nI j) : Int32).toInt64 &&& 63)) : Int64).toInt32) &&& 255).toUInt32 % 65536).toInt32) = byt a j := pz_narU (hb j (by omega))
    rw [eb] at e1
    have h2 := ty_push h e1 e2
    rw [ey, show (nI j + (-1) : Int32) = nI j - 1 from (Int32.sub_eq_add_neg ..).symm]
    refine ih (cs ++ [byt a j]) x2 (fun i hi => hb i (by omega)) (by omega) (by rw [List.length_append, List.length_singleton]; omega) h2 (fun x' h' => ?_)
    have := hp x' (by rw [bts]; simpa using h')
    rw [List.length_append, List.length_singleton, show cs.length + 1 + j = cs.length + (j + 1) by omega]
    exact this
theorem qX4_type_78 (hr : m0.2 0 0 = 1) : ∀ (j : Nat) (cs : List Int32) (m : jx_St), j ≤ 8 → cs.length + j ≤ 700 → ty_x m0 m cs → (∀ m' : jx_St, ty_x m0 m' (cs ++ bts a j) → post (nI (cs.length + j)) m') → wX4_type_l78 post (j + 1) 0 a (nI j - 1) m := by
  intro j
  induction j with
  | zero =>
    intro cs x h8 hl h hp
    unfold wX4_type_l78
    have e : (nI 0 - 1 : Int32) = -1 := by decide
    rw [e, h.2.1]
    refine ⟨fun _ => ⟨ok_m, hp x (by rw [bts, List.append_nil]; exact h)⟩, fun z => absurd (by decide) z⟩
  | succ j ih =>
    intro cs x h8 hl h hp
    unfold wX4_type_l78
    rw [nI_pred, h.1, hr, h.2.1, pz_cl (by omega)]
    refine ⟨fun z => absurd z (nI_pos (by omega)), fun _ => ⟨ok_m, ix_m (by decide) rfl (by omega) (by decide), fun x1 e1 x2 e2 y ey => ?_⟩⟩
    obtain ⟨q, hq, f1, f2, f3⟩ := by_q (a >>> (((8 * nI j) : Int32).toInt64 &&& 63))
    have eb : ((((a >>> (((8 * nI j) : Int32).toInt64 &&& 63)) &&& (255 : Int64)) : Int64).toInt32) = byt a j := f3.trans f2.symm
    rw [eb] at e1
    have h2 := ty_push h e1 e2
    rw [ey, show (nI j + (-1) : Int32) = nI j - 1 from (Int32.sub_eq_add_neg ..).symm]
    refine ih (cs ++ [byt a j]) x2 (by omega) (by rw [List.length_append, List.length_singleton]; omega) h2 (fun x' h' => ?_)
    have := hp x' (by rw [bts]; simpa using h')
    rw [List.length_append, List.length_singleton, show cs.length + 1 + j = cs.length + (j + 1) by omega]
    exact this
theorem KK_fr {m m' : jx_St} {B : pz_Bt} {tx : List Int32} (h1 : ∀ c i, 8 ≤ c → c ≤ 12 → m'.1 c i = m.1 c i) (h2 : ∀ i, 18 ≤ i → i ≤ 29 → m'.1 0 i = m.1 0 i) (h : mz_KK m B tx) : mz_KK m' B tx := by
  obtain ⟨⟨gm, x1, x2, x3, x4, x5⟩, y1, y2, y3, y4, y5, y6, y7⟩ := h
  exact ⟨⟨gm, x1, x2, fun g f l1 l2 => by rw [h1 9 _ (by decide) (by decide)]; exact x3 g f l1 l2, fun g j l1 l2 l3 => by rw [h1 10 _ (by decide) (by decide)]; exact x4 g j l1 l2 l3, fun g j l1 l2 l3 => by rw [h1 11 _ (by decide) (by decide)]; exact x5 g j l1 l2 l3⟩, by rw [h2 18 (by decide) (by decide)]; exact y1, by rw [h2 19 (by decide) (by decide)]; exact y2, by rw [h2 20 (by decide) (by decide)]; exact y3, fun z => by rw [h2 21 (by decide) (by decide), h2 22 (by decide) (by decide), h2 23 (by decide) (by decide)]; exact y4 z, fun j hj => by rw [h1 8 _ (by decide) (by decide)]; exact y5 j hj, by rw [h2 29 (by decide) (by decide)]; exact y6, fun i hi => by rw [h1 12 _ (by decide) (by decide)]; exact y7 i hi⟩
/-- what typing, printing and failed reading leave as it was -/
theorem Rl_fr {kb db : Nat} {B : pz_Bt} {c : Nat} {tx : List Int32} {x' m' : jx_St} (hr : rl_r x m kb db) (hx2 : x'.2 = x.2) (hm2 : m'.2 = m.2) (ht : rl_t x' m') (hp : rl_p x' m') (h7 : B 0 7 = nI c) (h9 : c ≤ 9) (hc : rl_c x kb B tx) (hk : rl_e m B c tx ∨ rl_f m B c tx) (f1 : ∀ c i, kb ≤ c → c < kb + 31 → x'.1 c i = x.1 c i) (f2 : ∀ c i, 8 ≤ c → c ≤ 12 → m'.1 c i = m.1 c i) (f3 : ∀ i, 18 ≤ i → i ≤ 29 → m'.1 0 i = m.1 0 i) : Rl x' m' := by
  refine ⟨kb, db, B, c, tx, ?_, ht, hp, h7, h9, ?_, ?_⟩
  · unfold rl_r cr_b mz_R at *
    rw [hx2, hm2]; exact hr
  · obtain ⟨c1, c2, c3, c4⟩ := hc
    exact ⟨fun rc i r1 r2 r3 => by rw [f1 _ _ (by omega) (by omega)]; exact c1 rc i r1 r2 r3, by rw [f1 _ _ (by omega) (by omega)]; exact c2, fun i hi => by rw [f1 _ _ (by omega) (by omega)]; exact c3 i hi, c4⟩
  · rcases hk with ⟨k1, k2, k3, k4, k5⟩ | ⟨ks, days, B0, k1, k2, k3, k4, k5, k6, k7, k8⟩
    · exact Or.inl ⟨k1, k2, k3, by rw [f3 18 (by decide) (by decide)]; exact k4, by rw [f3 19 (by decide) (by decide)]; exact k5⟩
    · exact Or.inr ⟨ks, days, B0, k1, k2, k3, k4, k5, k6, k7, KK_fr f2 f3 k8⟩
theorem q_type (h : Rl x m) (a : Int64) (a3 : Int32) : wX3_type (fun r x' => wX4_type (fun r' m' => r = r' ∧ Rl x' m') 0 a a3 m) 0 a a3 x := by
  have h' := h
  obtain ⟨kb, db, B, c, tx, hr, ⟨cs, hV, t1, t2, t3⟩, hp, h7, h9, hc, hk⟩ := h'
  have hkb : kb = 3 ∨ kb = 34 := by rcases hr.1 with z | z <;> omega
  have no : ∀ v : Int32, v = -1 → (a3 < 1 ∨ 8 < a3 ∨ ¬ (nI cs.length + a3 ≤ 700) ∨ ∃ n : Nat, n ≤ 8 ∧ a3 = nI n ∧ ∃ j, j < n ∧ ¬ bok a j) → wX4_type (fun r' m' => v = r' ∧ Rl x m') 0 a a3 m := fun v ev hq => by
    subst ev
    unfold wX4_type
    rw [t2]
    refine ⟨fun _ => ⟨rfl, h⟩, fun q1 => ⟨fun _ => ⟨rfl, h⟩, fun q2 => ⟨ok_m, fun q3 => ?_, fun _ => ⟨rfl, h⟩⟩⟩⟩
    rcases hq with z | z | z | ⟨n, n8, e, z⟩
    · exact absurd z q1
    · exact absurd z q2
    · exact absurd q3 z
    · rw [e]
      obtain ⟨j, hj, hb⟩ := z
      exact ⟨n + 1, qX4_type_28 n8 (fun y => absurd (y j hj) hb) (fun _ => ⟨rfl, h⟩) n 0 (by omega) (fun j l => absurd l (by omega))⟩
  unfold wX3_type
  rw [t1]
  refine ⟨fun q => no _ rfl (Or.inl q), fun q1 => ⟨fun q => no _ rfl (Or.inr (Or.inl q)), fun q2 => ⟨ok_sb, fun q3 => ?_, fun q => no _ rfl (Or.inr (Or.inr (Or.inl q)))⟩⟩⟩
  have a0 : ¬ a3 < 0 := fun z => q1 (Int32.lt_trans z (by decide))
  obtain ⟨n, n8, e⟩ := nI_of2 (M := 8) (n := 8) (by decide) a0 (Int32.not_lt.mp q2)
  subst e
  have hl := hV.1
  have hl2 : cs.length + n ≤ 700 := by
    rw [nI_add] at q3
    exact pz_lew (by omega) q3
  refine ⟨n + 1, kX3_type_28 n8 (fun hb => ⟨n + 1, ?_⟩) (fun hb => no _ rfl (Or.inr (Or.inr (Or.inr ⟨n, n8, rfl, hb⟩)))) n 0 (by omega) (fun j l => absurd l (by omega))⟩
  refine kX3_type_69 (x0 := x) hr.2.1 n cs x hb n8 hl2 ⟨rfl, t1, fun i hi => (t3 i hi).1, fun _ _ _ _ => rfl⟩ (fun x' hx' => ?_)
  unfold wX4_type
  rw [t2]
  refine ⟨fun z => absurd z q1, fun _ => ⟨fun z => absurd z q2, fun _ => ⟨ok_m, fun _ => ?_, fun z => absurd q3 z⟩⟩⟩
  refine ⟨n + 1, qX4_type_28 n8 (fun _ => ⟨n + 1, ?_⟩) (fun ⟨j, l, z⟩ => absurd (hb j l) z) n 0 (by omega) (fun j l => absurd l (by omega))⟩
  refine qX4_type_78 (m0 := m) hr.2.2.2.2.2.2.2.2.2.1 n cs m n8 hl2 ⟨rfl, t2, fun i hi => (t3 i hi).2, fun _ _ _ _ => rfl⟩ (fun m' hm' => ⟨rfl, ?_⟩)
  have elen : (cs ++ bts a n).length = cs.length + n := by rw [List.length_append, bts_len]
  have hbm : ∀ j, (∀ i, i < j → bok a i) → ∀ y ∈ bts a j, (32 : Int32) ≤ y ∧ y ≤ 126 := by
    intro j
    induction j with
    | zero => intro _ y hy; exact absurd hy (by simp [bts])
    | succ j ih =>
      intro hj y hy
      rw [bts] at hy
      rcases List.mem_cons.mp hy with z | z
      · rw [z]; exact hj j (by omega)
      · exact ih (fun i hi => hj i (by omega)) y z
  refine Rl_fr hr hx'.1 hm'.1 ⟨cs ++ bts a n, ⟨by omega, fun y hy => ?_⟩, hx'.2.1, hm'.2.1, fun i hi => ⟨hx'.2.2.1 i hi, hm'.2.2.1 i hi⟩⟩ ?_ h7 h9 hc hk (fun c i l1 l2 => hx'.2.2.2 c i (by omega) (by omega)) (fun c i l1 l2 => hm'.2.2.2 c i (by omega) (by omega)) (fun i l1 l2 => hm'.2.2.2 0 i (by decide) (by omega))
  · rcases List.mem_append.mp hy with z | z
    · exact hV.2 y z
    · exact hbm n hb y z
  · obtain ⟨np, p1, p2, p3, p4⟩ := hp
    exact ⟨np, p1, by rw [hx'.2.2.2 0 3 (by decide) (by decide)]; exact p2, by rw [hm'.2.2.2 0 31 (by decide) (by decide)]; exact p3, fun i hi => by rw [hx'.2.2.2 2 i (by decide) (by omega), hm'.2.2.2 13 i (by decide) (by omega)]; exact p4 i hi⟩
theorem q_character (h : Rl x m) (a1 : Int32) : wX3_character (fun r x' => wX4_character (fun r' m' => r = r' ∧ Rl x' m') 0 a1 m) 0 a1 x := by
  have h' := h
  obtain ⟨kb, db, B, c, tx, hr, ht, ⟨n, p1, p2, p3, p4⟩, h7, h9, hc, hk⟩ := h'
  have r2 : x.2 0 2 = 2 := hr.2.2.1
  have r30 : m.2 0 30 = 13 := hr.2.2.2.2.2.2.2.2.2.2.2.2.2.2.2.2.2.2.2.2.2
  unfold wX3_character wX4_character
  rw [p2, p3, r2, r30]
  refine ⟨fun q => ⟨fun _ => ⟨rfl, h⟩, fun z => absurd q z⟩, fun q => ⟨ok_sb, fun q2 => ⟨fun z => absurd z q, fun _ => ⟨ok_m, fun _ => ⟨rfl, h⟩, fun z => absurd q2 z⟩⟩, fun q2 => ?_⟩⟩
  obtain ⟨j, hj, e, _⟩ := pk_mu q q2 (by omega)
  rw [e, pz_cl (by omega), p4 j hj]
  rw [e] at q q2
  exact ⟨⟨⟨by decide, by decide⟩, vp_in_nI (by show j < 700; omega) (by decide)⟩, fun z => absurd z q, fun _ => ⟨ok_m, fun z => absurd z q2, fun _ => ⟨ix_m (by decide) rfl (by omega) (by decide), rfl, h⟩⟩⟩
def pr_x (x0 x : jx_St) (tx : List Int32) (d i : Nat) : Prop := x.2 = x0.2 ∧ (∀ j, j < i → x.1 d j = tx.getD j 0) ∧ ∀ c j, c ≠ d → x.1 c j = x0.1 c j
theorem pr_push {tx : List Int32} {d i : Nat} {v : Int32} {x1 : jx_St} (h : pr_x x0 x tx d i) (e1 : x1 = jx_sI x d i v) (hv : v = tx.getD i 0) : pr_x x0 x1 tx d (i + 1) := by
  refine ⟨by rw [e1, pz_s2]; exact h.1, fun j hj => ?_, fun c j hc => by rw [e1, pz_s1, if_neg (fun z => hc z.1)]; exact h.2.2 c j hc⟩
  by_cases q : j = i
  · rw [e1, pz_s1, if_pos ⟨rfl, q⟩, q]; exact hv
  · rw [e1, pz_s1, if_neg (fun z => q z.2)]; exact h.2.1 j (by omega)
theorem kX3_print_l {kb : Nat} {tx : List Int32} (hkb : kb = 3 ∨ kb = 34) (r4 : x0.2 0 4 = kb) (r2 : x0.2 0 2 = 2) (r9 : x0.2 kb 9 = kb + 3) (h10 : x0.1 kb 10 = nI tx.length) (ht : ∀ i, i < tx.length → x0.1 (kb + 3) i = tx.getD i 0) (hV : pz_V tx) (hp : ∀ x' : jx_St, x'.2 = x0.2 → (∀ j, j < tx.length → x'.1 2 j = tx.getD j 0) → x'.1 0 3 = nI tx.length → (∀ c j, c ≠ 2 → ¬ (c = 0 ∧ j = 3) → x'.1 c j = x0.1 c j) → post (nI tx.length) x') :
    ∀ (r i : Nat) (x : jx_St), i + r = tx.length → pr_x x0 x tx 2 i → wX3_print_l2 post (r + 1) 0 (nI i) x := by
  have hl := hV.1
  intro r
  induction r with
  | zero =>
    intro i x e h
    unfold wX3_print_l2
    rw [h.1, r4, h.2.2 kb 10 (by omega), h10]
    refine ⟨ok_sb, ok_b hkb, fun _ x1 e1 => ?_, fun z => absurd (nI_le (by omega) (by omega)) z⟩
    have e3 : x1.1 0 3 = nI tx.length := by rw [e1, pz_s1, if_pos ⟨rfl, rfl⟩]
    rw [e3]
    refine hp x1 (by rw [e1, pz_s2]; exact h.1) (fun j hj => ?_) e3 (fun c j c2 c3 => by rw [e1, pz_s1, if_neg c3]; exact h.2.2 c j c2)
    rw [e1, pz_s1, if_neg (by omega)]; exact h.2.1 j (by omega)
  | succ r ih =>
    intro i x e h
    unfold wX3_print_l2
    rw [h.1, r4, r2, r9, h.2.2 kb 10 (by omega), h10, pz_cl (by omega), h.2.2 (kb + 3) i (by omega), ht i (by omega)]
    refine ⟨ok_sb, ok_b hkb, fun z => absurd z (nI_ge (by omega) (by omega)), fun _ => ⟨ix_tx hkb (by omega), ⟨⟨by decide, by decide⟩, vp_in_nI (by show i < 700; omega) (by decide)⟩, fun x1 e1 y ey => ?_⟩⟩
    rw [ey, nI_1]
    refine ih (i + 1) x1 (by omega) (pr_push h e1 (pz_nar (hV.2 _ ?_)))
    have hi : i < tx.length := by omega
    rw [List.getD_eq_getElem?_getD, List.getElem?_eq_getElem hi]
    exact List.getElem_mem hi
theorem qX4_print_l {tx : List Int32} (r28 : m0.2 0 28 = 12) (r30 : m0.2 0 30 = 13) (h31 : m0.1 0 31 = nI tx.length) (ht : ∀ i, i < tx.length → m0.1 12 i = tx.getD i 0) (hl : tx.length ≤ 700) (hp : ∀ m' : jx_St, m'.2 = m0.2 → (∀ j, j < tx.length → m'.1 13 j = tx.getD j 0) → (∀ c j, c ≠ 13 → m'.1 c j = m0.1 c j) → post (nI tx.length) m') :
    ∀ (r i : Nat) (m : jx_St), i + r = tx.length → pr_x m0 m tx 13 i → wX4_print_l21 post (r + 1) 0 (nI i) m := by
  intro r
  induction r with
  | zero =>
    intro i x e h
    unfold wX4_print_l21
    rw [h.2.2 0 31 (by decide), h31]
    exact ⟨ok_m, fun _ => hp x h.1 (fun j hj => h.2.1 j (by omega)) h.2.2, fun z => absurd (nI_le (by omega) (by omega)) z⟩
  | succ r ih =>
    intro i x e h
    unfold wX4_print_l21
    rw [h.2.2 0 31 (by decide), h31, h.1, r28, r30, pz_cl (by omega), h.2.2 12 i (by decide), ht i (by omega)]
    refine ⟨ok_m, fun z => absurd z (nI_ge (by omega) (by omega)), fun _ => ⟨ix_m (by decide) rfl (by omega) (by decide), ix_m (by decide) rfl (by omega) (by decide), fun x1 e1 y ey => ?_⟩⟩
    rw [ey, nI_1]
    exact ih (i + 1) x1 (by omega) (pr_push h e1 rfl)
theorem rl_tx {B : pz_Bt} {c : Nat} {tx : List Int32} (hl : tx.length ≤ 700) (hk : rl_e m B c tx ∨ rl_f m B c tx) : pz_V tx := by
  rcases hk with ⟨_, _, e, _⟩ | ⟨ks, days, B0, hV, _, _, _, _, e, _, _⟩
  · rw [e]; exact ⟨by decide, fun y hy => absurd hy (by simp)⟩
  · rw [e] at hl ⊢; exact pz_V_can hV hl
theorem q_print (h : Rl x m) : wX3_print (fun r x' => wX4_print (fun r' m' => r = r' ∧ Rl x' m') 0 m) 0 x := by
  have h' := h
  obtain ⟨kb, db, B, c, tx, hr, ht, hpp, h7, h9, hc, hk⟩ := h'
  have hkb : kb = 3 ∨ kb = 34 := by rcases hr.1 with z | z <;> omega
  have hV := rl_tx hc.2.2.2 hk
  have r9 : x.2 kb 9 = kb + 3 := by
    obtain ⟨_, _, _, _, _, _, _, c3, c34, _⟩ := hr
    rcases hkb with rfl | rfl
    · exact c3.2.2.1
    · exact c34.2.2.1
  have r28 : m.2 0 28 = 12 := hr.2.2.2.2.2.2.2.2.2.2.2.2.2.2.2.2.2.2.2.2.1
  have r30 : m.2 0 30 = 13 := hr.2.2.2.2.2.2.2.2.2.2.2.2.2.2.2.2.2.2.2.2.2
  refine ⟨tx.length + 1, kX3_print_l (x0 := x) hkb hr.2.2.2.1 hr.2.2.1 r9 hc.2.1 hc.2.2.1 hV (fun x' x1 x2 x3 x4 => ?_) tx.length 0 x (by omega) ⟨rfl, fun j hj => absurd hj (by omega), fun _ _ _ => rfl⟩⟩
  have go : ∀ m1 : jx_St, m1 = jx_sI m 0 31 (nI tx.length) → (∀ i, i < tx.length → m.1 12 i = tx.getD i 0) → ∃ n_ : Nat, wX4_print_l21 (fun r' m' => nI tx.length = r' ∧ Rl x' m') n_ 0 0 m1 := fun m1 e1 ht12 => by
    have o1 : ∀ c i, ¬ (c = 0 ∧ i = 31) → m1.1 c i = m.1 c i := fun c i hc => by rw [e1, pz_s1, if_neg hc]
    refine ⟨tx.length + 1, qX4_print_l (m0 := m1) (by rw [e1, pz_s2]; exact r28) (by rw [e1, pz_s2]; exact r30) (by rw [e1, pz_s1, if_pos ⟨rfl, rfl⟩]) (fun i hi => by rw [o1 12 i (by omega)]; exact ht12 i hi) hV.1 (fun m' s2 m3 m4 => ⟨rfl, ?_⟩) tx.length 0 m1 (by omega) ⟨rfl, fun j hj => absurd hj (by omega), fun _ _ _ => rfl⟩⟩
    refine Rl_fr hr x1 (by rw [s2, e1, pz_s2]) ?_ ⟨tx.length, hV.1, x3, by rw [m4 0 31 (by decide), e1, pz_s1, if_pos ⟨rfl, rfl⟩], fun i hi => by rw [x2 i hi, m3 i hi]⟩ h7 h9 hc hk (fun c i l1 l2 => x4 c i (by omega) (by omega)) (fun c i l1 l2 => by rw [m4 c i (by omega), o1 c i (by omega)]) (fun i l1 l2 => by rw [m4 0 i (by decide), o1 0 i (by omega)])
    obtain ⟨cs, v1, v2, v3, v4⟩ := ht
    exact ⟨cs, v1, by rw [x4 0 1 (by decide) (by decide)]; exact v2, by rw [m4 0 1 (by decide), o1 0 1 (by omega)]; exact v3, fun i hi => ⟨by rw [x4 1 i (by decide) (by omega)]; exact (v4 i hi).1, by rw [m4 1 i (by decide), o1 1 i (by omega)]; exact (v4 i hi).2⟩⟩
  unfold wX4_print
  refine ⟨ok_m, fun q m1 e1 => ?_, fun q m1 e1 => ?_⟩
  · rcases hk with ⟨_, _, _, k4, _⟩ | ⟨ks, days, B0, _, _, _, _, _, _, _, kk⟩
    · exact absurd k4 q
    · rw [kk.2.2.2.2.2.2.1] at e1
      exact go m1 e1 kk.2.2.2.2.2.2.2
  · rcases hk with ⟨_, _, k3, k4, _⟩ | ⟨ks, days, B0, _, _, _, _, _, _, hw, kk⟩
    · have e0 : tx.length = 0 := by rw [k3]; rfl
      exact go m1 (by rw [e1, e0]; rfl) (fun i hi => absurd hi (by omega))
    · exfalso
      rw [kk.2.1] at q
      rcases hw.2.2.2.2.2.1 with z | z
      · rw [z] at q; exact absurd q (by decide)
      · rw [z.1] at q; exact absurd q (by decide)
end VV
