/-! ===== the reference: weatherOf, clouds, sky, parts ===== -/
section MZR
variable {m0 : jx_St} {cs : List Int32} {nt : Nat} {days : Int32} {g : Nat} {hd lt : Nat → Int32} {m : jx_St} {k : Nat} {B : pz_Bt} {post : Int32 → jx_St → Prop}
theorem pz_wno_ne {w : List Int32} (h : pz_wno w ≠ -1) : w.length ≠ 0 := by
  intro e
  have e0 : w = [] := List.eq_nil_of_length_eq_zero e
  subst e0
  exact h (by decide)
theorem pz_lay_ne {w : List Int32} (h : pz_lay w ≠ -1) : w.length ≠ 0 := by
  intro e
  have e0 : w = [] := List.eq_nil_of_length_eq_zero e
  subst e0
  exact h (by decide)
theorem sX4_weatherOf_l {N : Nat} (hg : g < 9) (hB0 : B (4 + 3 * g) 8 ≤ 0) (hp : ∀ m' : jx_St, mz_P m0 cs nt days g hd lt m' (k + N) B → (∀ j, j < N → m'.1 6 (3 * g + j) = pz_wno (pz_tok cs (k + j))) → post (nI N) m') :
    ∀ (r i : Nat) (m : jx_St), i + r = 3 → N = i + pz_wn (pz_tok cs) (k + i) r → mz_P m0 cs nt days g hd lt m (k + i) B → (∀ j, j < i → m.1 6 (3 * g + j) = pz_wno (pz_tok cs (k + j))) → wX4_weatherOf_l2 post (r + 1) 0 (nI g) (nI i) m := by
  intro r
  induction r with
  | zero =>
    intro i m hi hn h hw
    rw [wX4_weatherOf_l2]
    rw [pz_wn, Nat.add_zero] at hn
    subst hn
    exact ⟨fun _ => hp m h hw, fun z => absurd (nI_le (a := 3) (by omega) (by omega)) z⟩
  | succ r ih =>
    intro i m hi hn h hw
    rw [wX4_weatherOf_l2]
    rw [pz_wn] at hn
    refine ⟨fun z => absurd z (nI_ge (b := 3) (by omega) (by omega)), fun _ => ⟨ok_m, sX4_weatherHere h.1 ?_⟩⟩
    rw [pz_wno_neg]
    refine ⟨fun q => ?_, fun q => sX4_weatherHere h.1 ?_⟩
    · rw [if_pos q, Nat.add_zero] at hn
      subst hn
      exact hp m h hw
    · rw [if_neg q] at hn
      rw [(MP_16 h).1, show ((3 * nI g) + nI i : Int32) = nI (3 * g + i) by rw [show (3 : Int32) = nI 3 from rfl, pk_mul, nI_add], pz_cl (by omega)]
      refine ⟨ix_m (by decide) rfl (by omega) (by decide), fun s1 e1 x ex s2 e2 => ?_⟩
      have h1 := MP_arr h (c := 6) (i := 3 * g + i) (v := pz_wno (pz_tok cs (k + i))) (Or.inl ⟨rfl, by omega, by omega, hB0⟩)
      rw [← e1] at h1
      have h2 := MP_next h1 (pz_wno_ne q) (v := s1.1 0 5 + 1) rfl
      rw [← e2] at h2
      rw [ex, nI_1]
      refine ih (i + 1) s2 (by omega) (by rw [hn, Nat.add_assoc, Nat.add_assoc]) h2 (fun j hj => ?_)
      rw [e2, pz_s1, if_neg (fun z => absurd z.1 (by decide)), e1, pz_s1]
      by_cases q2 : j = i
      · subst q2; rw [if_pos ⟨rfl, rfl⟩]
      · rw [if_neg (fun z => q2 (by omega))]; exact hw j (by omega)
theorem sX4_weatherOf (h : mz_P m0 cs nt days g hd lt m k B) (hg : g < 9) (hB0 : B (4 + 3 * g) 8 ≤ 0) (hp : ∀ m' : jx_St, mz_P m0 cs nt days g hd lt m' (k + pz_wn (pz_tok cs) k 3) B → (∀ j, j < pz_wn (pz_tok cs) k 3 → m'.1 6 (3 * g + j) = pz_wno (pz_tok cs (k + j))) → post (nI (pz_wn (pz_tok cs) k 3)) m') : wX4_weatherOf post 0 (nI g) m := by
  unfold wX4_weatherOf
  exact ⟨4, sX4_weatherOf_l hg hB0 hp 3 0 m (by omega) (by rw [Nat.zero_add, Nat.add_zero]) h (fun j hj => absurd hj (by omega))⟩
theorem pz_wn_le {T : Nat → List Int32} : ∀ (r k : Nat), pz_wn T k r ≤ r := by
  intro r
  induction r with
  | zero => intro k; exact Nat.le_refl 0
  | succ r ih =>
    intro k
    rw [pz_wn]
    by_cases q : pz_wno (T k) = -1
    · rw [if_pos q]; omega
    · rw [if_neg q]; have := ih (k + 1); omega
theorem pz_cn_le {T : Nat → List Int32} : ∀ (r k : Nat) (lo : Int32), pz_cn T k lo r ≤ r := by
  intro r
  induction r with
  | zero => intro k lo; exact Nat.le_refl 0
  | succ r ih =>
    intro k lo
    rw [pz_cn]
    by_cases q : pz_lay (T k) = -1
    · rw [if_pos q]; omega
    · rw [if_neg q]
      by_cases q2 : lo ≤ pz_hgt (pz_lay (T k))
      · rw [if_pos q2]; have := ih (k + 1) (pz_hgt (pz_lay (T k))); omega
      · rw [if_neg q2]; omega
/-- the count of weathers is written behind weatherOf -/
theorem MP_wcnt {n : Nat} (h : mz_P m0 cs nt days g hd lt m k B) (hg : g < 9) (hB0 : B (4 + 3 * g) 8 ≤ 0) {k0 : Nat} (hw : ∀ j, j < n → m.1 6 (3 * g + j) = pz_wno (pz_tok cs (k0 + j))) {v : Int32} (hv : v = if n ≠ 0 then nI n else B (4 + 3 * g) 8) (hn : n ≤ 3) : mz_P m0 cs nt days g hd lt (jx_sI m 5 (10 * g + 8) v) k (pz_wB B g (pz_tok cs) k0 n) := by
  have hnp : ¬ 0 < B (4 + 3 * g) 8 := Int32.not_lt.mpr hB0
  have h1 : mz_P m0 cs nt days g hd lt m k (fun rc i => if rc = 5 + 3 * g ∧ i < n then pz_wno (pz_tok cs (k0 + i)) else B rc i) := MP_alt h (fun rc i a1 a2 => by
    rcases a1 with z | z
    · rw [if_neg (fun y => z y.1)]
    · exact absurd z hnp)
  have h2 := MP_told h1 hg (f := 8) v (by decide) (fun _ j hj hjv => by
    subst hv
    by_cases q : n ≠ 0
    · rw [if_pos q] at hjv
      have := (nI_ltI (by omega) (by omega)).mp hjv
      rw [if_pos ⟨rfl, this⟩]; exact hw j this
    · rw [if_neg q] at hjv
      exact absurd (Int32.lt_of_lt_of_le hjv hB0) (nI_pos (by omega))) (fun z => absurd z (by decide))
  have e : jx_u2 (fun rc i => if rc = 5 + 3 * g ∧ i < n then pz_wno (pz_tok cs (k0 + i)) else B rc i) (4 + 3 * g) 8 v = pz_wB B g (pz_tok cs) k0 n := by
    funext rc i
    unfold jx_u2 pz_wB
    dsimp only
    by_cases q1 : rc = 4 + 3 * g ∧ i = 8
    · have q5 : ¬ (rc = 5 + 3 * g ∧ i < n) := fun z => by omega
      rw [if_pos q1, if_neg q5]
      by_cases q : n ≠ 0
      · rw [if_pos ⟨q1.1, q1.2, q⟩, hv, if_pos q]
      · rw [if_neg (fun z => q z.2.2), hv, if_neg q, q1.1, q1.2]
    · rw [if_neg q1]
      by_cases q2 : rc = 5 + 3 * g ∧ i < n
      · rw [if_pos q2, if_pos q2]
      · rw [if_neg q2, if_neg q2, if_neg (fun z => q1 ⟨z.1, z.2.1⟩)]
  rw [← e]
  exact h2
theorem sX4_cloudHere (h : mz_S m0 cs nt days m k) (hp : post (pz_lay (pz_tok cs k)) m) : wX4_cloudHere post 0 m := by
  have hV := h.2.1
  have hlen := MS_len h k
  have hdn := pz_dig_nn hV k 3 3 (by decide)
  have k127 : ∀ kk : Int32, kk = pz_tail (pz_tok cs k) → wX4_cloudHere_b127 post (nI (pz_tok cs k).length) (pz_am (pz_tok cs k) + 1) (pz_dig (pz_tok cs k) 3 3) kk m := by
    intro kk hk
    subst hk
    unfold wX4_cloudHere_b127 wX4_cloudHere_b149
    have hp0 := hp
    unfold pz_lay at hp0
    have ham : pz_am (pz_tok cs k) + 1 ≤ 0 ↔ pz_am (pz_tok cs k) = -1 := by
      rcases pz_am_q (pz_tok cs k) with e | ⟨u, hu, e⟩
      · rw [e]; decide
      · rw [e, nI_1]; exact ⟨fun z => absurd z (nI_nle (by omega) (by omega)), fun z => absurd z (pz_nm1 (by omega))⟩
    have htl : pz_tail (pz_tok cs k) ≤ 0 ↔ pz_tail (pz_tok cs k) = 0 := by
      rcases pz_tail_q (pz_tok cs k) with e | e | e <;> rw [e] <;> decide
    by_cases a1 : pz_dig (pz_tok cs k) 3 3 = -1
    · rw [if_pos a1] at hp0
      refine ⟨fun _ => hp0, fun _ => ⟨fun _ => hp0, fun q => absurd (Int32.not_lt.mp q) (fun z => (hdn.mp z) a1)⟩⟩
    · rw [if_neg a1] at hp0
      have hnn : ¬ pz_dig (pz_tok cs k) 3 3 < 0 := Int32.not_lt.mpr (hdn.mpr a1)
      by_cases a2 : ¬ (pz_tok cs k).length = 6 ∧ pz_tail (pz_tok cs k) = 0
      · rw [if_pos a2] at hp0
        refine ⟨fun _ => hp0, fun _ => ⟨fun _ => hp0, fun _ => ⟨fun q => absurd ((nI_eq (b := 6) (by omega) (by omega)).mp q) a2.1, fun _ => ⟨fun _ => hp0, fun q => absurd (htl.mpr a2.2) q⟩⟩⟩⟩
      · rw [if_neg a2] at hp0
        by_cases a3 : pz_am (pz_tok cs k) = -1
        · rw [if_pos a3] at hp0
          exact ⟨fun _ => hp0, fun q => absurd (ham.mpr a3) q⟩
        · rw [if_neg a3] at hp0
          refine ⟨fun q => absurd (ham.mp q) a3, fun _ => ⟨fun q => absurd q hnn, fun _ => ⟨fun _ => hp0, fun q => ⟨fun q2 => absurd ⟨fun z => q (by rw [z]; rfl), htl.mp q2⟩ a2, fun _ => hp0⟩⟩⟩⟩
  have k93 : ¬ pz_stm (pz_tok cs k) → wX4_cloudHere_b93 post 0 (nI (pz_tok cs k).length) (pz_am (pz_tok cs k) + 1) (pz_dig (pz_tok cs k) 3 3) m := by
    intro hst
    unfold wX4_cloudHere_b93
    have p7 := pz_2c hV k 7 (L := 17237) (x := 67) (y := 85) rfl (by decide) (by decide)
    refine ⟨fun q => k127 0 (pz_tail_no hst (fun z => q (by rw [z.1]; rfl))).symm, fun q => ⟨ok_m, sX4_sign h 6 rfl (by omega) ⟨fun q2 => k127 0 (pz_tail_no hst (fun z => q2 (pz_hold3.mp z.2).1)).symm, fun q2 => sX4_pair h 7 rfl (by omega) ⟨fun q3 => k127 0 (pz_tail_no hst (fun z => q3 (p7.mpr (pz_hold3.mp z.2).2))).symm, fun q3 => k127 2 (pz_tail_tw hst ⟨(nI_eq (b := 9) (by omega) (by omega)).mp q, pz_hold3.mpr ⟨q2, p7.mp q3⟩⟩).symm⟩⟩⟩⟩
  have k62 : wX4_cloudHere_b62 post 0 (nI (pz_tok cs k).length) (pz_am (pz_tok cs k) + 1) m := by
    unfold wX4_cloudHere_b62
    have p6 := pz_2c hV k 6 (L := 17218) (x := 67) (y := 66) rfl (by decide) (by decide)
    refine ⟨ok_m, sX4_number h 3 3 rfl rfl (by omega) ⟨fun q => k93 (fun z => q (by rw [z.1]; rfl)), fun q => sX4_pair h 6 rfl (by omega) ⟨fun q2 => k93 (fun z => q2 (p6.mpr (pz_hold2.mp z.2))), fun q2 => k127 1 (pz_tail_st ⟨(nI_eq (b := 8) (by omega) (by omega)).mp q, pz_hold2.mpr (p6.mp q2)⟩).symm⟩⟩⟩
  unfold wX4_cloudHere
  refine ⟨ok_m, sX4_size h (sX4_pair h 0 rfl (by omega) (sX4_sign h 2 rfl (by omega) (fun x ex => ?_)))⟩
  have is3 : ∀ (L a c d : Nat), L = 65536 * a + 256 * c + d → a < 256 → c < 256 → d < 256 → (x = nI L ↔ pz_is3 (pz_tok cs k) (nI a) (nI c) (nI d)) := by
    intro L a c d hL h1 h2 h3
    obtain ⟨x0, hx0, e0⟩ := pz_ch_q hV k 0
    obtain ⟨x1, hx1, e1⟩ := pz_ch_q hV k 1
    obtain ⟨x2, hx2, e2⟩ := pz_ch_q hV k 2
    unfold pz_is3
    rw [ex, e0, show (0 : Nat) + 1 = 1 from rfl, e1, e2, show (256 : Int32) = nI 256 from rfl, pk_mul, nI_add, pk_mul, nI_add, nI_eq (by omega) (by omega), nI_eq (by omega) (by omega), nI_eq (by omega) (by omega), nI_eq (by omega) (by omega)]
    omega
  have i1 : x = 4605271 ↔ pz_is3 (pz_tok cs k) 70 69 87 := is3 4605271 70 69 87 rfl (by decide) (by decide) (by decide)
  have i2 : x = 5456724 ↔ pz_is3 (pz_tok cs k) 83 67 84 := is3 5456724 83 67 84 rfl (by decide) (by decide) (by decide)
  have i3 : x = 4344654 ↔ pz_is3 (pz_tok cs k) 66 75 78 := is3 4344654 66 75 78 rfl (by decide) (by decide) (by decide)
  have i4 : x = 5199427 ↔ pz_is3 (pz_tok cs k) 79 86 67 := is3 5199427 79 86 67 rfl (by decide) (by decide) (by decide)
  refine ⟨fun q => ⟨fun q2 => ⟨fun q3 => ⟨fun q4 => ?_, fun q4 => ?_⟩, fun q3 => ?_⟩, fun q2 => ?_⟩, fun q => ?_⟩
  · rw [pz_am0 (fun z => q (i1.mpr z)) (fun z => q2 (i2.mpr z)) (fun z => q3 (i3.mpr z)) (fun z => q4 (i4.mpr z))] at k62; exact k62
  · rw [pz_am4 (i4.mp q4)] at k62; exact k62
  · rw [pz_am3 (i3.mp q3)] at k62; exact k62
  · rw [pz_am2 (i2.mp q2)] at k62; exact k62
  · rw [pz_am1 (i1.mp q)] at k62; exact k62
theorem jx_u2_id {B : pz_Bt} {rc i : Nat} {v : Int32} (h : B rc i = v) : jx_u2 B rc i v = B := by
  funext rc' i'
  unfold jx_u2
  by_cases q : rc' = rc ∧ i' = i
  · rw [if_pos q, q.1, q.2, h]
  · rw [if_neg q]
theorem MP_ccnt {n : Nat} (h : mz_P m0 cs nt days g hd lt m k B) (hg : g < 9) (hB0 : B (4 + 3 * g) 9 = -1) {k0 : Nat} (hw : ∀ j, j < n → m.1 7 (4 * g + j) = pz_lay (pz_tok cs (k0 + j))) (hn0 : n ≠ 0) (hn : n ≤ 4) : mz_P m0 cs nt days g hd lt (jx_sI m 5 (10 * g + 9) (nI n)) k (pz_cB B g (pz_tok cs) k0 n) := by
  have hnp : ¬ 0 < B (4 + 3 * g) 9 := by rw [hB0]; decide
  have h1 : mz_P m0 cs nt days g hd lt m k (fun rc i => if rc = 6 + 3 * g ∧ i < n then pz_lay (pz_tok cs (k0 + i)) else B rc i) := MP_alt h (fun rc i a1 a2 => by
    rcases a2 with z | z
    · rw [if_neg (fun y => z y.1)]
    · exact absurd z hnp)
  have h2 := MP_told h1 hg (f := 9) (nI n) (by decide) (fun z => absurd z (by decide)) (fun _ j hj hjv => by
    have := (nI_ltI (by omega) (by omega)).mp hjv
    rw [if_pos ⟨rfl, this⟩]; exact hw j this)
  have e : jx_u2 (fun rc i => if rc = 6 + 3 * g ∧ i < n then pz_lay (pz_tok cs (k0 + i)) else B rc i) (4 + 3 * g) 9 (nI n) = pz_cB B g (pz_tok cs) k0 n := by
    funext rc i
    unfold jx_u2 pz_cB
    dsimp only
    by_cases q1 : rc = 4 + 3 * g ∧ i = 9
    · have q5 : ¬ (rc = 6 + 3 * g ∧ i < n) := fun z => by omega
      rw [if_pos q1, if_neg q5, if_pos ⟨q1.1, q1.2, hn0⟩]
    · rw [if_neg q1]
      by_cases q2 : rc = 6 + 3 * g ∧ i < n
      · rw [if_pos q2, if_pos q2]
      · rw [if_neg q2, if_neg q2, if_neg (fun z => q1 ⟨z.1, z.2.1⟩)]
  rw [← e]
  exact h2
theorem sX4_cloudsOf_l {N : Nat} (hg : g < 9) (hB0 : B (4 + 3 * g) 9 = -1) (hp : N ≠ 0 → ∀ m' : jx_St, mz_P m0 cs nt days g hd lt m' (k + N) (pz_cB B g (pz_tok cs) k N) → post 1 m') (hn0 : N = 0 → ∀ m' : jx_St, mz_P m0 cs nt days g hd lt m' k B → post 0 m') (hN : N ≤ 4) :
    ∀ (r i : Nat) (lo : Int32) (m : jx_St), i + r = 4 → N = i + pz_cn (pz_tok cs) (k + i) lo r → mz_P m0 cs nt days g hd lt m (k + i) B → (∀ j, j < i → m.1 7 (4 * g + j) = pz_lay (pz_tok cs (k + j))) → wX4_cloudsOf_l112 post (r + 1) 0 (nI g) (nI i) lo m := by
  have stop : ∀ (i : Nat) (m : jx_St), N = i → mz_P m0 cs nt days g hd lt m (k + i) B → (∀ j, j < i → m.1 7 (4 * g + j) = pz_lay (pz_tok cs (k + j))) → wX4_cloudsOf_b181 post 0 (nI g) (nI i) m := by
    intro i m e h hw
    subst e
    unfold wX4_cloudsOf_b181
    rw [MP_15 h, show ((10 * nI g) + 9 : Int32) = nI (10 * g + 9) from pz_10g g 9, pz_cl (by omega)]
    refine ⟨ok_m, fun q => ⟨ix_told hg (by decide), fun s1 e1 => ⟨fun _ => ?_, fun z => absurd q z⟩⟩, fun q => ⟨ix_told hg (by decide), fun s1 e1 => ⟨fun z => absurd z q, fun _ => ?_⟩⟩⟩
    · have hz := pz_lew (b := 0) (by omega) q
      have h1 := MP_told h hg (f := 9) (-1) (by decide) (fun z => absurd z (by decide)) (fun _ j _ hjv => absurd (Int32.lt_of_lt_of_le hjv (by decide)) (nI_pos (by omega)))
      rw [← e1, jx_u2_id hB0] at h1
      have hz0 : N = 0 := by omega
      rw [hz0, Nat.add_zero] at h1
      exact hn0 hz0 s1 h1
    · have hz : N ≠ 0 := fun z => q (by rw [z]; decide)
      have h1 := MP_ccnt h hg hB0 hw hz hN
      rw [← e1] at h1
      exact hp hz s1 h1
  intro r
  induction r with
  | zero =>
    intro i lo m hi hn h hw
    rw [wX4_cloudsOf_l112]
    rw [pz_cn, Nat.add_zero] at hn
    exact ⟨fun _ => stop i m hn h hw, fun z => absurd (nI_le (a := 4) (by omega) (by omega)) z⟩
  | succ r ih =>
    intro i lo m hi hn h hw
    have hV := h.1.2.1
    rw [wX4_cloudsOf_l112]
    rw [pz_cn] at hn
    refine ⟨fun z => absurd z (nI_ge (b := 4) (by omega) (by omega)), fun _ => ⟨ok_m, sX4_cloudHere h.1 ?_⟩⟩
    rw [pz_lay_neg hV]
    refine ⟨fun q => ?_, fun q => sX4_cloudHere h.1 ?_⟩
    · rw [if_pos q, Nat.add_zero] at hn
      exact stop i m hn h hw
    · rw [if_neg q] at hn
      rw [pz_lay_hgt hV _ q]
      refine ⟨fun q2 => ?_, fun q2 => sX4_cloudHere h.1 (fun x ex => sX4_cloudHere h.1 ?_)⟩
      · rw [if_neg (Int32.not_le.mpr q2), Nat.add_zero] at hn
        exact stop i m hn h hw
      · rw [if_pos (Int32.not_lt.mp q2)] at hn
        rw [pz_lay_hgt hV _ q] at ex
        rw [(MP_16 h).2, show ((4 * nI g) + nI i : Int32) = nI (4 * g + i) by rw [show (4 : Int32) = nI 4 from rfl, pk_mul, nI_add], pz_cl (by omega)]
        refine ⟨ix_m (by decide) rfl (by omega) (by decide), fun s1 e1 y ey s2 e2 => ?_⟩
        have h1 := MP_arr h (c := 7) (i := 4 * g + i) (v := pz_lay (pz_tok cs (k + i))) (Or.inr ⟨rfl, by omega, by omega, by rw [hB0]; decide⟩)
        rw [← e1] at h1
        have h2 := MP_next h1 (pz_lay_ne q) (v := s1.1 0 5 + 1) rfl
        rw [← e2] at h2
        rw [ey, nI_1, ex]
        refine ih (i + 1) _ s2 (by omega) (by rw [hn, Nat.add_assoc, Nat.add_assoc]) h2 (fun j hj => ?_)
        rw [e2, pz_s1, if_neg (fun z => absurd z.1 (by decide)), e1, pz_s1]
        by_cases q3 : j = i
        · subst q3; rw [if_pos ⟨rfl, rfl⟩]
        · rw [if_neg (fun z => q3 (by omega))]; exact hw j (by omega)
theorem wc_NSC {cs : List Int32} (hV : pz_V cs) (k : Nat) : lg_cmp (pz_wd (pz_tok cs k)) (5133123 : Int64) = 0 ↔ pz_tok cs k = W_NSC := pz_wc hV k [78, 83, 67] (by decide) (by decide) (by decide) (by decide) (by decide)
theorem wc_NSW {cs : List Int32} (hV : pz_V cs) (k : Nat) : lg_cmp (pz_wd (pz_tok cs k)) (5133143 : Int64) = 0 ↔ pz_tok cs k = W_NSW := pz_wc hV k [78, 83, 87] (by decide) (by decide) (by decide) (by decide) (by decide)
theorem sX4_cloudsOf (h : mz_P m0 cs nt days g hd lt m k B) (hg : g < 9) (hB0 : B (4 + 3 * g) 9 = -1) (hs : (sp_clouds (pz_tok cs) k B g).1 = true → ∀ m' : jx_St, mz_P m0 cs nt days g hd lt m' (sp_clouds (pz_tok cs) k B g).2.1 (sp_clouds (pz_tok cs) k B g).2.2 → post 1 m') (hn : (sp_clouds (pz_tok cs) k B g).1 = false → (sp_clouds (pz_tok cs) k B g).2 = (k, B) → ∀ m' : jx_St, mz_P m0 cs nt days g hd lt m' k B → post 0 m') : wX4_cloudsOf post 0 (nI g) m := by
  have hS := h.1
  have hV := hS.2.1
  have hlen := MS_len hS k
  unfold sp_clouds at hs hn
  unfold wX4_cloudsOf
  refine ⟨ok_m, sX4_word hS ?_⟩
  rw [wc_NSC hV]
  refine ⟨fun q => ?_, fun q => ?_⟩
  · rw [pz_ifn q] at hs hn
    have p0 := pz_2c hV k 0 (L := 22102) (x := 86) (y := 86) rfl (by decide) (by decide)
    have hdn := pz_dig_nn hV k 2 3 (by decide)
    have loop : ¬ pz_vv (pz_tok cs k) → ∃ n_ : Nat, wX4_cloudsOf_l112 post n_ 0 (nI g) 0 0 m := by
      intro hv
      rw [pz_ifn hv] at hs hn
      refine ⟨5, sX4_cloudsOf_l (N := pz_cn (pz_tok cs) k 0 4) hg hB0 (fun z => ?_) (fun z => ?_) (pz_cn_le 4 k 0) 4 0 0 m (by omega) (by rw [Nat.zero_add, Nat.add_zero]) h (fun j hj => absurd hj (by omega))⟩
      · rw [pz_ifn z] at hs; exact hs rfl
      · rw [pz_ifp z] at hn; exact hn rfl rfl
    refine sX4_size hS ⟨fun q2 => loop (fun z => q2 (by rw [z.2.1]; rfl)), fun q2 => sX4_pair hS 0 rfl (by omega) ⟨fun q3 => loop (fun z => q3 (p0.mpr (pz_hold2.mp z.1))), fun q3 => sX4_number hS 2 3 rfl rfl (by omega) ⟨fun q4 => loop (fun z => absurd (hdn.mpr z.2.2) (fun y => absurd q4 (Int32.not_lt.mpr y))), fun q4 => sX4_number hS 2 3 rfl rfl (by omega) ?_⟩⟩⟩
    have hv : pz_vv (pz_tok cs k) := ⟨pz_hold2.mpr (p0.mp q3), (nI_eq (b := 5) (by omega) (by omega)).mp q2, hdn.mp (Int32.not_lt.mp q4)⟩
    rw [pz_ifp hv] at hs
    rw [(MP_16 h).2, show (4 * nI g : Int32) = nI (4 * g) from pk_mul 4 g, pz_cl (by omega)]
    refine ⟨ix_m (by decide) rfl (by omega) (by decide), fun s1 e1 => ?_⟩
    have h1 := MP_arr h (c := 7) (i := 4 * g) (v := 5 + (8 * pz_dig (pz_tok cs k) 2 3)) (Or.inr ⟨rfl, by omega, by omega, by rw [hB0]; decide⟩)
    rw [← e1] at h1
    rw [MP_15 h1, show ((10 * nI g) + 9 : Int32) = nI (10 * g + 9) from pz_10g g 9, pz_cl (by omega)]
    refine ⟨ix_told hg (by decide), fun s2 e2 s3 e3 => ?_⟩
    have h1a : mz_P m0 cs nt days g hd lt s1 k (jx_u2 B (6 + 3 * g) 0 (5 + (8 * pz_dig (pz_tok cs k) 2 3))) := MP_alt h1 (fun rc i a1 a2 => by
      rcases a2 with z | z
      · unfold jx_u2; rw [if_neg (fun y => z y.1)]
      · rw [hB0] at z; exact absurd z (by decide))
    have h2 := MP_told h1a hg (f := 9) 1 (by decide) (fun z => absurd z (by decide)) (fun _ j hj hjv => by
      have : j = 0 := by have := (nI_ltI (b := 1) (by omega) (by omega)).mp hjv; omega
      subst this
      rw [e1, pz_s1, Nat.add_zero, if_pos ⟨rfl, rfl⟩]
      simp [jx_u2])
    rw [← e2] at h2
    have h3 := MP_next h2 (by have := hv.2.1; omega) (v := s2.1 0 5 + 1) rfl
    rw [← e3] at h3
    exact hs rfl s3 h3
  · rw [pz_ifp q] at hs
    rw [MP_15 h, show ((10 * nI g) + 9 : Int32) = nI (10 * g + 9) from pz_10g g 9, pz_cl (by omega)]
    refine ⟨ix_told hg (by decide), fun s1 e1 s2 e2 => ?_⟩
    have h1 := MP_told h hg (f := 9) 0 (by decide) (fun z => absurd z (by decide)) (fun _ j _ hj => absurd hj (nI_pos (by omega)))
    rw [← e1] at h1
    have h2 := MP_next h1 (by rw [q]; decide) (v := s1.1 0 5 + 1) rfl
    rw [← e2] at h2
    exact hs rfl s2 h2
end MZR
