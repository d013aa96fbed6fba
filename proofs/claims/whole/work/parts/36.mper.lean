/-! ===== the reference: days and hours, periods, FM ===== -/
/-- day and hour at place f are such -/
def pz_dh (days : Int32) (w : List Int32) (f : Nat) (lat : Int32) : Prop := (¬ pz_dig w f 2 < 1 ∧ ¬ days < pz_dig w f 2) ∧ (¬ pz_dig w (f + 2) 2 < 0 ∧ ¬ lat < pz_dig w (f + 2) 2)
theorem pz_dig2 {cs : List Int32} (hV : pz_V cs) (k f : Nat) : pz_dig (pz_tok cs k) f 2 = -1 ∨ ∃ u : Nat, u < 100 ∧ pz_dig (pz_tok cs k) f 2 = nI u := pz_dig_q hV k f 2
theorem pz_hour_v {cs : List Int32} (hV : pz_V cs) (k f : Nat) (days lat : Int32) (h : pz_dh days (pz_tok cs k) f lat) : ∃ D H : Nat, 1 ≤ D ∧ D < 100 ∧ H < 100 ∧ pz_dig (pz_tok cs k) f 2 = nI D ∧ pz_dig (pz_tok cs k) (f + 2) 2 = nI H ∧ pz_hour days (pz_tok cs k) f lat = nI (1440 * (D - 1) + 60 * H) := by
  obtain ⟨⟨h1, h2⟩, h3, h4⟩ := h
  rcases pz_dig2 hV k f with e | ⟨D, hD, eD⟩
  · rw [e] at h1; exact absurd (by decide) h1
  · rcases pz_dig2 hV k (f + 2) with e | ⟨H, hH, eH⟩
    · rw [e] at h3; exact absurd (by decide) h3
    · have hD1 : 1 ≤ D := by
        rcases Nat.lt_or_ge D 1 with z | z
        · rw [eD] at h1; exact absurd (nI_lt (b := 1) z (by decide)) h1
        · exact z
      refine ⟨D, H, hD1, hD, hH, eD, eH, ?_⟩
      unfold pz_hour
      rw [if_neg h1, if_neg h2, if_neg (by rw [eH]; exact pz_nm1 (by omega)), if_pos (Int32.not_lt.mp h4), eD, eH, show (1 : Int32) = nI 1 from rfl, pk_sub hD1, show (1440 : Int32) = nI 1440 from rfl, show (60 : Int32) = nI 60 from rfl, pk_mul, pk_mul, nI_add, Nat.mul_comm, Nat.mul_comm H 60]
theorem pz_hour_n {cs : List Int32} (hV : pz_V cs) (k f : Nat) (days lat : Int32) (h : ¬ pz_dh days (pz_tok cs k) f lat) : pz_hour days (pz_tok cs k) f lat = -1 := by
  unfold pz_hour
  by_cases q1 : pz_dig (pz_tok cs k) f 2 < 1
  · rw [if_pos q1]
  · rw [if_neg q1]
    by_cases q2 : days < pz_dig (pz_tok cs k) f 2
    · rw [if_pos q2]
    · rw [if_neg q2]
      by_cases q3 : pz_dig (pz_tok cs k) (f + 2) 2 = -1
      · rw [if_pos q3]
      · rw [if_neg q3]
        by_cases q4 : pz_dig (pz_tok cs k) (f + 2) 2 ≤ lat
        · have hn := (pz_dig_nn hV k (f + 2) 2 (by decide)).mpr q3
          exact absurd ⟨⟨q1, q2⟩, Int32.not_lt.mpr hn, Int32.not_lt.mpr q4⟩ h
        · rw [if_neg q4]
theorem pz_hour_iff {cs : List Int32} (hV : pz_V cs) (k f : Nat) (days lat : Int32) : pz_hour days (pz_tok cs k) f lat ≠ -1 ↔ pz_dh days (pz_tok cs k) f lat := by
  refine ⟨fun h => ?_, fun h => ?_⟩
  · by_cases q : pz_dh days (pz_tok cs k) f lat
    · exact q
    · exact absurd (pz_hour_n hV k f days lat q) h
  · obtain ⟨D, H, _, _, _, _, _, e⟩ := pz_hour_v hV k f days lat h
    rw [e]; exact pz_nm1 (by omega)
/-- the reference's own way to the minute -/
theorem pz_hour_m {cs : List Int32} (hV : pz_V cs) (k f : Nat) (days lat : Int32) (h : pz_dh days (pz_tok cs k) f lat) : ((1440 * (pz_dig (pz_tok cs k) f 2 - 1)) + (60 * pz_dig (pz_tok cs k) (f + 2) 2)) = pz_hour days (pz_tok cs k) f lat := by
  obtain ⟨D, H, h1, h2, h3, e1, e2, e3⟩ := pz_hour_v hV k f days lat h
  rw [e3, e1, e2, show (1 : Int32) = nI 1 from rfl, pk_sub h1, show (1440 : Int32) = nI 1440 from rfl, show (60 : Int32) = nI 60 from rfl, pk_mul, pk_mul, nI_add]
def pz_mi (w : List Int32) (f : Nat) : Prop := ¬ pz_dig w f 2 < 0 ∧ ¬ 59 < pz_dig w f 2
theorem pz_time_iff {cs : List Int32} (hV : pz_V cs) (k f : Nat) (days : Int32) : pz_time days (pz_tok cs k) f ≠ -1 ↔ (pz_dh days (pz_tok cs k) f 23 ∧ pz_mi (pz_tok cs k) (f + 4)) := by
  unfold pz_time pz_mi
  have hn := pz_dig_nn hV k (f + 4) 2 (by decide)
  have hi := pz_hour_iff hV k f days 23
  by_cases q1 : pz_hour days (pz_tok cs k) f 23 = -1
  · rw [if_pos q1]; exact ⟨fun z => absurd rfl z, fun z => absurd q1 (hi.mpr z.1)⟩
  · rw [if_neg q1]
    by_cases q2 : pz_dig (pz_tok cs k) (f + 4) 2 = -1
    · rw [if_pos q2]; exact ⟨fun z => absurd rfl z, fun z => absurd (Int32.not_lt.mp z.2.1) (fun y => (hn.mp y) q2)⟩
    · rw [if_neg q2]
      by_cases q3 : pz_dig (pz_tok cs k) (f + 4) 2 ≤ 59
      · rw [if_pos q3]
        refine ⟨fun _ => ⟨hi.mp q1, Int32.not_lt.mpr (hn.mpr q2), Int32.not_lt.mpr q3⟩, fun _ => ?_⟩
        obtain ⟨D, H, _, _, _, _, _, e⟩ := pz_hour_v hV k f days 23 (hi.mp q1)
        rcases pz_dig2 hV k (f + 4) with e2 | ⟨u, hu, eu⟩
        · exact absurd e2 q2
        · rw [e, eu, nI_add]; exact pz_nm1 (by omega)
      · rw [if_neg q3]; exact ⟨fun z => absurd rfl z, fun z => absurd (Int32.not_lt.mp z.2.2) q3⟩
theorem pz_time_m {cs : List Int32} (hV : pz_V cs) (k f : Nat) (days : Int32) (h : pz_dh days (pz_tok cs k) f 23 ∧ pz_mi (pz_tok cs k) (f + 4)) : (((1440 * (pz_dig (pz_tok cs k) f 2 - 1)) + (60 * pz_dig (pz_tok cs k) (f + 2) 2)) + pz_dig (pz_tok cs k) (f + 4) 2) = pz_time days (pz_tok cs k) f := by
  rw [pz_hour_m hV k f days 23 h.1]
  have hn := pz_dig_nn hV k (f + 4) 2 (by decide)
  unfold pz_time
  rw [if_neg ((pz_hour_iff hV k f days 23).mpr h.1), if_neg (hn.mp (Int32.not_lt.mp h.2.1)), if_pos (Int32.not_lt.mp h.2.2)]
section MZT
variable {m0 : jx_St} {cs : List Int32} {nt : Nat} {days : Int32} {g : Nat} {hd lt : Nat → Int32} {m : jx_St} {k : Nat} {B : pz_Bt} {post : Int32 → jx_St → Prop}
theorem MS_same (h : mz_S m0 cs nt days m k) : jx_sI m 0 5 (m.1 0 5) = m := by
  have : (jx_sI m 0 5 (m.1 0 5)).1 = m.1 := by
    funext c i
    rw [pz_s1]
    by_cases q : c = 0 ∧ i = 5
    · rw [if_pos q, q.1, q.2]
    · rw [if_neg q]
  exact Prod.ext this rfl
theorem MP_hd (h : mz_P m0 cs nt days g hd lt m k B) {i : Nat} (v : Int32) (hi : i = 6 ∨ i = 7 ∨ (8 < i ∧ i < 18)) : mz_P m0 cs nt days g (fun j => if j = i then v else hd j) lt (jx_sI m 0 i v) k B := by
  obtain ⟨hS, ⟨d1, d2, d3, d4⟩, hh, hl⟩ := h
  have f : ∀ c j, c ≠ 0 → (jx_sI m 0 i v).1 c j = m.1 c j := fun c j hc => by rw [pz_s1, if_neg (fun z => hc z.1)]
  refine ⟨MS_set hS v (Or.inl ⟨rfl, hi⟩), ⟨fun g' f' a1 a2 a3 => by rw [f 5 _ (by decide)]; exact d1 g' f' a1 a2 a3, fun g' f' a1 a2 a3 => by rw [f 5 _ (by decide)]; exact d2 g' f' a1 a2 a3, fun g' j a1 a2 a3 a4 => by rw [f 6 _ (by decide)]; exact d3 g' j a1 a2 a3 a4, fun g' j a1 a2 a3 a4 => by rw [f 7 _ (by decide)]; exact d4 g' j a1 a2 a3 a4⟩, fun j hj => ?_, fun j => by rw [f 4 j (by decide)]; exact hl j⟩
  rw [pz_s1]
  show _ = if j = i then v else _
  by_cases q : j = i
  · rw [if_pos ⟨rfl, q⟩, if_pos q]
  · rw [if_neg (fun z => q z.2), if_neg q]; exact hh j hj
theorem MP_lt (h : mz_P m0 cs nt days g hd lt m k B) (i : Nat) (v : Int32) : mz_P m0 cs nt days g hd (fun j => if j = i then v else lt j) (jx_sI m 4 i v) k B := by
  obtain ⟨hS, ⟨d1, d2, d3, d4⟩, hh, hl⟩ := h
  have f : ∀ c j, c ≠ 4 → (jx_sI m 4 i v).1 c j = m.1 c j := fun c j hc => by rw [pz_s1, if_neg (fun z => hc z.1)]
  refine ⟨MS_set hS v (Or.inr ⟨by decide, by decide⟩), ⟨fun g' f' a1 a2 a3 => by rw [f 5 _ (by decide)]; exact d1 g' f' a1 a2 a3, fun g' f' a1 a2 a3 => by rw [f 5 _ (by decide)]; exact d2 g' f' a1 a2 a3, fun g' j a1 a2 a3 a4 => by rw [f 6 _ (by decide)]; exact d3 g' j a1 a2 a3 a4, fun g' j a1 a2 a3 a4 => by rw [f 7 _ (by decide)]; exact d4 g' j a1 a2 a3 a4⟩, fun j hj => by rw [f 0 j (by decide)]; exact hh j hj, fun j => ?_⟩
  rw [pz_s1]
  show _ = if j = i then v else _
  by_cases q : j = i
  · rw [if_pos ⟨rfl, q⟩, if_pos q]
  · rw [if_neg (fun z => q z.2), if_neg q]; exact hl j
theorem MP_c0 (h : mz_P m0 cs nt days g hd lt m k B) {B1 : pz_Bt} (hB : ∀ rc i, 4 ≤ rc → B1 rc i = B rc i) : mz_P m0 cs nt days g hd lt m k B1 := by
  obtain ⟨hS, ⟨d1, d2, d3, d4⟩, hh, hl⟩ := h
  exact ⟨hS, ⟨fun g' f' a1 a2 a3 => by rw [hB _ _ (by omega)]; exact d1 g' f' a1 a2 a3, d2, fun g' j a1 a2 a3 a4 => by rw [hB _ _ (by omega)]; rw [hB _ _ (by omega)] at a4; exact d3 g' j a1 a2 a3 a4, fun g' j a1 a2 a3 a4 => by rw [hB _ _ (by omega)]; rw [hB _ _ (by omega)] at a4; exact d4 g' j a1 a2 a3 a4⟩, hh, hl⟩
theorem sX4_isPeriod (h : mz_S m0 cs nt days m k) (h1 : pz_per days (pz_tok cs k) → post 1 m) (h0 : ¬ pz_per days (pz_tok cs k) → post 0 m) : wX4_isPeriod post 0 m := by
  have hV := h.2.1
  have hlen := MS_len h k
  have i0 := pz_hour_iff hV k 0 days 23
  have i5 := pz_hour_iff hV k 5 days 24
  unfold wX4_isPeriod
  refine ⟨ok_m, sX4_size h ⟨fun q => h0 (fun z => q (by rw [z.1]; rfl)), fun q => sX4_sign h 4 rfl (by omega) ⟨fun q2 => h0 (fun z => q2 z.2.1), fun q2 => sX4_number h 0 2 rfl rfl (by omega) (sX4_isDay h (fun a1 _ => ⟨fun z => absurd z (by decide), fun _ => ?_⟩) (fun a1 _ => ⟨fun _ => h0 (fun z => a1 (i0.mp z.2.2.1).1), fun z => absurd rfl z⟩))⟩⟩⟩
  refine sX4_number h 2 2 rfl rfl (by omega) (sX4_isIn (fun a2 _ => ⟨fun z => absurd z (by decide), fun _ => ?_⟩) (fun a2 _ => ⟨fun _ => h0 (fun z => a2 (i0.mp z.2.2.1).2), fun z => absurd rfl z⟩))
  refine sX4_number h 5 2 rfl rfl (by omega) (sX4_isDay h (fun a3 _ => ⟨fun z => absurd z (by decide), fun _ => ?_⟩) (fun a3 _ => ⟨fun _ => h0 (fun z => a3 (i5.mp z.2.2.2).1), fun z => absurd rfl z⟩))
  refine sX4_number h 7 2 rfl rfl (by omega) (sX4_isIn (fun a4 _ => ⟨fun z => absurd z (by decide), fun _ => ?_⟩) (fun a4 _ => ⟨fun _ => h0 (fun z => a4 (i5.mp z.2.2.2).2), fun z => absurd rfl z⟩))
  exact h1 ⟨(nI_eq (b := 9) (by omega) (by omega)).mp q, q2, i0.mpr ⟨a1, a2⟩, i5.mpr ⟨a3, a4⟩⟩
theorem sX4_period_ab (h : mz_P m0 cs nt days g hd lt m k B) (hg : g < 9) {ea : Int32} (hw : pz_per days (pz_tok cs k)) {later : Int32} (hl : later = 0 ↔ ea ≤ pz_hour days (pz_tok cs k) 0 23) (hp : wX4_period_b142 post 0 (nI g) (pz_pb days (pz_tok cs k) ea) (pz_pe days (pz_tok cs k) ea) m) : wX4_period_b96 post 0 (nI g) (pz_hour days (pz_tok cs k) 0 23) (pz_hour days (pz_tok cs k) 5 24) later m := by
  have h8 : m.1 0 8 = days := h.1.2.2.2.2.2.2.2.2.2.2.1
  have k117 : ∀ v : Int32, v = pz_pb days (pz_tok cs k) ea → wX4_period_b117 post 0 (nI g) (pz_hour days (pz_tok cs k) 5 24) later v m := by
    intro v hv
    subst hv
    unfold wX4_period_b117
    rw [h8, Int32.mul_comm 1440 days]
    have epb : later = 0 → pz_pb days (pz_tok cs k) ea = pz_hour days (pz_tok cs k) 0 23 := fun q => by unfold pz_pb; rw [if_pos (hl.mp q)]
    refine ⟨fun q => ⟨ok_m, ?_⟩, fun q => ⟨fun q2 => ?_, fun q2 => ⟨ok_m, ?_⟩⟩⟩
    · have e : pz_pe days (pz_tok cs k) ea = pz_hour days (pz_tok cs k) 5 24 + days * 1440 := by unfold pz_pe; rw [if_neg (fun z => q (hl.mpr z.1))]
      rw [e] at hp; exact hp
    · rw [epb q] at q2
      have e : pz_pe days (pz_tok cs k) ea = pz_hour days (pz_tok cs k) 5 24 := by unfold pz_pe; rw [if_pos ⟨hl.mp q, q2⟩]
      rw [e] at hp; exact hp
    · rw [epb q] at q2
      have e : pz_pe days (pz_tok cs k) ea = pz_hour days (pz_tok cs k) 5 24 + days * 1440 := by unfold pz_pe; rw [if_neg (fun z => q2 z.2)]
      rw [e] at hp; exact hp
  unfold wX4_period_b96
  rw [h8, Int32.mul_comm 1440 days]
  refine ⟨fun q => k117 _ ?_, fun q => ⟨ok_m, k117 _ ?_⟩⟩
  · unfold pz_pb; rw [if_pos (hl.mp q)]
  · unfold pz_pb; rw [if_neg (fun z => q (hl.mpr z))]
theorem sX4_b213 (h : mz_P m0 cs nt days g hd lt m k B) (hw : (pz_tok cs k).length ≠ 0) {kk : Int32} (hs : kk = 1 → ∀ m' : jx_St, mz_P m0 cs nt days g hd lt m' (k + 1) B → post 1 m') (hf : kk = 0 → post 0 m) (hk : kk = 0 ∨ kk = 1) : wX4_period_b213 post 0 kk m := by
  unfold wX4_period_b213
  rcases hk with rfl | rfl
  · exact ⟨fun _ => ⟨ok_m, fun m1 e1 => ⟨Or.inl rfl, by rw [e1, MS_same h.1]; exact hf rfl⟩⟩, fun z => absurd rfl z⟩
  · refine ⟨fun z => absurd z (by decide), fun _ => ⟨ok_m, fun m1 e1 => ⟨Or.inr rfl, ?_⟩⟩⟩
    have h1 := MP_next h hw (v := m.1 0 5 + 1) rfl
    rw [← e1] at h1
    exact hs rfl m1 h1
/-- the two writes of a period -/
theorem sX4_b142 (h : mz_P m0 cs nt days g hd lt m k B) (hg : g < 9) {b0 e0 : Int32} (hw : (pz_tok cs k).length ≠ 0) (hs : ¬ e0 ≤ b0 → (g = 0 → ¬ 1800 < e0 - b0) → (g ≠ 0 → ¬ b0 < B 4 2 ∧ ¬ B 4 3 < e0) → ∀ m' : jx_St, mz_P m0 cs nt days g hd lt m' (k + 1) (jx_u2 (jx_u2 B (4 + 3 * g) 2 b0) (4 + 3 * g) 3 e0) → post 1 m') (hf : ¬ (¬ e0 ≤ b0 ∧ (g = 0 → ¬ 1800 < e0 - b0) ∧ (g ≠ 0 → ¬ b0 < B 4 2 ∧ ¬ B 4 3 < e0)) → ∀ m' : jx_St, mz_S m0 cs nt days m' k → post 0 m') : wX4_period_b142 post 0 (nI g) b0 e0 m := by
  unfold wX4_period_b142
  rw [MP_15 h, show ((10 * nI g) + 2 : Int32) = nI (10 * g + 2) from pz_10g g 2, show ((10 * nI g) + 3 : Int32) = nI (10 * g + 3) from pz_10g g 3, pz_cl (by omega), pz_cl (by omega)]
  refine ⟨ok_m, ix_told hg (by decide), fun m1 e1 => ?_⟩
  have h1 := MP_told h hg (f := 2) b0 (by decide) (fun z => absurd z (by decide)) (fun z => absurd z (by decide))
  rw [← e1] at h1
  rw [MP_15 h1]
  refine ⟨ix_told hg (by decide), fun m2 e2 => ?_⟩
  have h2 := MP_told h1 hg (f := 3) e0 (by decide) (fun z => absurd z (by decide)) (fun z => absurd z (by decide))
  rw [← e2] at h2
  have bad : ¬ (¬ e0 ≤ b0 ∧ (g = 0 → ¬ 1800 < e0 - b0) ∧ (g ≠ 0 → ¬ b0 < B 4 2 ∧ ¬ B 4 3 < e0)) → wX4_period_b213 post 0 0 m2 := fun z => sX4_b213 h2 hw (fun y => absurd y (by decide)) (fun _ => hf z m2 h2.1) (Or.inl rfl)
  have good : ¬ e0 ≤ b0 → (g = 0 → ¬ 1800 < e0 - b0) → (g ≠ 0 → ¬ b0 < B 4 2 ∧ ¬ B 4 3 < e0) → wX4_period_b213 post 0 1 m2 := fun z1 z2 z3 => sX4_b213 h2 hw (fun _ m' h' => hs z1 z2 z3 m' h') (fun y => absurd y (by decide)) (Or.inr rfl)
  refine ⟨fun q => bad (fun z => z.1 q), fun q => ⟨fun q2 => ?_, fun q2 => ?_⟩⟩
  · have hg0 : g ≠ 0 := fun z => q2 (by rw [z]; rfl)
    rw [MP_15 h2]
    have t2 : m2.1 5 ((2 : Int32).toNatClampNeg) = B 4 2 := by
      have := h2.2.1.1 0 2 (by omega) (by decide) (by decide)
      rw [show ((2 : Int32).toNatClampNeg) = 10 * 0 + 2 from rfl, this]
      have n1 : ¬ (4 + 3 * 0 = 4 + 3 * g ∧ 2 = 3) := fun z => by omega
      have n2 : ¬ (4 + 3 * 0 = 4 + 3 * g ∧ 2 = 2) := fun z => by omega
      unfold jx_u2
      rw [if_neg n1, if_neg n2]
    have t3 : m2.1 5 ((3 : Int32).toNatClampNeg) = B 4 3 := by
      have := h2.2.1.1 0 3 (by omega) (by decide) (by decide)
      rw [show ((3 : Int32).toNatClampNeg) = 10 * 0 + 3 from rfl, this]
      have n1 : ¬ (4 + 3 * 0 = 4 + 3 * g ∧ 3 = 3) := fun z => by omega
      have n2 : ¬ (4 + 3 * 0 = 4 + 3 * g ∧ 3 = 2) := fun z => by omega
      unfold jx_u2
      rw [if_neg n1, if_neg n2]
    rw [t2, t3]
    refine ⟨ix_told (g := 0) (f := 2) (by decide) (by decide), fun q3 => bad (fun z => (z.2.2 hg0).1 q3), fun q3 => ⟨ix_told (g := 0) (f := 3) (by decide) (by decide), fun q4 => bad (fun z => (z.2.2 hg0).2 q4), fun q4 => good q (fun z => absurd z hg0) (fun _ => ⟨q3, q4⟩)⟩⟩
  · have hg0 : g = 0 := (nI_eq (b := 0) (by omega) (by omega)).mp q2
    refine ⟨fun q3 => bad (fun z => z.2.1 hg0 q3), fun q3 => good q (fun _ => q3) (fun z => absurd hg0 z)⟩
end MZT
