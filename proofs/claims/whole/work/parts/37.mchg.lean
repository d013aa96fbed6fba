/-! ===== the reference: period, FM, change ===== -/
theorem wc_BECMG {cs : List Int32} (hV : pz_V cs) (k : Nat) : lg_cmp (pz_wd (pz_tok cs k)) (284629880135 : Int64) = 0 ↔ pz_tok cs k = W_BECMG := pz_wc hV k [66, 69, 67, 77, 71] (by decide) (by decide) (by decide) (by decide) (by decide)
theorem wc_TEMPO {cs : List Int32} (hV : pz_V cs) (k : Nat) : lg_cmp (pz_wd (pz_tok cs k)) (361939947599 : Int64) = 0 ↔ pz_tok cs k = W_TEMPO := pz_wc hV k [84, 69, 77, 80, 79] (by decide) (by decide) (by decide) (by decide) (by decide)
theorem wc_P30 {cs : List Int32} (hV : pz_V cs) (k : Nat) : lg_cmp (pz_wd (pz_tok cs k)) (88314447278896 : Int64) = 0 ↔ pz_tok cs k = W_P30 := pz_wc hV k [80, 82, 79, 66, 51, 48] (by decide) (by decide) (by decide) (by decide) (by decide)
theorem wc_P40 {cs : List Int32} (hV : pz_V cs) (k : Nat) : lg_cmp (pz_wd (pz_tok cs k)) (88314447279152 : Int64) = 0 ↔ pz_tok cs k = W_P40 := pz_wc hV k [80, 82, 79, 66, 52, 48] (by decide) (by decide) (by decide) (by decide) (by decide)
theorem wc_METAR {cs : List Int32} (hV : pz_V cs) (k : Nat) : lg_cmp (pz_wd (pz_tok cs k)) (331875631442 : Int64) = 0 ↔ pz_tok cs k = W_METAR := pz_wc hV k [77, 69, 84, 65, 82] (by decide) (by decide) (by decide) (by decide) (by decide)
theorem wc_TAF {cs : List Int32} (hV : pz_V cs) (k : Nat) : lg_cmp (pz_wd (pz_tok cs k)) (5521734 : Int64) = 0 ↔ pz_tok cs k = W_TAF := pz_wc hV k [84, 65, 70] (by decide) (by decide) (by decide) (by decide) (by decide)
section MZU
variable {m0 : jx_St} {cs : List Int32} {nt : Nat} {days : Int32} {g : Nat} {hd lt : Nat → Int32} {m : jx_St} {k : Nat} {B : pz_Bt} {post : Int32 → jx_St → Prop} {lf : Int32}
theorem MP_t0 (h : mz_P m0 cs nt days g hd lt m k B) {i : Nat} (hi : i < 10) {q : Int32} (hq : q.toNatClampNeg = i) : m.1 5 q.toNatClampNeg = B 4 i := by
  have := h.2.1.1 0 i (by omega) (by decide) hi
  rw [show 10 * 0 + i = i by omega] at this
  rw [hq]
  exact this
theorem sX4_period (h : mz_P m0 cs nt days g hd lt m k B) (hg : g < 9) {ea : Int32} (ha0 : g = 0 → pz_per days (pz_tok cs k) → (hd 10 ≤ pz_dig (pz_tok cs k) 0 2 ↔ ea ≤ pz_hour days (pz_tok cs k) 0 23)) (ha1 : g ≠ 0 → ea = B 4 2)
    (hs : (pz_per days (pz_tok cs k) ∧ ¬ pz_pe days (pz_tok cs k) ea ≤ pz_pb days (pz_tok cs k) ea ∧ (g = 0 → ¬ 1800 < pz_pe days (pz_tok cs k) ea - pz_pb days (pz_tok cs k) ea) ∧ (g ≠ 0 → ¬ pz_pb days (pz_tok cs k) ea < B 4 2 ∧ ¬ B 4 3 < pz_pe days (pz_tok cs k) ea)) → ∀ m' : jx_St, mz_P m0 cs nt days g hd lt m' (k + 1) (pz_perB B g days (pz_tok cs k) ea) → post 1 m')
    (hf : ¬ (pz_per days (pz_tok cs k) ∧ ¬ pz_pe days (pz_tok cs k) ea ≤ pz_pb days (pz_tok cs k) ea ∧ (g = 0 → ¬ 1800 < pz_pe days (pz_tok cs k) ea - pz_pb days (pz_tok cs k) ea) ∧ (g ≠ 0 → ¬ pz_pb days (pz_tok cs k) ea < B 4 2 ∧ ¬ B 4 3 < pz_pe days (pz_tok cs k) ea)) → ∀ m' : jx_St, mz_S m0 cs nt days m' k → post 0 m') : wX4_period post 0 (nI g) m := by
  have hV := h.1.2.1
  unfold wX4_period
  refine ⟨ok_m, sX4_isPeriod h.1 (fun hw _ => ⟨fun _ => ?_, fun z => absurd z (by decide)⟩) (fun hw _ => ⟨fun z => absurd rfl z, fun _ => hf (fun z => hw z.1) m h.1⟩)⟩
  refine sX4_number h.1 0 2 rfl rfl (by omega) (sX4_number h.1 2 2 rfl rfl (by omega) (fun x10 e10 => sX4_number h.1 5 2 rfl rfl (by omega) (sX4_number h.1 7 2 rfl rfl (by omega) (fun x15 e15 => ?_))))
  have e1 : x10 = pz_hour days (pz_tok cs k) 0 23 := by rw [e10]; exact pz_hour_m hV k 0 days 23 ((pz_hour_iff hV k 0 days 23).mp hw.2.2.1)
  have e2 : x15 = pz_hour days (pz_tok cs k) 5 24 := by rw [e15]; exact pz_hour_m hV k 5 days 24 ((pz_hour_iff hV k 5 days 24).mp hw.2.2.2)
  subst e1 e2
  have base : ∀ later : Int32, (later = 0 ↔ ea ≤ pz_hour days (pz_tok cs k) 0 23) → wX4_period_b96 post 0 (nI g) (pz_hour days (pz_tok cs k) 0 23) (pz_hour days (pz_tok cs k) 5 24) later m := fun later hl =>
    sX4_period_ab h hg hw hl (sX4_b142 h hg (by rw [hw.1]; decide) (fun z1 z2 z3 m' h' => hs ⟨hw, z1, z2, z3⟩ m' h') (fun z m' h' => hf (fun y => z y.2) m' h'))
  refine ⟨fun q => ?_, fun q => ?_⟩
  · have hg0 : g ≠ 0 := fun z => q (by rw [z]; rfl)
    rw [MP_15 h, MP_t0 h (i := 2) (by decide) (q := 2) rfl, ← ha1 hg0]
    exact ⟨ix_told (g := 0) (f := 2) (by decide) (by decide), fun q3 => base 0 ⟨fun _ => q3, fun _ => rfl⟩, fun q3 => base 1 ⟨fun z => absurd z (by decide), fun z => absurd z q3⟩⟩
  · have hg0 : g = 0 := (nI_eq (b := 0) (by omega) (by omega)).mp q
    refine sX4_number h.1 0 2 rfl rfl (by omega) ?_
    rw [h.2.2.1 10 (by decide)]
    exact ⟨fun q3 => base 0 ⟨fun _ => (ha0 hg0 hw).mp q3, fun _ => rfl⟩, fun q3 => base 1 ⟨fun z => absurd z (by decide), fun z => absurd ((ha0 hg0 hw).mpr z) q3⟩⟩
theorem sX4_b151 (h : mz_P m0 cs nt days g hd lt m k B) (hg : g < 9) (hg0 : g ≠ 0) {t kk : Int32} (hk : kk = 0 ∨ kk = 1) (hw : kk = 1 → (pz_tok cs k).length ≠ 0) (hs : kk = 1 → ∀ m' : jx_St, mz_P m0 cs nt days g hd lt m' (k + 1) (jx_u2 (jx_u2 B (4 + 3 * g) 2 t) (4 + 3 * g) 3 (B 4 3)) → post 1 m') (hf : kk = 0 → ∀ m' : jx_St, mz_S m0 cs nt days m' k → post 0 m') : wX4_since_b151 post 0 (nI g) t kk m := by
  unfold wX4_since_b151
  rw [MP_15 h, show ((10 * nI g) + 2 : Int32) = nI (10 * g + 2) from pz_10g g 2, show ((10 * nI g) + 3 : Int32) = nI (10 * g + 3) from pz_10g g 3, pz_cl (by omega), pz_cl (by omega)]
  refine ⟨ok_m, ix_told hg (by decide), fun m1 e1 => ?_⟩
  have h1 := MP_told h hg (f := 2) t (by decide) (fun z => absurd z (by decide)) (fun z => absurd z (by decide))
  rw [← e1] at h1
  have e3 : m1.1 5 ((3 : Int32).toNatClampNeg) = B 4 3 := by
    rw [MP_t0 h1 (i := 3) (by decide) (q := 3) rfl]
    have n2 : ¬ (4 = 4 + 3 * g ∧ 3 = 2) := fun z => by omega
    unfold jx_u2
    rw [if_neg n2]
  rw [MP_15 h1, e3]
  refine ⟨ix_told (g := 0) (f := 3) (by decide) (by decide), ix_told hg (by decide), fun m2 e2 => ?_⟩
  have h2 := MP_told h1 hg (f := 3) (B 4 3) (by decide) (fun z => absurd z (by decide)) (fun z => absurd z (by decide))
  rw [← e2] at h2
  rcases hk with rfl | rfl
  · exact ⟨fun _ m3 e3 => ⟨Or.inl rfl, by rw [e3, MS_same h2.1]; exact hf rfl m2 h2.1⟩, fun z => absurd rfl z⟩
  · refine ⟨fun z => absurd z (by decide), fun _ m3 e3 => ⟨Or.inr rfl, ?_⟩⟩
    have h3 := MP_next h2 (hw rfl) (v := m2.1 0 5 + 1) rfl
    rw [← e3] at h3
    exact hs rfl m3 h3
theorem sX4_since (h : mz_P m0 cs nt days g hd lt m k B) (hg : g < 9) (hg0 : g ≠ 0) (hfm : pz_hold (pz_tok cs k) 0 [70, 77] = true) (hs : pz_fmo days (pz_tok cs k) (B 4 2) (B 4 3) lf → ∀ m' : jx_St, mz_P m0 cs nt days g hd lt m' (k + 1) (jx_u2 (jx_u2 B (4 + 3 * g) 2 (pz_fmt days (pz_tok cs k) (B 4 2))) (4 + 3 * g) 3 (B 4 3)) → post 1 m') (hf : ¬ pz_fmo days (pz_tok cs k) (B 4 2) (B 4 3) lf → ∀ m' : jx_St, mz_S m0 cs nt days m' k → post 0 m') : wX4_since post 0 (nI g) lf m := by
  have hV := h.1.2.1
  have hlen := MS_len h.1 k
  have h8 : m.1 0 8 = days := h.1.2.2.2.2.2.2.2.2.2.2.1
  have ti := pz_time_iff hV k 2 days
  have ix2 : jx_ix jx_LM 6 5 2 := ix_told (g := 0) (f := 2) (by decide) (by decide)
  have ix3 : jx_ix jx_LM 6 5 3 := ix_told (g := 0) (f := 3) (by decide) (by decide)
  have bad : ∀ t : Int32, ¬ pz_fmo days (pz_tok cs k) (B 4 2) (B 4 3) lf → wX4_since_b151 post 0 (nI g) t 0 m := fun t z => sX4_b151 h hg hg0 (Or.inl rfl) (fun y => absurd y (by decide)) (fun y => absurd y (by decide)) (fun _ m' h' => hf z m' h')
  have c115 : ∀ t kk : Int32, (kk = 0 → ¬ ((pz_tok cs k).length = 8 ∧ pz_time days (pz_tok cs k) 2 ≠ -1)) → (¬ kk = 0 → ((pz_tok cs k).length = 8 ∧ pz_time days (pz_tok cs k) 2 ≠ -1) ∧ t = pz_fmt days (pz_tok cs k) (B 4 2)) → wX4_since_b115 post 0 (nI g) lf kk t m := by
    intro t kk hk0 hk1
    unfold wX4_since_b115
    rw [MP_15 h, MP_t0 h (i := 2) (by decide) (q := 2) rfl, MP_t0 h (i := 3) (by decide) (q := 3) rfl]
    refine ⟨fun q => bad t (fun z => hk0 q ⟨z.1, z.2.2.1⟩), fun q => ⟨ok_m, ix2, ?_⟩⟩
    obtain ⟨⟨q8, qt⟩, et⟩ := hk1 q
    subst et
    refine ⟨fun q2 => bad _ (fun z => z.2.2.2.1 q2), fun q2 => ⟨ix3, fun q3 => bad _ (fun z => z.2.2.2.2.1 q3), fun q3 => ⟨fun q4 => bad _ (fun z => absurd z.2.2.2.2.2 (Int32.not_lt.mpr q4)), fun q4 => ?_⟩⟩⟩
    exact sX4_b151 h hg hg0 (Or.inr rfl) (fun _ => by rw [q8]; decide) (fun _ m' h' => hs ⟨q8, hfm, qt, q2, q3, Int32.not_le.mp q4⟩ m' h') (fun y => absurd y (by decide))
  have c89 : ∀ t kk : Int32, (kk = 0 → ¬ ((pz_tok cs k).length = 8 ∧ pz_time days (pz_tok cs k) 2 ≠ -1)) → (¬ kk = 0 → ((pz_tok cs k).length = 8 ∧ pz_time days (pz_tok cs k) 2 ≠ -1) ∧ t = pz_time days (pz_tok cs k) 2) → wX4_since_b89 post 0 (nI g) lf t kk m := by
    intro t kk hk0 hk1
    unfold wX4_since_b89
    rw [MP_15 h, MP_t0 h (i := 2) (by decide) (q := 2) rfl, h8, Int32.mul_comm 1440 days]
    refine ⟨ok_m, ix2, fun q => c115 _ _ hk0 (fun z => ⟨(hk1 z).1, ?_⟩), fun q => c115 _ _ hk0 (fun z => ⟨(hk1 z).1, ?_⟩)⟩
    · have e := (hk1 z).2
      rw [e] at q ⊢
      unfold pz_fmt
      rw [if_pos q]
    · have e := (hk1 z).2
      rw [e] at q ⊢
      unfold pz_fmt
      rw [if_neg q]
  unfold wX4_since
  refine ⟨ok_m, sX4_number h.1 2 2 rfl rfl (by omega) (sX4_number h.1 4 2 rfl rfl (by omega) (sX4_number h.1 6 2 rfl rfl (by omega) (fun x8 e8 => sX4_size h.1 ⟨fun q => ?_, fun q => ?_⟩)))⟩
  · exact c89 _ _ (fun _ z => q (by rw [z.1]; rfl)) (fun z => absurd rfl z)
  · have q8 : (pz_tok cs k).length = 8 := (nI_eq (b := 8) (by omega) (by omega)).mp q
    have no : ¬ (pz_dh days (pz_tok cs k) 2 23 ∧ pz_mi (pz_tok cs k) (2 + 4)) → wX4_since_b89 post 0 (nI g) lf x8 0 m := fun z => c89 _ _ (fun _ y => z (ti.mp y.2)) (fun y => absurd rfl y)
    refine sX4_number h.1 2 2 rfl rfl (by omega) (sX4_isDay h.1 (fun a1 _ => ⟨fun z => absurd z (by decide), fun _ => ?_⟩) (fun a1 _ => ⟨fun _ => no (fun z => a1 z.1.1), fun z => absurd rfl z⟩))
    refine sX4_number h.1 4 2 rfl rfl (by omega) (sX4_isIn (fun a2 _ => ⟨fun z => absurd z (by decide), fun _ => ?_⟩) (fun a2 _ => ⟨fun _ => no (fun z => a2 z.1.2), fun z => absurd rfl z⟩))
    refine sX4_number h.1 6 2 rfl rfl (by omega) (sX4_isIn (fun a3 _ => ⟨fun z => absurd z (by decide), fun _ => ?_⟩) (fun a3 _ => ⟨fun _ => no (fun z => a3 z.2), fun z => absurd rfl z⟩))
    have tt : pz_dh days (pz_tok cs k) 2 23 ∧ pz_mi (pz_tok cs k) (2 + 4) := ⟨⟨a1, a2⟩, a3⟩
    exact c89 _ _ (fun z => absurd z (by decide)) (fun _ => ⟨⟨q8, ti.mpr tt⟩, by rw [e8]; exact pz_time_m hV k 2 days tt⟩)
theorem sX4_b202 (h : mz_P m0 cs nt days g hd lt m k B) (hg : g < 9) (hg0 : g ≠ 0) (hb : ∀ i, 3 < i → i < 10 → B (4 + 3 * g) i = -1) (hs : (sp_cper (pz_tok cs) days k B g).1 = true → ∀ m' : jx_St, mz_P m0 cs nt days g hd lt m' (sp_cper (pz_tok cs) days k B g).2.1 (sp_cper (pz_tok cs) days k B g).2.2 → post 1 m') (hf : (sp_cper (pz_tok cs) days k B g).1 = false → ∀ m' : jx_St, mz_S m0 cs nt days m' (sp_cper (pz_tok cs) days k B g).2.1 → post 0 m') : wX4_change_b202 post 0 (nI g) m := by
  unfold wX4_change_b202
  unfold sp_cper at hs hf
  refine ⟨ok_m, sX4_period h hg (ea := B 4 2) (fun z => absurd z hg0) (fun _ => rfl) (fun hq m1 h1 _ => ⟨fun z => absurd z (by decide), fun _ => ?_⟩) (fun hq m1 h1 _ => ⟨fun _ => ?_, fun z => absurd rfl z⟩)⟩
  · have hc : pz_cpo days (pz_tok cs k) (B 4 2) (B 4 3) := ⟨hq.1, hq.2.1, (hq.2.2.2 hg0).1, (hq.2.2.2 hg0).2⟩
    rw [pz_ifp hc] at hs hf
    have e : ∀ i, 3 < i → i < 10 → pz_perB B g days (pz_tok cs k) (B 4 2) (4 + 3 * g) i = -1 := fun i h1 h2 => by rw [pz_perB_9 h1]; exact hb i h1 h2
    exact sX4_parts h1 hg (e 5 (by decide) (by decide)) (e 7 (by decide) (by decide)) (e 8 (by decide) (by decide)) (e 9 (by decide) (by decide)) (fun q m2 h2 _ => ⟨fun z => absurd z (by decide), fun _ => hs q m2 h2⟩) (fun q m2 h2 _ => ⟨fun _ => hf q m2 h2, fun z => absurd rfl z⟩)
  · have hc : ¬ pz_cpo days (pz_tok cs k) (B 4 2) (B 4 3) := fun z => hq ⟨z.1, z.2.1, fun y => absurd y hg0, fun _ => z.2.2⟩
    rw [pz_ifn hc] at hf
    exact hf rfl m1 h1
theorem pz_10 (g : Nat) : (10 * nI g : Int32) = nI (10 * g) := by rw [show (10 : Int32) = nI 10 from rfl, pk_mul]
theorem sX4_b141 (h : mz_P m0 cs nt days g hd lt m k B) (hg : g < 9) (hg0 : g ≠ 0) (hw : (pz_tok cs k).length ≠ 0) (hb : ∀ i, 3 < i → i < 10 → B (4 + 3 * g) i = -1) {v c : Int32} (hv : v ≠ 0) (hc : c ≤ 0) (hs : (sp_cper (pz_tok cs) days (k + 1) (jx_u2 B (4 + 3 * g) 0 v) g).1 = true → ∀ m' : jx_St, mz_P m0 cs nt days g hd lt m' (sp_cper (pz_tok cs) days (k + 1) (jx_u2 B (4 + 3 * g) 0 v) g).2.1 (sp_cper (pz_tok cs) days (k + 1) (jx_u2 B (4 + 3 * g) 0 v) g).2.2 → post 1 m') (hf : (sp_cper (pz_tok cs) days (k + 1) (jx_u2 B (4 + 3 * g) 0 v) g).1 = false → ∀ m' : jx_St, mz_S m0 cs nt days m' (sp_cper (pz_tok cs) days (k + 1) (jx_u2 B (4 + 3 * g) 0 v) g).2.1 → post 0 m') : wX4_change_b141 post 0 (nI g) c 5 (10 * nI g) v m := by
  unfold wX4_change_b141
  rw [pz_10, pz_cl (by omega)]
  refine ⟨ix_told (f := 0) hg (by decide), fun m1 e1 => ?_⟩
  have h1 := MP_told h hg (f := 0) v (by decide) (fun z => absurd z (by decide)) (fun z => absurd z (by decide))
  rw [Nat.add_zero, ← e1] at h1
  have ev : m1.1 5 (10 * g) = v := by rw [e1, pz_s1, if_pos ⟨rfl, rfl⟩]
  rw [MP_15 h1, ev]
  refine ⟨ok_m, ix_told (f := 0) hg (by decide), fun _ m2 e2 => ⟨fun _ => ?_, fun z => absurd hc z⟩, fun z => absurd z hv⟩
  have h2 := MP_next h1 hw (v := m1.1 0 5 + 1) rfl
  rw [← e2] at h2
  exact sX4_b202 h2 hg hg0 (fun i i1 i2 => by have n : ¬ i = 0 := by omega
                                              simp [jx_u2, n]; exact hb i i1 i2) hs hf
theorem jx_u2_2 {B : pz_Bt} {rc i : Nat} {v v' : Int32} : jx_u2 (jx_u2 B rc i v) rc i v' = jx_u2 B rc i v' := by
  funext a c
  unfold jx_u2
  by_cases q : a = rc ∧ c = i
  · rw [if_pos q, if_pos q]
  · rw [if_neg q, if_neg q, if_neg q]
theorem sX4_b141p (h : mz_P m0 cs nt days g hd lt m k B) (hg : g < 9) (hg0 : g ≠ 0) (hw : (pz_tok cs k).length ≠ 0) (hb : ∀ i, 3 < i → i < 10 → B (4 + 3 * g) i = -1) {c : Int32} (hc : ¬ c ≤ 0) (hs : (sp_cper (pz_tok cs) days (sp_prob (pz_tok cs) (k + 1) B g).2.1 (sp_prob (pz_tok cs) (k + 1) B g).2.2 g).1 = true → ∀ m' : jx_St, mz_P m0 cs nt days g hd lt m' (sp_cper (pz_tok cs) days (sp_prob (pz_tok cs) (k + 1) B g).2.1 (sp_prob (pz_tok cs) (k + 1) B g).2.2 g).2.1 (sp_cper (pz_tok cs) days (sp_prob (pz_tok cs) (k + 1) B g).2.1 (sp_prob (pz_tok cs) (k + 1) B g).2.2 g).2.2 → post 1 m') (hf : (sp_cper (pz_tok cs) days (sp_prob (pz_tok cs) (k + 1) B g).2.1 (sp_prob (pz_tok cs) (k + 1) B g).2.2 g).1 = false → ∀ m' : jx_St, mz_S m0 cs nt days m' (sp_cper (pz_tok cs) days (sp_prob (pz_tok cs) (k + 1) B g).2.1 (sp_prob (pz_tok cs) (k + 1) B g).2.2 g).2.1 → post 0 m') : wX4_change_b141 post 0 (nI g) c 5 (10 * nI g) 4 m := by
  have hV := h.1.2.1
  unfold wX4_change_b141
  unfold sp_prob at hs hf
  rw [pz_10, pz_cl (by omega)]
  refine ⟨ix_told (f := 0) hg (by decide), fun m1 e1 => ?_⟩
  have h1 := MP_told h hg (f := 0) 4 (by decide) (fun z => absurd z (by decide)) (fun z => absurd z (by decide))
  rw [Nat.add_zero, ← e1] at h1
  have ev : m1.1 5 (10 * g) = 4 := by rw [e1, pz_s1, if_pos ⟨rfl, rfl⟩]
  have hbb : ∀ v : Int32, ∀ i, 3 < i → i < 10 → jx_u2 B (4 + 3 * g) 0 v (4 + 3 * g) i = -1 := fun v i i1 i2 => by
    have n : ¬ i = 0 := by omega
    simp [jx_u2, n]; exact hb i i1 i2
  rw [MP_15 h1, ev]
  refine ⟨ok_m, ix_told (f := 0) hg (by decide), fun _ m2 e2 => ⟨fun z => absurd z hc, fun _ => ?_⟩, fun z => absurd z (by decide)⟩
  have h2 := MP_next h1 hw (v := m1.1 0 5 + 1) rfl
  rw [← e2] at h2
  refine sX4_word h2.1 ?_
  rw [wc_TEMPO hV]
  refine ⟨fun q => ?_, fun q => ?_⟩
  · rw [pz_ifn q] at hs hf
    exact sX4_b202 h2 hg hg0 (hbb 4) hs hf
  · rw [pz_ifp q] at hs hf
    rw [MP_15 h2]
    refine ⟨ix_told (f := 0) hg (by decide), fun m3 e3 m4 e4 => ?_⟩
    have h3 := MP_told h2 hg (f := 0) 5 (by decide) (fun z => absurd z (by decide)) (fun z => absurd z (by decide))
    rw [Nat.add_zero, ← e3, jx_u2_2] at h3
    have h4 := MP_next h3 (by rw [q]; decide) (v := m3.1 0 5 + 1) rfl
    rw [← e4] at h4
    exact sX4_b202 h4 hg hg0 (hbb 5) hs hf
theorem sX4_change (h : mz_P m0 cs nt days g hd lt m k B) (hg : g < 9) (hg0 : g ≠ 0) (hw : (pz_tok cs k).length ≠ 0) (hb : ∀ i, i < 10 → B (4 + 3 * g) i = if i < 2 then 0 else -1) (hs : (sp_change (pz_tok cs) days k B g lf).1.1 = true → ∀ m' : jx_St, mz_P m0 cs nt days g hd lt m' (sp_change (pz_tok cs) days k B g lf).1.2.1 (sp_change (pz_tok cs) days k B g lf).1.2.2 → post 1 m') (hf : (sp_change (pz_tok cs) days k B g lf).1.1 = false → ∀ m' : jx_St, mz_S m0 cs nt days m' (sp_change (pz_tok cs) days k B g lf).1.2.1 → post 0 m') : wX4_change post 0 (nI g) lf m := by
  have hV := h.1.2.1
  have b2 : ∀ i, 3 < i → i < 10 → B (4 + 3 * g) i = -1 := fun i i1 i2 => by
    have n : ¬ i < 2 := by omega
    rw [hb i i2, if_neg n]
  have p0 := pz_2c hV k 0 (L := 17997) (x := 70) (y := 77) rfl (by decide) (by decide)
  unfold wX4_change
  unfold sp_change at hs hf
  refine ⟨ok_m, sX4_word h.1 (sX4_pair h.1 0 rfl (by decide) ⟨fun q => ?_, fun q => ?_⟩)⟩
  · have nf : ¬ pz_fmo days (pz_tok cs k) (B 4 2) (B 4 3) lf := fun z => q (p0.mpr (pz_hold2.mp z.2.1))
    rw [pz_ifn nf] at hs hf
    have u1 : ∀ c : Int32, c = 0 → jx_u2 B (4 + 3 * g) 1 c = B := fun c ec => jx_u2_id (by rw [ec, hb 1 (by decide)]; rfl)
    have k84 : ∀ (c : Int32), (∀ m1 : jx_St, mz_P m0 cs nt days g hd lt m1 k (jx_u2 B (4 + 3 * g) 1 c) → (((¬ pz_tok cs k = W_BECMG) → (((¬ pz_tok cs k = W_TEMPO) → (((c ≤ 0) → wX4_change_b141 post 0 (nI g) c 5 (10 * nI g) 0 m1) ∧ ((¬ c ≤ 0) → wX4_change_b141 post 0 (nI g) c 5 (10 * nI g) 4 m1))) ∧ ((pz_tok cs k = W_TEMPO) → wX4_change_b141 post 0 (nI g) c 5 (10 * nI g) 3 m1))) ∧ ((pz_tok cs k = W_BECMG) → wX4_change_b141 post 0 (nI g) c 5 (10 * nI g) 2 m1))) → wX4_change_b84 post 0 (nI g) (pz_wd (pz_tok cs k)) c m := by
      intro c hc
      unfold wX4_change_b84
      rw [MP_15 h, show ((10 * nI g) + 1 : Int32) = nI (10 * g + 1) from pz_10g g 1, pz_cl (by omega), wc_BECMG hV, wc_TEMPO hV]
      refine ⟨ok_m, ix_told hg (by decide), fun m1 e1 => ?_⟩
      have h1 := MP_told h hg (f := 1) c (by decide) (fun z => absurd z (by decide)) (fun z => absurd z (by decide))
      rw [← e1] at h1
      rw [MP_15 h1]
      exact hc m1 h1
    rw [wc_P30 hV, wc_P40 hV]
    unfold sp_name at hs hf
    by_cases c1 : pz_tok cs k = W_BECMG
    · rw [pz_ifp c1, pz_ifp rfl] at hs hf
      have n30 : ¬ pz_tok cs k = W_P30 := by rw [c1]; decide
      have n40 : ¬ pz_tok cs k = W_P40 := by rw [c1]; decide
      refine ⟨fun _ => ⟨fun _ => k84 0 (fun m1 h1 => ⟨fun z => absurd c1 z, fun _ => ?_⟩), fun z => absurd z n40⟩, fun z => absurd z n30⟩
      rw [u1 0 rfl] at h1
      exact sX4_b141 h1 hg hg0 hw b2 (by decide) (by decide) hs hf
    · rw [pz_ifn c1] at hs hf
      by_cases c2 : pz_tok cs k = W_TEMPO
      · rw [pz_ifp c2, pz_ifp rfl] at hs hf
        have n30 : ¬ pz_tok cs k = W_P30 := by rw [c2]; decide
        have n40 : ¬ pz_tok cs k = W_P40 := by rw [c2]; decide
        refine ⟨fun _ => ⟨fun _ => k84 0 (fun m1 h1 => ⟨fun _ => ⟨fun z => absurd c2 z, fun _ => ?_⟩, fun z => absurd z c1⟩), fun z => absurd z n40⟩, fun z => absurd z n30⟩
        rw [u1 0 rfl] at h1
        exact sX4_b141 h1 hg hg0 hw b2 (by decide) (by decide) hs hf
      · rw [pz_ifn c2] at hs hf
        have b1 : ∀ c : Int32, ∀ i, 3 < i → i < 10 → jx_u2 B (4 + 3 * g) 1 c (4 + 3 * g) i = -1 := fun c i i1 i2 => by
          have n : ¬ i = 1 := by omega
          simp [jx_u2, n]; exact b2 i i1 i2
        have pt : ∀ c : Int32, (sp_prob (pz_tok cs) (k + 1) (jx_u2 B (4 + 3 * g) 1 c) g).1 = true := fun c => by
          unfold sp_prob
          exact pz_ife (P := fun r : pz_Rt => r.1 = true) (fun _ => rfl) (fun _ => rfl)
        by_cases c3 : pz_tok cs k = W_P30
        · rw [pz_ifp c3, pz_ifp (pt 30)] at hs hf
          refine ⟨fun z => absurd c3 z, fun _ => k84 30 (fun m1 h1 => ⟨fun _ => ⟨fun _ => ⟨fun z => absurd z (by decide), fun _ => ?_⟩, fun z => absurd z c2⟩, fun z => absurd z c1⟩)⟩
          exact sX4_b141p h1 hg hg0 hw (b1 30) (by decide) hs hf
        · rw [pz_ifn c3] at hs hf
          by_cases c4 : pz_tok cs k = W_P40
          · rw [pz_ifp c4, pz_ifp (pt 40)] at hs hf
            refine ⟨fun _ => ⟨fun z => absurd c4 z, fun _ => k84 40 (fun m1 h1 => ⟨fun _ => ⟨fun _ => ⟨fun z => absurd z (by decide), fun _ => ?_⟩, fun z => absurd z c2⟩, fun z => absurd z c1⟩)⟩, fun z => absurd z c3⟩
            exact sX4_b141p h1 hg hg0 hw (b1 40) (by decide) hs hf
          · rw [pz_ifn c4] at hs hf
            have ff : ¬ (false = true) := by decide
            rw [pz_ifn ff] at hs hf
            refine ⟨fun _ => ⟨fun _ => k84 0 (fun m1 h1 => ⟨fun _ => ⟨fun _ => ⟨fun _ => ?_, fun z => absurd (by decide) z⟩, fun z => absurd z c2⟩, fun z => absurd z c1⟩), fun z => absurd z c4⟩, fun z => absurd z c3⟩
            unfold wX4_change_b141
            rw [pz_10, pz_cl (by omega)]
            refine ⟨ix_told (f := 0) hg (by decide), fun m2 e2 => ?_⟩
            have h2 := MP_told h1 hg (f := 0) 0 (by decide) (fun z => absurd z (by decide)) (fun z => absurd z (by decide))
            rw [Nat.add_zero, ← e2] at h2
            have ev : m2.1 5 (10 * g) = 0 := by rw [e2, pz_s1, if_pos ⟨rfl, rfl⟩]
            rw [MP_15 h2, ev]
            exact ⟨ok_m, ix_told (f := 0) hg (by decide), fun z => absurd rfl z, fun _ => hf rfl m2 h2.1⟩
  · have hfm : pz_hold (pz_tok cs k) 0 [70, 77] = true := pz_hold2.mpr (p0.mp q)
    rw [MP_15 h, pz_10, pz_cl (by omega)]
    refine ⟨ix_told (f := 0) hg (by decide), fun m1 e1 => ?_⟩
    have h1 := MP_told h hg (f := 0) 1 (by decide) (fun z => absurd z (by decide)) (fun z => absurd z (by decide))
    rw [Nat.add_zero, ← e1] at h1
    have x2 : jx_u2 B (4 + 3 * g) 0 1 4 2 = B 4 2 := by
      have n : ¬ (4 = 4 + 3 * g ∧ 2 = 0) := fun z => by omega
      unfold jx_u2; rw [if_neg n]
    have x3 : jx_u2 B (4 + 3 * g) 0 1 4 3 = B 4 3 := by
      have n : ¬ (4 = 4 + 3 * g ∧ 3 = 0) := fun z => by omega
      unfold jx_u2; rw [if_neg n]
    refine sX4_since h1 hg hg0 hfm (fun hq m2 h2 _ => ⟨fun z => absurd z (by decide), fun _ => ?_⟩) (fun hq m2 h2 _ => ⟨fun _ => ?_, fun z => absurd rfl z⟩)
    · rw [x2, x3] at hq h2
      rw [pz_ifp hq] at hs hf
      have h2' : mz_P m0 cs nt days g hd lt m2 (k + 1) (pz_fmB B g (pz_fmt days (pz_tok cs k) (B 4 2)) (B 4 3)) := h2
      dsimp only at hs hf
      unfold sp_whole at hs hf
      refine sX4_wind h2' hg (fun hq3 m3 h3 _ => ⟨fun z => absurd z (by decide), fun _ => ?_⟩) (fun hq3 _ => ⟨fun _ => ?_, fun z => absurd rfl z⟩)
      · rw [pz_ifp hq3] at hs hf
        exact sX4_sky h3 hg (by rw [pz_wndB_9 (by omega), pz_fmB_9 (by omega)]; exact b2 8 (by decide) (by decide)) (by rw [pz_wndB_9 (by omega), pz_fmB_9 (by omega)]; exact b2 9 (by decide) (by decide)) (fun q4 m4 h4 _ => ⟨fun z => absurd z (by decide), fun _ => hs q4 m4 h4⟩) (fun q4 m4 h4 _ => ⟨fun _ => hf q4 m4 h4, fun z => absurd rfl z⟩)
      · rw [pz_ifn hq3] at hf
        exact hf rfl m2 h2'.1
    · rw [x2, x3] at hq
      rw [pz_ifn hq] at hf
      have hh := pz_hold2.mp hfm
      have nm : ∀ W : List Int32, pz_ch W 0 = 70 ∧ pz_ch W 1 = 77 → True := fun _ _ => trivial
      have d1 : ¬ pz_tok cs k = W_BECMG := fun z => by rw [z] at hh; exact absurd hh.1 (by decide)
      have d2 : ¬ pz_tok cs k = W_TEMPO := fun z => by rw [z] at hh; exact absurd hh.1 (by decide)
      have d3 : ¬ pz_tok cs k = W_P30 := fun z => by rw [z] at hh; exact absurd hh.1 (by decide)
      have d4 : ¬ pz_tok cs k = W_P40 := fun z => by rw [z] at hh; exact absurd hh.1 (by decide)
      unfold sp_name at hf
      have ff : ¬ (false = true) := by decide
      rw [pz_ifn d1, pz_ifn d2, pz_ifn d3, pz_ifn d4, pz_ifn ff] at hf
      exact hf rfl m2 h2
end MZU
