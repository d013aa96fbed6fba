/-! ===== the reference reads as the text is read ===== -/
theorem sp_read_t {T : Nat → List Int32} {days : Int32} {B : pz_Bt} (h : (sp_all T days B).1 = true ∧ (T (sp_all T days B).2.1).length = 0) : sp_read T days B = (true, (sp_all T days B).2) := by
  unfold sp_read; rw [pz_ifp h]
theorem sp_read_f {T : Nat → List Int32} {days : Int32} {B : pz_Bt} (h : ¬ ((sp_all T days B).1 = true ∧ (T (sp_all T days B).2.1).length = 0)) : sp_read T days B = (false, (sp_all T days B).2) := by
  unfold sp_read; rw [pz_ifn h]
theorem sp_start_4 {B : pz_Bt} {days : Int32} (f : Nat) (hf : f < 10) : sp_start B days 4 f = if f < 2 then 0 else -1 := sp_add_own (g := 0) f hf
theorem sp_start_07 {B : pz_Bt} {days : Int32} : sp_start B days 0 7 = nI 1 := by
  unfold sp_start sp_add; rw [if_pos ⟨rfl, rfl⟩]
theorem sX4_read {cs : List Int32} {m : jx_St} {days : Int32} {post : Int32 → jx_St → Prop} (hT : mz_T0 m cs) (h28 : ¬ days < 28) (h31 : days ≤ 31) (B0 : pz_Bt)
    (hs : (sp_read (pz_tok cs) days (sp_start B0 days)).1 = true → ∀ m' : jx_St, mz_R m' → (∀ i, m'.1 13 i = m.1 13 i) → m'.1 0 31 = m.1 0 31 → m'.1 0 1 = 0 → mz_KK m' (sp_read (pz_tok cs) days (sp_start B0 days)).2.2 (pz_can cs) → post 0 m')
    (hf : (sp_read (pz_tok cs) days (sp_start B0 days)).1 = false → ∀ m' : jx_St, mz_R m' → (∀ c i, 8 ≤ c → m'.1 c i = m.1 c i) → (∀ i, 18 ≤ i → m'.1 0 i = m.1 0 i) → m'.1 0 1 = 0 → post (nI (pz_pos cs (sp_read (pz_tok cs) days (sp_start B0 days)).2.1) + 1) m') : wX4_read post 0 days m := by
  obtain ⟨hR, hV, g1, g2⟩ := hT
  have hl := hV.1
  unfold wX4_read
  refine ⟨fun z => absurd z h28, fun _ => ⟨fun _ => ⟨ok_m, fun m1 e1 => ?_⟩, fun z => absurd h31 z⟩⟩
  have o1 : ∀ c i, ¬ (c = 0 ∧ i = 8) → m1.1 c i = m.1 c i := fun c i hc => by rw [e1, pz_s1, if_neg hc]
  have s1 : m1.2 = m.2 := by rw [e1, pz_s2]
  have hT1 : mz_T0 m1 cs := ⟨by unfold mz_R; rw [s1]; exact hR, hV, by rw [o1 0 1 (by omega)]; exact g1, fun i hi => by rw [o1 1 i (by omega)]; exact g2 i hi⟩
  refine sX4_split hT1 (fun m2 nt h2 hn hx hnil => ?_)
  refine sX4_blank (by rw [h2.1, s1]; exact hR.2.2.2.2.1) (fun m3 s3 b3 f3 m4 e4 m5 e5 => ?_)
  have s5 : m5.2 = m.2 := by rw [e5, pz_s2, e4, pz_s2, s3, h2.1, s1]
  have o5 : ∀ c i, ¬ (c = 0 ∧ (i = 5 ∨ i = 7)) → m5.1 c i = m3.1 c i := fun c i hc => by
    rw [e5, pz_s1, if_neg (fun z => hc ⟨z.1, Or.inr z.2⟩), e4, pz_s1, if_neg (fun z => hc ⟨z.1, Or.inl z.2⟩)]
  have a0 : ∀ i, i ≠ 4 → i ≠ 5 → i ≠ 7 → i ≠ 8 → m5.1 0 i = m.1 0 i := fun i i1 i2 i3 i4 => by
    rw [o5 0 i (by omega), f3 0 i (by decide), h2.2.2.2 0 i (by decide) (by decide) (by omega), o1 0 i (by omega)]
  have ac : ∀ c i, c ≠ 0 → c ≠ 2 → c ≠ 3 → c ≠ 5 → m5.1 c i = m.1 c i := fun c i c0 c2 c3 c5 => by
    rw [o5 c i (by omega), f3 c i c5, h2.2.2.2 c i c2 c3 (by omega), o1 c i (by omega)]
  have hR5 : mz_R m5 := by unfold mz_R; rw [s5]; exact hR
  have v7 : m5.1 0 7 = nI 1 := by rw [e5, pz_s1, if_pos ⟨rfl, rfl⟩]; rfl
  have hS : mz_S m cs nt days m5 0 := by
    refine ⟨hR5, hV, by rw [a0 1 (by decide) (by decide) (by decide) (by decide)]; exact g1, fun i hi => by rw [ac 1 i (by decide) (by decide) (by decide) (by decide)]; exact g2 i hi, hn, ?_, fun t ht => ?_, hx, ?_, by omega, ?_, fun c i hc => ac c i (by omega) (by omega) (by omega) (by omega), fun i hi => a0 i (by omega) (by omega) (by omega) (by omega)⟩
    · rw [o5 0 4 (by omega), f3 0 4 (by decide)]; exact h2.2.1
    · rw [o5 2 t (by omega), f3 2 t (by decide), o5 3 t (by omega), f3 3 t (by decide)]
      exact ⟨(h2.2.2.1 t ht).1, (h2.2.2.1 t ht).2.1⟩
    · rw [e5, pz_s1, if_neg (by decide), e4, pz_s1, if_pos ⟨rfl, rfl⟩]; rfl
    · rw [o5 0 8 (by omega), f3 0 8 (by decide), h2.2.2.2 0 8 (by decide) (by decide) (by decide), e1, pz_s1, if_pos ⟨rfl, rfl⟩]
  have hP : mz_P m cs nt days 0 (m5.1 0) (m5.1 4) m5 0 (sp_start B0 days) := by
    refine ⟨hS, ⟨fun g f l1 l2 l3 => ?_, fun g f l1 l2 l3 => ?_, fun g j l1 l2 l3 l4 => ?_, fun g j l1 l2 l3 l4 => ?_⟩, fun i _ => rfl, fun i => rfl⟩
    · have g0 : g = 0 := by omega
      subst g0
      rw [o5 5 _ (by omega), b3 _ (by omega), show (10 * 0 + f) % 10 = f by omega]
      exact (sp_start_4 f l3).symm
    · rw [o5 5 _ (by omega), b3 _ (by omega), show (10 * g + f) % 10 = f by omega]
    · have g0 : g = 0 := by omega
      subst g0
      rw [show 4 + 3 * 0 = 4 from rfl, sp_start_4 8 (by decide)] at l4
      rcases (by omega : j = 0 ∨ j = 1 ∨ j = 2) with rfl | rfl | rfl <;> exact absurd l4 (by decide)
    · have g0 : g = 0 := by omega
      subst g0
      rw [show 4 + 3 * 0 = 4 from rfl, sp_start_4 9 (by decide)] at l4
      rcases (by omega : j = 0 ∨ j = 1 ∨ j = 2 ∨ j = 3) with rfl | rfl | rfl | rfl <;> exact absurd l4 (by decide)
  have b48 : sp_start B0 days 4 8 = -1 := by rw [sp_start_4 8 (by decide)]; rfl
  have b49 : sp_start B0 days 4 9 = -1 := by rw [sp_start_4 9 (by decide)]; rfl
  have b07 : sp_start B0 days 0 7 = nI 1 := sp_start_07
  generalize sp_start B0 days = B at hs hf hP b48 b49 b07
  have c100 : ∀ (r : Int32) (m' : jx_St) (k : Nat), mz_S m cs nt days m' k → (r = 0 → sp_read (pz_tok cs) days B = (false, k, (sp_read (pz_tok cs) days B).2.2)) → (¬ r = 0 → sp_read (pz_tok cs) days B = (true, k, (sp_read (pz_tok cs) days B).2.2) ∧ nt ≠ 0 ∧ mz_K m' (sp_read (pz_tok cs) days B).2.2) → wX4_read_b100 post 0 r m' := by
    intro r m' k h' r0 r1
    have c127 : wX4_read_b127 post 0 r (nI (pz_pos cs k)) m' := by
      unfold wX4_read_b127
      intro x ex
      refine ⟨fun q => ?_, fun q => ⟨ok_m, ?_⟩⟩
      · have er := r0 q
        unfold wX4_read_b139
        refine ⟨ok_m, fun m6 e6 => ⟨fun _ => ?_, fun z => absurd q z⟩⟩
        have eb : (sp_read (pz_tok cs) days B).1 = false := by rw [er]
        have ek : (sp_read (pz_tok cs) days B).2.1 = k := by rw [er]
        rw [ek] at hf
        rw [ex]
        refine hf eb m6 (by unfold mz_R; rw [e6, pz_s2]; exact h'.1) (fun c i hc => by rw [e6, pz_s1, if_neg (by omega)]; exact h'.2.2.2.2.2.2.2.2.2.2.2.1 c i hc) (fun i hi => by rw [e6, pz_s1, if_neg (by omega)]; exact h'.2.2.2.2.2.2.2.2.2.2.2.2 i hi) (by rw [e6, pz_s1, if_pos ⟨rfl, rfl⟩])
      · obtain ⟨er, hnt, hK⟩ := r1 q
        refine sX4_keep h' hK hnt (fun m6 k1 k2 k3 k4 => ?_)
        unfold wX4_read_b139
        refine ⟨ok_m, fun m7 e7 => ⟨fun z => absurd z q, fun _ => ?_⟩⟩
        have eb : (sp_read (pz_tok cs) days B).1 = true := by rw [er]
        have o7 : ∀ c i, ¬ (c = 0 ∧ i = 1) → m7.1 c i = m6.1 c i := fun c i hc => by rw [e7, pz_s1, if_neg hc]
        refine hs eb m7 (by unfold mz_R; rw [e7, pz_s2]; exact k1) (fun i => by rw [o7 13 i (by omega)]; exact k2 i) (by rw [o7 0 31 (by omega)]; exact k3) (by rw [e7, pz_s1, if_pos ⟨rfl, rfl⟩]) ?_
        obtain ⟨⟨gm, x1, x2, x3, x4, x5⟩, y1, y2, y3, y4, y5, y6, y7⟩ := k4
        exact ⟨⟨gm, x1, x2, fun g f l1 l2 => by rw [o7 9 _ (by omega)]; exact x3 g f l1 l2, fun g j l1 l2 l3 => by rw [o7 10 _ (by omega)]; exact x4 g j l1 l2 l3, fun g j l1 l2 l3 => by rw [o7 11 _ (by omega)]; exact x5 g j l1 l2 l3⟩, by rw [o7 0 18 (by omega)]; exact y1, by rw [o7 0 19 (by omega)]; exact y2, by rw [o7 0 20 (by omega)]; exact y3, fun z => by rw [o7 0 21 (by omega), o7 0 22 (by omega), o7 0 23 (by omega)]; exact y4 z, fun j hj => by rw [o7 8 _ (by omega)]; exact y5 j hj, by rw [o7 0 29 (by omega)]; exact y6, fun i hi => by rw [o7 12 _ (by omega)]; exact y7 i hi⟩
    have hk' : k ≤ nt := h'.2.2.2.2.2.2.2.2.2.1
    unfold wX4_read_b100
    rw [MS_4 h', MS_at h', h'.1.2.1, pz_cl (by omega)]
    refine ⟨ok_m, fun q => ?_, fun q => ⟨ix_m (by decide) rfl (by omega) (by decide), ?_⟩⟩
    · have ek : k = nt := by have := pz_lew (by omega) q; omega
      have ep : pz_pos cs k = cs.length := by unfold pz_pos; rw [ek, hnil]; rfl
      rw [h'.2.2.1, ← ep]
      exact c127
    · have hk : k < nt := by
        rcases Nat.lt_or_ge k nt with z | z
        · exact z
        · exact absurd (nI_le z (by omega)) q
      rw [(h'.2.2.2.2.2.2.1 k hk).1]
      exact c127
  have body : ∀ (C : (Int32 → jx_St → Prop) → Nat → jx_St → Prop), (pz_tok cs 0).length ≠ 0 → (∀ m6 : jx_St, mz_P m cs nt days 0 (m5.1 0) (m5.1 4) m6 1 B → (∀ post' : Int32 → jx_St → Prop, ((sp_all (pz_tok cs) days B).1 = true → (pz_tok cs (sp_all (pz_tok cs) days B).2.1).length = 0 → ∀ m' : jx_St, mz_S m cs nt days m' (sp_all (pz_tok cs) days B).2.1 → mz_K m' (sp_all (pz_tok cs) days B).2.2 → post' 1 m') → (¬ ((sp_all (pz_tok cs) days B).1 = true ∧ (pz_tok cs (sp_all (pz_tok cs) days B).2.1).length = 0) → ∀ m' : jx_St, mz_S m cs nt days m' (sp_all (pz_tok cs) days B).2.1 → post' 0 m') → C post' 0 m6)) → ∀ m6 : jx_St, m6 = jx_sI m5 0 5 1 → C (fun r s => r = 0 ∨ r = 1 → wX4_read_b100 post 0 r s) 0 m6 := by
    intro C hne hC m6 e6
    have h6 := MP_next hP hne (v := 1) (by rw [MS_at hS]; rfl)
    rw [← e6] at h6
    refine hC m6 h6 _ (fun t1 t2 m' h' hK _ => ?_) (fun t m' h' _ => ?_)
    · have er := sp_read_t ⟨t1, t2⟩
      refine c100 1 m' _ h' (fun z => absurd z (by decide)) (fun _ => ⟨by rw [er], fun z => ?_, by rw [er]; exact hK⟩)
      exact hne ((hx 0).mpr (by omega))
    · have er := sp_read_f t
      exact c100 0 m' _ h' (fun _ => by rw [er]) (fun z => absurd rfl z)
  refine sX4_word hS ?_
  rw [wc_METAR hV]
  refine ⟨fun q => ?_, fun q => ?_⟩
  · unfold wX4_read_b53
    refine ⟨fun z => absurd rfl z, fun _ => ⟨ok_m, sX4_word hS ?_⟩⟩
    rw [wc_TAF hV]
    refine ⟨fun q2 => ?_, fun q2 => ?_⟩
    · unfold wX4_read_b74
      refine ⟨fun _ => ?_, fun z => absurd rfl z⟩
      have ea := sp_all_no (days := days) (B := B) q q2
      have er : sp_read (pz_tok cs) days B = (false, 0, B) := by
        rw [sp_read_f (by rw [ea]; exact fun z => absurd z.1 Bool.false_ne_true), ea]
      exact c100 0 m5 0 hS (fun _ => by rw [er]) (fun z => absurd rfl z)
    · unfold wX4_read_b74
      refine ⟨fun z => absurd z (by decide), fun _ => ⟨ok_m, fun m6 e6 => ⟨fun _ => ?_, fun z => absurd rfl z⟩⟩⟩
      exact body (fun p a s => wX4_forecast p a s) (by rw [q2]; decide) (fun m7 h7 post' p1 p0 => sX4_forecast h7 b48 b49 v7 b07 q2 rfl p1 p0) m6 e6
  · unfold wX4_read_b53
    refine ⟨fun _ => ?_, fun z => absurd z (by decide)⟩
    unfold wX4_read_b74
    refine ⟨fun z => absurd z (by decide), fun _ => ⟨ok_m, fun m6 e6 => ⟨fun z => absurd z (by decide), fun _ => ?_⟩⟩⟩
    exact body (fun p a s => wX4_report p a s) (by rw [q]; decide) (fun m7 h7 post' p1 p0 => sX4_report h7 b48 b49 v7 b07 q rfl p1 p0) m6 e6
