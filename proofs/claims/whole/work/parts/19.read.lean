/-! ===== forecasts, reports, heads; the kept text; the whole reading ===== -/
noncomputable def sp_forecast (T : Nat → List Int32) (days : Int32) (k : Nat) (B : pz_Bt) : pz_Rt :=
  pz_if (pz_fpo days (T k) (pz_ed (B 0 2))) (pz_if ((sp_whole T (k + 1) (pz_perB B 0 days (T k) (pz_ed (B 0 2))) 0).1 = true)
    (sp_fl T days 8 1 (sp_whole T (k + 1) (pz_perB B 0 days (T k) (pz_ed (B 0 2))) 0).2.1 (sp_whole T (k + 1) (pz_perB B 0 days (T k) (pz_ed (B 0 2))) 0).2.2 (-1))
    (sp_whole T (k + 1) (pz_perB B 0 days (T k) (pz_ed (B 0 2))) 0)) (false, k, B)
noncomputable def sp_prs (T : Nat → List Int32) (k : Nat) (B : pz_Bt) : pz_Rt := pz_if (pz_prs (T k)) (true, k + 1, jx_u2 B 0 5 (pz_dig (T k) 1 4)) (false, k, B)
noncomputable def sp_tem (T : Nat → List Int32) (k : Nat) (B : pz_Bt) : pz_Rt := pz_if (pz_tem (T k)) (sp_prs T (k + 1) (jx_u2 (jx_u2 B 0 3 (pz_deg (T k) 0)) 0 4 (pz_deg (T k) (pz_cut (T k) + 1)))) (false, k, B)
noncomputable def sp_report (T : Nat → List Int32) (k : Nat) (B : pz_Bt) : pz_Rt :=
  pz_if ((sp_whole T k B 0).1 = true) (sp_tem T (sp_whole T k B 0).2.1 (sp_whole T k B 0).2.2) (sp_whole T k B 0)
noncomputable def sp_head2 (T : Nat → List Int32) (days : Int32) (k : Nat) (B : pz_Bt) : pz_Rt :=
  pz_if (pz_sta (T k)) (pz_if (pz_iss days (T (k + 1))) (true, k + 1 + 1, jx_u2 (pz_staB B (T k) 4) 0 2 (pz_time days (T (k + 1)) 0)) (false, k + 1, B)) (false, k, B)
noncomputable def sp_head (T : Nat → List Int32) (days : Int32) (k : Nat) (B : pz_Bt) : pz_Rt :=
  pz_if (T k = W_METAR) (sp_head2 T days (k + 1) (jx_u2 B 0 0 1)) (pz_if (T k = W_TAF) (sp_head2 T days (k + 1) (jx_u2 B 0 0 2)) (false, k, B))
noncomputable def sp_body (T : Nat → List Int32) (days : Int32) (k : Nat) (B : pz_Bt) : pz_Rt :=
  pz_if (B 0 0 = 1) (sp_report T k B) (sp_forecast T days k B)
noncomputable def sp_all (T : Nat → List Int32) (days : Int32) (B : pz_Bt) : pz_Rt :=
  pz_if ((sp_head T days 0 B).1 = true) (sp_body T days (sp_head T days 0 B).2.1 (sp_head T days 0 B).2.2) (sp_head T days 0 B)
noncomputable def sp_read (T : Nat → List Int32) (days : Int32) (B : pz_Bt) : pz_Rt :=
  (pz_if ((sp_all T days B).1 = true ∧ (T (sp_all T days B).2.1).length = 0) true false, (sp_all T days B).2)
def sp_start0 (B : pz_Bt) (days : Int32) : pz_Bt := jx_u2 (jx_u2 (jx_u2 (jx_u2 (jx_u2 (jx_u2 (jx_u2 (jx_u2 B 0 0 0) 0 1 days) 0 2 (-1)) 0 3 (-1001)) 0 4 (-1001)) 0 5 (-1001)) 0 10 0) 0 7 0
def sp_start (B : pz_Bt) (days : Int32) : pz_Bt := sp_add (sp_start0 B days) 0
/-- the text kept: its tokens with one blank between -/
def pz_kt : List Int32 → Bool → List Int32 → List Int32
  | [], _, acc => acc
  | x :: r, bb, acc => if x = 32 then pz_kt r true acc else pz_kt r false (if bb = true ∧ acc.length ≠ 0 then acc ++ [32, x] else acc ++ [x])
def pz_can (cs : List Int32) : List Int32 := pz_kt cs false []
section PZW
variable {s0 : jx_St} {cs : List Int32} {src b : Nat} {days : Int32} {s : jx_St} {k : Nat} {B : Nat → Nat → Int32} {lf : Int32} {post : Int32 → jx_St → Prop} {g : Nat} {w : List Int32} {postv : jx_St → Prop}
theorem PS_set0 (h : pz_PS s0 cs src b days s k B lf) (i : Nat) (v : Int32) : pz_PS s0 cs src b days (jx_sI s b i v) k (jx_u2 B 0 i v) lf := PS_set h (rc := 0) i v (by decide)
theorem PS_B0 (h : pz_PS s0 cs src b days s k B lf) (i : Nat) : s.1 b i = B 0 i := PS_B h (rc := 0) i (by decide)
theorem PS_8 (h : pz_PS s0 cs src b days s k B lf) : s.2 b 8 = b + 2 := by rw [h.1]; exact h.2.2.2.2.2.2.2.2.2.2.2.2.1
theorem PS_9 (h : pz_PS s0 cs src b days s k B lf) : s.2 b 9 = b + 3 := by rw [h.1]; exact h.2.2.2.2.2.2.2.2.2.2.2.2.2.1
theorem tX0_addGroup (h : pz_PS s0 cs src b days s k B lf) (hg : g < 9) (hc : B 0 7 = nI g) (hp : ∀ s' : jx_St, pz_PS s0 cs src b days s' k (sp_add B g) lf → postv s') : wX0_addGroup postv b s := by
  have hb := PS_b h
  have hk := ok_g hb hg
  unfold wX0_addGroup
  rw [PS_B0 h 7, hc, PS_8 h, pz_cl (by omega), PS_g0 h hg]
  refine ⟨ok_b hb, fun z => absurd z (nI_ge (b := 9) (by omega) (by omega)), fun _ => ⟨ix_gs hb hg, hk, ?_⟩⟩
  unfold wX1_clear
  refine ⟨hk, fun s1 e1 s2 e2 s3 e3 s4 e4 s5 e5 s6 e6 s7 e7 s8 e8 s9 e9 s10 e10 s11 e11 => hp s11 ?_⟩
  have h1 := PS_setg h 0 0 hg
  rw [← e1] at h1
  have h2 := PS_setg h1 1 0 hg
  rw [← e2] at h2
  have h3 := PS_setg h2 2 (-1) hg
  rw [← e3] at h3
  have h4 := PS_setg h3 3 (-1) hg
  rw [← e4] at h4
  have h5 := PS_setg h4 4 (-1) hg
  rw [← e5] at h5
  have h6 := PS_setg h5 5 (-1) hg
  rw [← e6] at h6
  have h7 := PS_setg h6 6 (-1) hg
  rw [← e7] at h7
  have h8 := PS_setg h7 7 (-1) hg
  rw [← e8] at h8
  have h9 := PS_setg h8 8 (-1) hg
  rw [← e9] at h9
  have h10 := PS_setg h9 9 (-1) hg
  rw [← e10] at h10
  have hv : s10.1 b 7 + 1 = nI (g + 1) := by
    have hne : ¬ (0 : Nat) = 4 + 3 * g := by omega
    rw [PS_B0 h10 7]
    simp only [jx_u2, hne, false_and, if_false]
    rw [hc, nI_1]
  rw [hv] at e11
  have h11 := PS_set0 h10 7 (nI (g + 1))
  rw [← e11] at h11
  have eB : jx_u2 (jx_u2 (jx_u2 (jx_u2 (jx_u2 (jx_u2 (jx_u2 (jx_u2 (jx_u2 (jx_u2 (jx_u2 B (4 + 3 * g) 0 0) (4 + 3 * g) 1 0) (4 + 3 * g) 2 (-1)) (4 + 3 * g) 3 (-1)) (4 + 3 * g) 4 (-1)) (4 + 3 * g) 5 (-1)) (4 + 3 * g) 6 (-1)) (4 + 3 * g) 7 (-1)) (4 + 3 * g) 8 (-1)) (4 + 3 * g) 9 (-1)) 0 7 (nI (g + 1)) = sp_add B g := by
    funext rc i
    by_cases q0 : rc = 0
    · subst q0
      have hne : ¬ (0 : Nat) = 4 + 3 * g := by omega
      by_cases q7 : i = 7
      · subst q7; simp [jx_u2, sp_add]
      · simp [jx_u2, sp_add, hne, q7]
    · by_cases qg : rc = 4 + 3 * g
      · by_cases qi : i < 10
        · have : i = 0 ∨ i = 1 ∨ i = 2 ∨ i = 3 ∨ i = 4 ∨ i = 5 ∨ i = 6 ∨ i = 7 ∨ i = 8 ∨ i = 9 := by omega
          rcases this with rfl | rfl | rfl | rfl | rfl | rfl | rfl | rfl | rfl | rfl <;> simp [jx_u2, sp_add, q0, qg]
        · have n0 : ¬ i = 0 := by omega
          have n1 : ¬ i = 1 := by omega
          have n2 : ¬ i = 2 := by omega
          have n3 : ¬ i = 3 := by omega
          have n4 : ¬ i = 4 := by omega
          have n5 : ¬ i = 5 := by omega
          have n6 : ¬ i = 6 := by omega
          have n7 : ¬ i = 7 := by omega
          have n8 : ¬ i = 8 := by omega
          have n9 : ¬ i = 9 := by omega
          simp only [jx_u2, sp_add, n0, n1, n2, n3, n4, n5, n6, n7, n8, n9, and_false, if_false, qi]
      · simp only [jx_u2, sp_add, q0, qg, false_and, if_false]
  rw [← eB]
  exact h11
theorem sp_add_f {B : pz_Bt} {g i : Nat} (h : 2 ≤ i) (h2 : i < 10) : sp_add B g (4 + 3 * g) i = -1 := by
  have n0 : ¬ (4 + 3 * g = 0 ∧ i = 7) := fun z => by omega
  have n1 : ¬ i < 2 := by omega
  unfold sp_add
  rw [if_neg n0, if_pos ⟨rfl, h2⟩, if_neg n1]
theorem pz_fmB_9 {g : Nat} {B : pz_Bt} {t en : Int32} {i : Nat} (h : 3 < i) : pz_fmB B g t en (4 + 3 * g) i = B (4 + 3 * g) i := by
  have h0 : ¬ i = 0 := by omega
  have h2 : ¬ i = 2 := by omega
  have h3 : ¬ i = 3 := by omega
  simp [pz_fmB, jx_u2, h0, h2, h3]
theorem pz_perB_9 {g : Nat} {B : pz_Bt} {days : Int32} {w : List Int32} {ea : Int32} {i : Nat} (h : 3 < i) : pz_perB B g days w ea (4 + 3 * g) i = B (4 + 3 * g) i := by
  have h2 : ¬ i = 2 := by omega
  have h3 : ¬ i = 3 := by omega
  simp [pz_perB, jx_u2, h2, h3]
theorem sp_prob_9 {T : Nat → List Int32} {k : Nat} {B : pz_Bt} {g i : Nat} (h : 1 < i) : (sp_prob T k B g).2.2 (4 + 3 * g) i = B (4 + 3 * g) i := by
  have h0 : ¬ i = 0 := by omega
  unfold sp_prob
  exact pz_ife (P := fun r : pz_Rt => r.2.2 (4 + 3 * g) i = B (4 + 3 * g) i) (fun _ => by simp [jx_u2, h0]) (fun _ => by simp [jx_u2, h0])
theorem sp_name_9 {T : Nat → List Int32} {k : Nat} {B : pz_Bt} {g i : Nat} (h : 1 < i) : (sp_name T k B g).2.2 (4 + 3 * g) i = B (4 + 3 * g) i := by
  have h0 : ¬ i = 0 := by omega
  have h1 : ¬ i = 1 := by omega
  unfold sp_name
  exact pz_ife (P := fun r : pz_Rt => r.2.2 (4 + 3 * g) i = B (4 + 3 * g) i) (fun _ => by simp [jx_u2, h0]) (fun _ => pz_ife (P := fun r : pz_Rt => r.2.2 (4 + 3 * g) i = B (4 + 3 * g) i) (fun _ => by simp [jx_u2, h0]) (fun _ => pz_ife (P := fun r : pz_Rt => r.2.2 (4 + 3 * g) i = B (4 + 3 * g) i) (fun _ => by rw [sp_prob_9 h]; simp [jx_u2, h1]) (fun _ => pz_ife (P := fun r : pz_Rt => r.2.2 (4 + 3 * g) i = B (4 + 3 * g) i) (fun _ => by rw [sp_prob_9 h]; simp [jx_u2, h1]) (fun _ => rfl))))
theorem tX2_fl : ∀ (r g : Nat) (s : jx_St) (k : Nat) (B : pz_Bt) (lf : Int32), g + r = 9 → 1 ≤ g → pz_PS s0 cs src b days s k B lf → B 0 7 = nI g →
    ((sp_fl (pz_tok cs) days r g k B lf).1 = true → ∀ s' lf', pz_PS s0 cs src b days s' (sp_fl (pz_tok cs) days r g k B lf).2.1 (sp_fl (pz_tok cs) days r g k B lf).2.2 lf' → post 1 s') → ((sp_fl (pz_tok cs) days r g k B lf).1 = false → ∀ s' B' lf', pz_PS s0 cs src b days s' (sp_fl (pz_tok cs) days r g k B lf).2.1 B' lf' → post 0 s') → wX2_takeForecast_l38 post (r + 2) 65 1 (nI g) s := by
  intro r
  induction r with
  | zero =>
    intro g s k B lf hgr hg1 h hc hs hf
    rw [wX2_takeForecast_l38]
    rw [sp_fl] at hs
    exact ⟨fun _ => ⟨Or.inr rfl, hs rfl s lf h⟩, fun z => absurd (nI_le (a := 9) (by omega) (by omega)) z⟩
  | succ r ih =>
    intro g s k B lf hgr hg1 h hc hs hf
    have hb := PS_b h
    have hg : g < 9 := by omega
    have hlen := (PS_T h).2.2.1
    rw [wX2_takeForecast_l38]
    rw [sp_fl] at hs hf
    rw [PS_w h]
    refine ⟨fun z => absurd z (nI_ge (b := 9) (by omega) (by omega)), fun _ => ⟨ok_rd, fun q => ⟨Or.inr rfl, ?_⟩, fun q => ⟨fun z => absurd z (by decide), fun _ => ?_⟩⟩⟩
    · have hz : (pz_tok cs k).length = 0 := by have := pz_lew (b := 0) (by omega) q; omega
      rw [if_pos hz] at hs
      exact hs rfl s lf h
    · have hz : ¬ (pz_tok cs k).length = 0 := fun z => q (by rw [z]; decide)
      rw [if_neg hz] at hs hf
      rw [PS_7 h]
      refine ⟨ok_b hb, tX0_addGroup h hg hc (fun s1 h1 => ?_)⟩
      rw [PS_7 h1, PS_8 h1, pz_cl (by omega), PS_g0 h1 hg]
      refine ⟨ok_b hb, ix_gs hb hg, fun x ex => ?_⟩
      subst ex
      have hfr := pz_fr_change (T := pz_tok cs) (days := days) (k := k) (B := sp_add B g) (g := g) (lf := lf)
      have hc' : (sp_change (pz_tok cs) days k (sp_add B g) g lf).1.2.2 0 7 = nI (g + 1) := by
        rw [hfr 0 7 (by omega) (by omega) (by omega)]; simp [sp_add]
      have good : (sp_change (pz_tok cs) days k (sp_add B g) g lf).1.1 = true → ∀ s' : jx_St, pz_PS s0 cs src b days s' (sp_change (pz_tok cs) days k (sp_add B g) g lf).1.2.1 (sp_change (pz_tok cs) days k (sp_add B g) g lf).1.2.2 (sp_change (pz_tok cs) days k (sp_add B g) g lf).2 → ∀ x : Int32, x = nI g + 1 → wX2_takeForecast_l38 post (r + 2) 65 1 x s' := by
        intro q2 s' h' x hx
        rw [pz_ifp q2] at hs hf
        rw [hx, nI_1]
        exact ih (g + 1) s' _ _ _ (by omega) (by omega) h' hc' hs hf
      have bad : (sp_change (pz_tok cs) days k (sp_add B g) g lf).1.1 = false → ∀ s' B' lf', pz_PS s0 cs src b days s' (sp_change (pz_tok cs) days k (sp_add B g) g lf).1.2.1 B' lf' → ∀ x : Int32, x = nI g + 1 → wX2_takeForecast_l38 post (r + 2) 65 0 x s' := by
        intro q2 s' B' lf' h' x hx
        rw [pz_ifn (by rw [q2]; decide)] at hf
        have hp0 := hf rfl s' B' lf' h'
        rw [wX2_takeForecast_l38]
        exact ⟨fun _ => ⟨Or.inl rfl, hp0⟩, fun _ => ⟨ok_rd, fun _ => ⟨Or.inl rfl, hp0⟩, fun _ => ⟨fun _ => ⟨Or.inl rfl, hp0⟩, fun z => absurd rfl z⟩⟩⟩
      unfold sp_change at good bad
      refine sX2_takeFromTime h1 hg (by omega) (fun e s2 h2 _ => ⟨fun z => absurd z (by decide), fun _ => ?_⟩) (fun e _ => ⟨fun _ => ?_, fun z => absurd rfl z⟩)
      · rw [pz_ifp e] at good bad
        exact tX2_takeWhole h2 hg (by rw [pz_fmB_9 (by omega)]; exact sp_add_f (by omega) (by omega)) (fun q2 s3 h3 _ => good q2 s3 h3) (fun q2 s3 B3 lf3 h3 _ => bad q2 s3 B3 lf3 h3)
      · rw [pz_ifn e] at good bad
        refine tX2_takeChangeName h1 hg (fun e2 s2 h2 _ => ⟨fun z => absurd z (by decide), fun _ => ?_⟩) (fun e2 e3 _ => ⟨fun _ => ?_, fun z => absurd rfl z⟩)
        · rw [pz_ifp e2] at good bad
          unfold sp_cper at good bad
          have n8 : (sp_name (pz_tok cs) k (sp_add B g) g).2.2 (4 + 3 * g) 8 = -1 := by rw [sp_name_9 (by omega)]; exact sp_add_f (by omega) (by omega)
          have n9 : (sp_name (pz_tok cs) k (sp_add B g) g).2.2 (4 + 3 * g) 9 = -1 := by rw [sp_name_9 (by omega)]; exact sp_add_f (by omega) (by omega)
          refine sX2_takeChangePeriod h2 hg (by omega) (fun e4 s3 h3 _ => ⟨fun z => absurd z (by decide), fun _ => ?_⟩) (fun e4 s3 B3 lf3 h3 _ => ⟨fun _ => ?_, fun z => absurd rfl z⟩)
          · rw [pz_ifp e4] at good bad
            exact tX2_takeParts h3 hg (by rw [pz_perB_9 (by omega)]; exact n8) (by rw [pz_perB_9 (by omega)]; exact n9) (fun q2 s4 h4 _ => ⟨fun z => absurd z (by decide), fun _ => good q2 s4 h4⟩) (fun q2 s4 B4 lf4 h4 _ => ⟨fun _ => bad q2 s4 B4 lf4 h4, fun z => absurd rfl z⟩)
          · rw [pz_ifn e4] at bad
            exact bad rfl s3 B3 lf3 h3
        · rw [pz_ifn (by rw [e2]; decide)] at bad
          refine bad e2 s1 _ _ (?_ : pz_PS s0 cs src b days s1 _ (sp_add B g) lf)
          rw [e3]; exact h1
theorem tX2_takeForecast (h : pz_PS s0 cs src b days s k B lf) (hlf : lf = -1) (hc : B 0 7 = nI 1) (h9 : B 4 9 = -1) (hs : (sp_forecast (pz_tok cs) days k B).1 = true → ∀ s' lf', pz_PS s0 cs src b days s' (sp_forecast (pz_tok cs) days k B).2.1 (sp_forecast (pz_tok cs) days k B).2.2 lf' → post 1 s') (hf : (sp_forecast (pz_tok cs) days k B).1 = false → ∀ s' B' lf', pz_PS s0 cs src b days s' (sp_forecast (pz_tok cs) days k B).2.1 B' lf' → post 0 s') : wX2_takeForecast post 65 s := by
  subst hlf
  have hb := PS_b h
  unfold wX2_takeForecast
  unfold sp_forecast at hs hf
  rw [PS_7 h, PS_8 h, show ((0 : Int32).toNatClampNeg) = 0 from rfl, PS_g0 h (g := 0) (by decide)]
  refine ⟨ok_rd, ok_b hb, ix_gs hb (g := 0) (by decide), sX2_takeForecastPeriod h (fun e s1 h1 _ => ⟨fun z => absurd z (by decide), fun _ => ?_⟩) (fun e s1 B1 lf1 h1 _ => ⟨fun _ => ?_, fun z => absurd rfl z⟩)⟩
  · rw [pz_ifp e] at hs hf
    rw [PS_7 h1, PS_8 h1, PS_g0 h1 (g := 0) (by decide)]
    refine ⟨ok_b hb, ix_gs hb (g := 0) (by decide), tX2_takeWhole h1 (g := 0) (by decide) (by rw [pz_perB_9 (by omega)]; exact h9) (fun q s2 h2 _ => ⟨fun _ => ⟨10, ?_⟩, fun z => absurd z (by decide)⟩) (fun q s2 B2 lf2 h2 _ => ⟨fun z => absurd rfl z, fun _ => ?_⟩)⟩
    · rw [pz_ifp q] at hs hf
      refine tX2_fl 8 1 s2 _ _ _ (by omega) (by omega) h2 ?_ hs hf
      rw [pz_fr_whole 0 7 (by omega) (by omega) (by omega), pz_fr_per (g := 0) 0 7 (by omega) (by omega) (by omega)]
      exact hc
    · rw [pz_ifn (by rw [q]; decide)] at hf
      exact hf q s2 B2 lf2 h2
  · rw [pz_ifn e] at hf
    exact hf rfl s1 B1 lf1 h1
theorem tX2_takeReport (h : pz_PS s0 cs src b days s k B lf) (h9 : B 4 9 = -1) (hs : (sp_report (pz_tok cs) k B).1 = true → ∀ s' lf', pz_PS s0 cs src b days s' (sp_report (pz_tok cs) k B).2.1 (sp_report (pz_tok cs) k B).2.2 lf' → post 1 s') (hf : (sp_report (pz_tok cs) k B).1 = false → ∀ s' B' lf', pz_PS s0 cs src b days s' (sp_report (pz_tok cs) k B).2.1 B' lf' → post 0 s') : wX2_takeReport post 65 s := by
  have hb := PS_b h
  unfold wX2_takeReport
  unfold sp_report at hs hf
  rw [PS_7 h, PS_8 h, show ((0 : Int32).toNatClampNeg) = 0 from rfl, PS_g0 h (g := 0) (by decide)]
  refine ⟨ok_rd, ok_b hb, ix_gs hb (g := 0) (by decide), tX2_takeWhole h (g := 0) (by decide) h9 (fun q s1 h1 _ => ⟨fun z => absurd z (by decide), fun _ => ?_⟩) (fun q s1 B1 lf1 h1 _ => ⟨fun _ => ?_, fun z => absurd rfl z⟩)⟩
  · rw [pz_ifp q] at hs hf
    unfold sp_tem at hs hf
    refine sX2_takeTemperatures h1 (fun e s2 h2 _ => ⟨fun z => absurd z (by decide), fun _ => ?_⟩) (fun e s2 B2 lf2 h2 _ => ⟨fun _ => ?_, fun z => absurd rfl z⟩)
    · rw [pz_ifp e] at hs hf
      unfold sp_prs at hs hf
      refine sX2_takePressure h2 (fun e2 s3 h3 _ => ⟨fun z => absurd z (by decide), fun _ => ?_⟩) (fun e2 s3 B3 lf3 h3 _ => ⟨fun _ => ?_, fun z => absurd rfl z⟩)
      · rw [pz_ifp e2] at hs; exact hs rfl s3 _ h3
      · rw [pz_ifn e2] at hf; exact hf rfl s3 _ _ h3
    · rw [pz_ifn e] at hf; exact hf rfl s2 _ _ h2
  · rw [pz_ifn (by rw [q]; decide)] at hf
    exact hf q s1 B1 lf1 h1
theorem tX2_head2 (h : pz_PS s0 cs src b days s k B lf) (hs : (sp_head2 (pz_tok cs) days k B).1 = true → ∀ s' : jx_St, pz_PS s0 cs src b days s' (sp_head2 (pz_tok cs) days k B).2.1 (sp_head2 (pz_tok cs) days k B).2.2 lf → post 1 s') (hf : (sp_head2 (pz_tok cs) days k B).1 = false → ∀ s' B' lf', pz_PS s0 cs src b days s' (sp_head2 (pz_tok cs) days k B).2.1 B' lf' → post 0 s') : wX2_takeHead_b42 post 65 s := by
  unfold wX2_takeHead_b42
  unfold sp_head2 at hs hf
  refine ⟨ok_rd, sX2_takeStation h (fun e s1 h1 _ => ⟨fun z => absurd z (by decide), fun _ => ?_⟩) (fun e s1 B1 lf1 h1 _ => ⟨fun _ => ?_, fun z => absurd rfl z⟩)⟩
  · rw [pz_ifp e] at hs hf
    refine sX2_takeIssue h1 (fun e2 s2 h2 _ => ⟨fun z => absurd z (by decide), fun _ => ?_⟩) (fun e2 s2 B2 lf2 h2 _ => ⟨fun _ => ?_, fun z => absurd rfl z⟩)
    · rw [pz_ifp e2] at hs; exact hs rfl s2 h2
    · rw [pz_ifn e2] at hf; exact hf rfl s2 _ _ h2
  · rw [pz_ifn e] at hf; exact hf rfl s1 _ _ h1
theorem tX2_takeHead (h : pz_PS s0 cs src b days s k B lf) (hs : (sp_head (pz_tok cs) days k B).1 = true → ∀ s' : jx_St, pz_PS s0 cs src b days s' (sp_head (pz_tok cs) days k B).2.1 (sp_head (pz_tok cs) days k B).2.2 lf → post 1 s') (hf : (sp_head (pz_tok cs) days k B).1 = false → ∀ s' B' lf', pz_PS s0 cs src b days s' (sp_head (pz_tok cs) days k B).2.1 B' lf' → post 0 s') : wX2_takeHead post 65 s := by
  have hb := PS_b h
  unfold wX2_takeHead
  unfold sp_head at hs hf
  refine ⟨ok_rd, sX2_takeWord h (by decide) (by decide) (fun e s1 h1 _ => ⟨fun z => absurd z (by decide), fun _ => ?_⟩) (fun e _ => ⟨fun _ => ?_, fun z => absurd rfl z⟩)⟩
  · rw [PS_7 h1]
    refine ⟨ok_b hb, fun s2 e2 => ?_⟩
    have h2 := PS_set0 h1 0 1
    rw [← e2] at h2
    rw [pz_ifp (show pz_tok cs k = W_METAR from e)] at hs hf
    exact tX2_head2 h2 hs hf
  · rw [pz_ifn (show ¬ pz_tok cs k = W_METAR from e)] at hs hf
    refine sX2_takeWord h (by decide) (by decide) (fun e s1 h1 _ => ⟨fun z => absurd z (by decide), fun _ => ?_⟩) (fun e _ => ⟨fun _ => ?_, fun z => absurd rfl z⟩)
    · rw [PS_7 h1]
      refine ⟨ok_b hb, fun s2 e2 => ?_⟩
      have h2 := PS_set0 h1 0 2
      rw [← e2] at h2
      rw [pz_ifp (show pz_tok cs k = W_TAF from e)] at hs hf
      exact tX2_head2 h2 hs hf
    · rw [pz_ifn (show ¬ pz_tok cs k = W_TAF from e)] at hf
      exact hf rfl s _ _ h
end PZW
