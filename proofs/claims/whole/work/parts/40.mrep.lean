/-! ===== the reference: report and forecast as the text is read ===== -/
/-- what is told of the text, whole -/
def mz_K (m : jx_St) (B : pz_Bt) : Prop := (∃ gm, gm < 9 ∧ B 0 7 = nI (gm + 1) ∧ mz_D m gm B) ∧ m.1 0 6 = B 0 0 ∧ m.1 0 7 = B 0 7 ∧ m.1 0 9 = B 0 2 ∧ (B 0 0 = 1 → m.1 0 11 = B 0 3 ∧ m.1 0 12 = B 0 4 ∧ m.1 0 13 = B 0 5) ∧ ∀ j, j < 4 → m.1 4 j = B 1 j
def sp_b2 (T : Nat → List Int32) (days : Int32) (B : pz_Bt) (v : Int32) : pz_Bt := jx_u2 (pz_staB (jx_u2 B 0 0 v) (T 1) 4) 0 2 (pz_time days (T 2) 0)
theorem sp_b2_o {T : Nat → List Int32} {days : Int32} {B : pz_Bt} {v : Int32} : ∀ rc i, 4 ≤ rc → sp_b2 T days B v rc i = B rc i := fun rc i h => by
  have h0 : ¬ rc = 0 := by omega
  have h1 : ¬ rc = 1 := by omega
  simp [sp_b2, jx_u2, pz_staB, h0, h1]
theorem sp_head_v {T : Nat → List Int32} {days : Int32} {B : pz_Bt} {v : Int32} (hv : (T 0 = W_METAR ∧ v = 1) ∨ (T 0 = W_TAF ∧ v = 2)) : sp_head T days 0 B = sp_head2 T days 1 (jx_u2 B 0 0 v) := by
  unfold sp_head
  rcases hv with ⟨e, rfl⟩ | ⟨e, rfl⟩
  · rw [pz_ifp e]
  · have n : ¬ T 0 = W_METAR := by rw [e]; decide
    rw [pz_ifn n, pz_ifp e]
theorem sp_all_n1 {T : Nat → List Int32} {days : Int32} {B : pz_Bt} {v : Int32} (hv : (T 0 = W_METAR ∧ v = 1) ∨ (T 0 = W_TAF ∧ v = 2)) (h : ¬ pz_sta (T 1)) : sp_all T days B = (false, 1, jx_u2 B 0 0 v) := by
  unfold sp_all
  rw [sp_head_v hv]
  unfold sp_head2
  rw [pz_ifn h, pz_ifn Bool.false_ne_true]
theorem sp_all_n2 {T : Nat → List Int32} {days : Int32} {B : pz_Bt} {v : Int32} (hv : (T 0 = W_METAR ∧ v = 1) ∨ (T 0 = W_TAF ∧ v = 2)) (h1 : pz_sta (T 1)) (h : ¬ pz_iss days (T 2)) : sp_all T days B = (false, 2, jx_u2 B 0 0 v) := by
  unfold sp_all
  rw [sp_head_v hv]
  unfold sp_head2
  rw [pz_ifp h1, pz_ifn h, pz_ifn Bool.false_ne_true]
theorem sp_all_y {T : Nat → List Int32} {days : Int32} {B : pz_Bt} {v : Int32} (hv : (T 0 = W_METAR ∧ v = 1) ∨ (T 0 = W_TAF ∧ v = 2)) (h1 : pz_sta (T 1)) (h : pz_iss days (T 2)) : sp_all T days B = sp_body T days 3 (sp_b2 T days B v) := by
  unfold sp_all
  rw [sp_head_v hv]
  unfold sp_head2
  rw [pz_ifp h1, pz_ifp h, pz_ifp rfl]
  rfl
theorem sp_all_no {T : Nat → List Int32} {days : Int32} {B : pz_Bt} (h1 : ¬ T 0 = W_METAR) (h2 : ¬ T 0 = W_TAF) : sp_all T days B = (false, 0, B) := by
  unfold sp_all sp_head
  rw [pz_ifn h1, pz_ifn h2, pz_ifn Bool.false_ne_true]
/-- the day of issue, and whether a period's day is before it -/
theorem pz_ea {cs : List Int32} (hV : pz_V cs) (k : Nat) (days : Int32) (hi : pz_time days (pz_tok cs 2) 0 ≠ -1) (hw : pz_per days (pz_tok cs k)) : pz_dig (pz_tok cs 2) 0 2 ≤ pz_dig (pz_tok cs k) 0 2 ↔ pz_ed (pz_time days (pz_tok cs 2) 0) ≤ pz_hour days (pz_tok cs k) 0 23 := by
  have ti := (pz_time_iff hV 2 0 days).mp hi
  obtain ⟨D, H, a1, a2, a3, a4, a5, a6⟩ := pz_hour_v hV 2 0 days 23 ti.1
  have tm := pz_time_m hV 2 0 days ti
  have pi := (pz_hour_iff hV k 0 days 23).mp hw.2.2.1
  obtain ⟨d, h, c1, c2, c3, c4, c5, c6⟩ := pz_hour_v hV k 0 days 23 pi
  have H23 : H ≤ 23 := by
    have := ti.1.2.2
    rw [a5] at this
    exact pz_lew (by omega) (Int32.not_lt.mp this)
  have h23 : h ≤ 23 := by
    have := pi.2.2
    rw [c5] at this
    exact pz_lew (by omega) (Int32.not_lt.mp this)
  obtain ⟨M, hM, eM⟩ : ∃ M : Nat, M ≤ 59 ∧ pz_dig (pz_tok cs 2) 4 2 = nI M := by
    rcases pz_dig2 hV 2 4 with e | ⟨u, hu, e⟩
    · exact absurd (by rw [show (0 : Nat) + 4 = 4 from rfl, e]; decide) ti.2.1
    · have := ti.2.2
      rw [show (0 : Nat) + 4 = 4 from rfl, e] at this
      exact ⟨u, pz_lew (by omega) (Int32.not_lt.mp this), e⟩
  have et : pz_time days (pz_tok cs 2) 0 = nI (1440 * (D - 1) + 60 * H + M) := by
    rw [← tm, pz_hour_m hV 2 0 days 23 ti.1, a6, show (0 : Nat) + 4 = 4 from rfl, eM, nI_add]
  rw [et, a4, c4, c6, nI_leI (by omega) (by omega)]
  unfold pz_ed
  rw [show (nI (1440 * (D - 1) + 60 * H + M) - nI (1440 * (D - 1) + 60 * H + M) / 1440 * 1440 : Int32) = nI ((1440 * (D - 1) + 60 * H + M) % 1440) from pk_rem (d := 1440) (by omega) (by decide) (by decide), pk_sub (by omega), nI_leI (by omega) (by omega)]
  omega
/-- the groups' loop writes groups and their number alone -/
theorem pz_fr_fl {T : Nat → List Int32} {days : Int32} : ∀ (r g k : Nat) (B : pz_Bt) (lf : Int32) (rc i : Nat), rc < 2 → ¬ (rc = 0 ∧ i = 7) → (sp_fl T days r g k B lf).2.2 rc i = B rc i := by
  intro r
  induction r with
  | zero => intro g k B lf rc i _ _; unfold sp_fl; rfl
  | succ r ih =>
    intro g k B lf rc i hr hi
    have ha : (sp_change T days k (sp_add B g) g lf).1.2.2 rc i = B rc i := by
      rw [pz_fr_change rc i (by omega) (by omega) (by omega)]
      unfold sp_add
      rw [if_neg hi, if_neg (fun z => by omega)]
    unfold sp_fl
    by_cases q : (T k).length = 0
    · rw [if_pos q]
    · rw [if_neg q]
      exact pz_ife (P := fun r : pz_Rt => r.2.2 rc i = B rc i) (fun _ => by rw [ih _ _ _ _ rc i hr hi]; exact ha) (fun _ => ha)
section MZX
variable {m0 : jx_St} {cs : List Int32} {nt : Nat} {days : Int32} {g : Nat} {hd lt : Nat → Int32} {m : jx_St} {k : Nat} {B : pz_Bt} {post : Int32 → jx_St → Prop} {lf : Int32}
theorem sX4_stis {C : jx_St → Prop} (h : mz_P m0 cs nt days g hd lt m k B) (hs : pz_sta (pz_tok cs k) → pz_iss days (pz_tok cs (k + 1)) → ∀ (hd' : Nat → Int32) (m' : jx_St), hd' 9 = pz_time days (pz_tok cs (k + 1)) 0 → hd' 10 = pz_dig (pz_tok cs (k + 1)) 0 2 → (∀ i, i ≠ 9 → i ≠ 10 → hd' i = hd i) → mz_P m0 cs nt days g hd' (fun j => if j < 4 then pz_ch (pz_tok cs k) j else lt j) m' (k + 1 + 1) B → C m')
    (hf0 : ¬ pz_sta (pz_tok cs k) → ∀ m' : jx_St, mz_S m0 cs nt days m' k → post 0 m') (hf1 : pz_sta (pz_tok cs k) → ¬ pz_iss days (pz_tok cs (k + 1)) → ∀ m' : jx_St, mz_S m0 cs nt days m' (k + 1) → post 0 m') :
    wX4_station (fun r3 s4 => r3 = 0 ∨ r3 = 1 → (((r3 = 0) → post 0 s4) ∧ ((¬ r3 = 0) → (wX4_issued (fun r7 s8 => r7 = 0 ∨ r7 = 1 → (((r7 = 0) → post 0 s8) ∧ ((¬ r7 = 0) → C s8))) 0 s4)))) 0 m := by
  refine sX4_station h (fun q m1 h1 _ => ⟨fun z => absurd z (by decide), fun _ => ?_⟩) (fun q m1 h1 _ => ⟨fun _ => hf0 q m1 h1, fun z => absurd rfl z⟩)
  exact sX4_issued h1 (fun q2 hd' m2 e9 e10 eo h2 _ => ⟨fun z => absurd z (by decide), fun _ => hs q q2 hd' m2 e9 e10 eo h2⟩) (fun q2 m2 h2 _ => ⟨fun _ => hf1 q q2 m2 h2, fun z => absurd rfl z⟩)
theorem sX4_whole {C : jx_St → Prop} (h : mz_P m0 cs nt days 0 hd lt m k B) (h8 : B 4 8 = -1) (h9 : B 4 9 = -1) (hs : (sp_whole (pz_tok cs) k B 0).1 = true → ∀ m' : jx_St, mz_P m0 cs nt days 0 hd lt m' (sp_whole (pz_tok cs) k B 0).2.1 (sp_whole (pz_tok cs) k B 0).2.2 → C m') (hf : (sp_whole (pz_tok cs) k B 0).1 = false → ∀ m' : jx_St, mz_S m0 cs nt days m' (sp_whole (pz_tok cs) k B 0).2.1 → post 0 m') :
    wX4_wind (fun r11 s12 => r11 = 0 ∨ r11 = 1 → (((r11 = 0) → post 0 s12) ∧ ((¬ r11 = 0) → (wX4_sky (fun r15 s16 => r15 = 0 ∨ r15 = 1 → (((r15 = 0) → post 0 s16) ∧ ((¬ r15 = 0) → C s16))) 0 0 s12)))) 0 0 m := by
  unfold sp_whole at hs hf
  refine sX4_wind (g := 0) h (by decide) (fun q m1 h1 _ => ⟨fun z => absurd z (by decide), fun _ => ?_⟩) (fun q _ => ⟨fun _ => ?_, fun z => absurd rfl z⟩)
  · rw [pz_ifp q] at hs hf
    exact sX4_sky (g := 0) h1 (by decide) (by rw [pz_wndB_9 (by omega)]; exact h8) (by rw [pz_wndB_9 (by omega)]; exact h9) (fun q2 m2 h2 _ => ⟨fun z => absurd z (by decide), fun _ => hs q2 m2 h2⟩) (fun q2 m2 h2 _ => ⟨fun _ => hf q2 m2 h2, fun z => absurd rfl z⟩)
  · rw [pz_ifn q] at hf
    exact hf rfl m h.1
theorem sX4_wholeF {C : jx_St → Prop} (h : mz_P m0 cs nt days 0 hd lt m k B) (h8 : B 4 8 = -1) (h9 : B 4 9 = -1) (hs : (sp_whole (pz_tok cs) k B 0).1 = true → ∀ m' : jx_St, mz_P m0 cs nt days 0 hd lt m' (sp_whole (pz_tok cs) k B 0).2.1 (sp_whole (pz_tok cs) k B 0).2.2 → C m') (hf : (sp_whole (pz_tok cs) k B 0).1 = false → ∀ m' : jx_St, mz_S m0 cs nt days m' (sp_whole (pz_tok cs) k B 0).2.1 → post 0 m') :
    wX4_wind (fun r11 s12 => r11 = 0 ∨ r11 = 1 → (((r11 = 0) → post 0 s12) ∧ ((¬ r11 = 0) → (wX4_sky (fun r15 s16 => r15 = 0 ∨ r15 = 1 → (((¬ r15 = 0) → C s16) ∧ ((r15 = 0) → post 0 s16))) 0 0 s12)))) 0 0 m := by
  unfold sp_whole at hs hf
  refine sX4_wind (g := 0) h (by decide) (fun q m1 h1 _ => ⟨fun z => absurd z (by decide), fun _ => ?_⟩) (fun q _ => ⟨fun _ => ?_, fun z => absurd rfl z⟩)
  · rw [pz_ifp q] at hs hf
    exact sX4_sky (g := 0) h1 (by decide) (by rw [pz_wndB_9 (by omega)]; exact h8) (by rw [pz_wndB_9 (by omega)]; exact h9) (fun q2 m2 h2 _ => ⟨fun _ => hs q2 m2 h2, fun z => absurd z (by decide)⟩) (fun q2 m2 h2 _ => ⟨fun z => absurd rfl z, fun _ => hf q2 m2 h2⟩)
  · rw [pz_ifn q] at hf
    exact hf rfl m h.1
theorem sX4_report (h : mz_P m0 cs nt days 0 hd lt m 1 B) (h8 : B 4 8 = -1) (h9 : B 4 9 = -1) (h7 : hd 7 = nI 1) (hB7 : B 0 7 = nI 1) (hT : pz_tok cs 0 = W_METAR) {R : pz_Rt} (hR : sp_all (pz_tok cs) days B = R) (hs : R.1 = true → (pz_tok cs R.2.1).length = 0 → ∀ m' : jx_St, mz_S m0 cs nt days m' R.2.1 → mz_K m' R.2.2 → post 1 m') (hf : ¬ (R.1 = true ∧ (pz_tok cs R.2.1).length = 0) → ∀ m' : jx_St, mz_S m0 cs nt days m' R.2.1 → post 0 m') : wX4_report post 0 m := by
  have hv : (pz_tok cs 0 = W_METAR ∧ (1 : Int32) = 1) ∨ (pz_tok cs 0 = W_TAF ∧ (1 : Int32) = 2) := Or.inl ⟨hT, rfl⟩
  have hno : ∀ b : Nat × pz_Bt, ¬ ((false, b).1 = true ∧ (pz_tok cs (false, b).2.1).length = 0) := fun b z => absurd z.1 Bool.false_ne_true
  unfold wX4_report
  refine ⟨ok_m, fun m1 e1 => ?_⟩
  have h1 := MP_hd h (i := 6) 1 (Or.inl rfl)
  rw [← e1] at h1
  refine sX4_stis h1 (fun q1 q2 hd2 m2 e9 e10 eo h2 => ?_) (fun q m2 h2 => ?_) (fun q1 q2 m2 h2 => ?_)
  · rw [sp_all_y hv q1 q2] at hR
    have h2' := MP_c0 h2 (sp_b2_o (T := pz_tok cs) (days := days) (v := 1))
    have b0 : sp_b2 (pz_tok cs) days B 1 0 0 = 1 := by simp [sp_b2, jx_u2, pz_staB]
    have b07 : sp_b2 (pz_tok cs) days B 1 0 7 = nI 1 := by simp [sp_b2, jx_u2, pz_staB, hB7]
    have b02 : sp_b2 (pz_tok cs) days B 1 0 2 = pz_time days (pz_tok cs 2) 0 := by simp [sp_b2, jx_u2]
    have b1 : ∀ j, j < 4 → sp_b2 (pz_tok cs) days B 1 1 j = pz_ch (pz_tok cs 1) j := fun j hj => by simp [sp_b2, jx_u2, pz_staB, hj]
    unfold sp_body at hR
    rw [pz_ifp b0] at hR
    unfold sp_report at hR
    refine sX4_whole h2' (by rw [sp_b2_o 4 8 (by decide)]; exact h8) (by rw [sp_b2_o 4 9 (by decide)]; exact h9) (fun q3 m3 h3 => ?_) (fun q3 m3 h3 => ?_)
    · rw [pz_ifp q3] at hR
      unfold sp_tem sp_prs at hR
      have fr : ∀ i, (sp_whole (pz_tok cs) 3 (sp_b2 (pz_tok cs) days B 1) 0).2.2 0 i = sp_b2 (pz_tok cs) days B 1 0 i := fun i => pz_fr_whole 0 i (by decide) (by decide) (by decide)
      have fr1 : ∀ i, (sp_whole (pz_tok cs) 3 (sp_b2 (pz_tok cs) days B 1) 0).2.2 1 i = sp_b2 (pz_tok cs) days B 1 1 i := fun i => pz_fr_whole 1 i (by decide) (by decide) (by decide)
      have h3' : mz_P m0 cs nt days 0 hd2 (fun j => if j < 4 then pz_ch (pz_tok cs 1) j else lt j) m3 (sp_whole (pz_tok cs) 3 (sp_b2 (pz_tok cs) days B 1) 0).2.1 (sp_whole (pz_tok cs) 3 (sp_b2 (pz_tok cs) days B 1) 0).2.2 := h3
      generalize sp_whole (pz_tok cs) 3 (sp_b2 (pz_tok cs) days B 1) 0 = Wr at hR h3' fr fr1
      refine sX4_ends h3' (fun t1 t2 t3 hd4 m4 e11 e12 e13 eo4 h4 _ => ⟨fun z => absurd z (by decide), fun _ => ?_⟩) (fun t1 m4 h4 _ => ⟨fun _ => ?_, fun z => absurd rfl z⟩) (fun t1 t2 m4 h4 _ => ⟨fun _ => ?_, fun z => absurd rfl z⟩) (fun t1 t2 t3 m4 h4 _ => ⟨fun _ => ?_, fun z => absurd rfl z⟩)
      · rw [pz_ifp t1, pz_ifp t2] at hR
        subst hR
        refine hs rfl t3 m4 h4.1 ⟨⟨0, by decide, ?_, ?_⟩, ?_, ?_, ?_, fun _ => ⟨?_, ?_, ?_⟩, fun j hj => ?_⟩
        · show jx_u2 (jx_u2 (jx_u2 Wr.2.2 0 3 (pz_deg (pz_tok cs Wr.2.1) 0)) 0 4 (pz_deg (pz_tok cs Wr.2.1) (pz_cut (pz_tok cs Wr.2.1) + 1))) 0 5 (pz_dig (pz_tok cs (Wr.2.1 + 1)) 1 4) 0 7 = nI (0 + 1)
          simp [jx_u2]
          rw [fr 7]; exact b07
        · exact (MP_c0 h4 (fun rc i hr => by
            have n : ¬ rc = 0 := by omega
            simp [jx_u2, n])).2.1
        · show m4.1 0 6 = jx_u2 (jx_u2 (jx_u2 Wr.2.2 0 3 (pz_deg (pz_tok cs Wr.2.1) 0)) 0 4 (pz_deg (pz_tok cs Wr.2.1) (pz_cut (pz_tok cs Wr.2.1) + 1))) 0 5 (pz_dig (pz_tok cs (Wr.2.1 + 1)) 1 4) 0 0
          simp [jx_u2]
          rw [h4.2.2.1 6 (by decide), eo4 6 (by decide), eo 6 (by decide) (by decide), fr 0, b0]
          rfl
        · show m4.1 0 7 = jx_u2 (jx_u2 (jx_u2 Wr.2.2 0 3 (pz_deg (pz_tok cs Wr.2.1) 0)) 0 4 (pz_deg (pz_tok cs Wr.2.1) (pz_cut (pz_tok cs Wr.2.1) + 1))) 0 5 (pz_dig (pz_tok cs (Wr.2.1 + 1)) 1 4) 0 7
          simp [jx_u2]
          rw [h4.2.2.1 7 (by decide), eo4 7 (by decide), eo 7 (by decide) (by decide), fr 7, b07]
          exact h7
        · show m4.1 0 9 = jx_u2 (jx_u2 (jx_u2 Wr.2.2 0 3 (pz_deg (pz_tok cs Wr.2.1) 0)) 0 4 (pz_deg (pz_tok cs Wr.2.1) (pz_cut (pz_tok cs Wr.2.1) + 1))) 0 5 (pz_dig (pz_tok cs (Wr.2.1 + 1)) 1 4) 0 2
          simp [jx_u2]
          rw [h4.2.2.1 9 (by decide), eo4 9 (by decide), e9, fr 2, b02]
        · show m4.1 0 11 = jx_u2 (jx_u2 (jx_u2 Wr.2.2 0 3 (pz_deg (pz_tok cs Wr.2.1) 0)) 0 4 (pz_deg (pz_tok cs Wr.2.1) (pz_cut (pz_tok cs Wr.2.1) + 1))) 0 5 (pz_dig (pz_tok cs (Wr.2.1 + 1)) 1 4) 0 3
          simp [jx_u2]
          rw [h4.2.2.1 11 (by decide), e11]
        · show m4.1 0 12 = jx_u2 (jx_u2 (jx_u2 Wr.2.2 0 3 (pz_deg (pz_tok cs Wr.2.1) 0)) 0 4 (pz_deg (pz_tok cs Wr.2.1) (pz_cut (pz_tok cs Wr.2.1) + 1))) 0 5 (pz_dig (pz_tok cs (Wr.2.1 + 1)) 1 4) 0 4
          simp [jx_u2]
          rw [h4.2.2.1 12 (by decide), e12]
        · show m4.1 0 13 = jx_u2 (jx_u2 (jx_u2 Wr.2.2 0 3 (pz_deg (pz_tok cs Wr.2.1) 0)) 0 4 (pz_deg (pz_tok cs Wr.2.1) (pz_cut (pz_tok cs Wr.2.1) + 1))) 0 5 (pz_dig (pz_tok cs (Wr.2.1 + 1)) 1 4) 0 5
          simp [jx_u2]
          rw [h4.2.2.1 13 (by decide), e13]
        · show m4.1 4 j = jx_u2 (jx_u2 (jx_u2 Wr.2.2 0 3 (pz_deg (pz_tok cs Wr.2.1) 0)) 0 4 (pz_deg (pz_tok cs Wr.2.1) (pz_cut (pz_tok cs Wr.2.1) + 1))) 0 5 (pz_dig (pz_tok cs (Wr.2.1 + 1)) 1 4) 1 j
          simp [jx_u2]
          rw [h4.2.2.2 j, fr1 j, b1 j hj]; exact if_pos hj
      · rw [pz_ifn t1] at hR
        subst hR
        exact hf (hno _) m4 h4
      · rw [pz_ifp t1, pz_ifn t2] at hR
        subst hR
        exact hf (hno _) m4 h4
      · rw [pz_ifp t1, pz_ifp t2] at hR
        subst hR
        exact hf (fun z => t3 z.2) m4 h4
    · have n : ¬ (sp_whole (pz_tok cs) 3 (sp_b2 (pz_tok cs) days B 1) 0).1 = true := fun z => by
        have q4 : (sp_whole (pz_tok cs) 3 (sp_b2 (pz_tok cs) days B 1) 0).1 = false := q3
        rw [q4] at z; exact absurd z (by decide)
      rw [pz_ifn n] at hR
      subst hR
      exact hf (fun z => n z.1) m3 h3
  · rw [sp_all_n1 hv q] at hR
    subst hR
    exact hf (hno _) m2 h2
  · rw [sp_all_n2 hv q1 q2] at hR
    subst hR
    exact hf (hno _) m2 h2
theorem sX4_forecast (h : mz_P m0 cs nt days 0 hd lt m 1 B) (h8 : B 4 8 = -1) (h9 : B 4 9 = -1) (h7 : hd 7 = nI 1) (hB7 : B 0 7 = nI 1) (hT : pz_tok cs 0 = W_TAF) {R : pz_Rt} (hR : sp_all (pz_tok cs) days B = R) (hs : R.1 = true → (pz_tok cs R.2.1).length = 0 → ∀ m' : jx_St, mz_S m0 cs nt days m' R.2.1 → mz_K m' R.2.2 → post 1 m') (hf : ¬ (R.1 = true ∧ (pz_tok cs R.2.1).length = 0) → ∀ m' : jx_St, mz_S m0 cs nt days m' R.2.1 → post 0 m') : wX4_forecast post 0 m := by
  have hV := h.1.2.1
  have hv : (pz_tok cs 0 = W_METAR ∧ (2 : Int32) = 1) ∨ (pz_tok cs 0 = W_TAF ∧ (2 : Int32) = 2) := Or.inr ⟨hT, rfl⟩
  have hno : ∀ b : Nat × pz_Bt, ¬ ((false, b).1 = true ∧ (pz_tok cs (false, b).2.1).length = 0) := fun b z => absurd z.1 Bool.false_ne_true
  unfold wX4_forecast
  refine ⟨ok_m, fun m1 e1 => ?_⟩
  have h1 := MP_hd h (i := 6) 2 (Or.inl rfl)
  rw [← e1] at h1
  refine sX4_stis h1 (fun q1 q2 hd2 m2 e9 e10 eo h2 => ?_) (fun q m2 h2 => ?_) (fun q1 q2 m2 h2 => ?_)
  · rw [sp_all_y hv q1 q2] at hR
    have h2' := MP_c0 h2 (sp_b2_o (T := pz_tok cs) (days := days) (v := 2))
    have b0 : sp_b2 (pz_tok cs) days B 2 0 0 = 2 := by simp [sp_b2, jx_u2, pz_staB]
    have b0' : ¬ sp_b2 (pz_tok cs) days B 2 0 0 = 1 := by rw [b0]; decide
    have b07 : sp_b2 (pz_tok cs) days B 2 0 7 = nI 1 := by simp [sp_b2, jx_u2, pz_staB, hB7]
    have b02 : sp_b2 (pz_tok cs) days B 2 0 2 = pz_time days (pz_tok cs 2) 0 := by simp [sp_b2, jx_u2]
    have b1 : ∀ j, j < 4 → sp_b2 (pz_tok cs) days B 2 1 j = pz_ch (pz_tok cs 1) j := fun j hj => by simp [sp_b2, jx_u2, pz_staB, hj]
    have b8 : sp_b2 (pz_tok cs) days B 2 4 8 = -1 := by rw [sp_b2_o 4 8 (by decide)]; exact h8
    have b9 : sp_b2 (pz_tok cs) days B 2 4 9 = -1 := by rw [sp_b2_o 4 9 (by decide)]; exact h9
    unfold sp_body at hR
    rw [pz_ifn b0'] at hR
    unfold sp_forecast at hR
    rw [b02] at hR
    generalize sp_b2 (pz_tok cs) days B 2 = B2 at *
    refine sX4_period (g := 0) (ea := pz_ed (pz_time days (pz_tok cs 2) 0)) h2' (by decide) (fun _ hw => by rw [e10]; exact pz_ea hV 3 days q2.2.2 hw) (fun z => absurd rfl z) (fun qp m3 h3 _ => ⟨fun z => absurd z (by decide), fun _ => ?_⟩) (fun qp m3 h3 _ => ⟨fun _ => ?_, fun z => absurd rfl z⟩)
    · have fpo : pz_fpo days (pz_tok cs 3) (pz_ed (pz_time days (pz_tok cs 2) 0)) := ⟨qp.1, qp.2.1, qp.2.2.1 rfl⟩
      rw [pz_ifp fpo] at hR
      have h3' : mz_P m0 cs nt days 0 hd2 (fun j => if j < 4 then pz_ch (pz_tok cs 1) j else lt j) m3 4 (pz_perB B2 0 days (pz_tok cs 3) (pz_ed (pz_time days (pz_tok cs 2) 0))) := h3
      refine sX4_wholeF h3' (by rw [show (4 : Nat) = 4 + 3 * 0 from rfl, pz_perB_9 (by omega)]; exact b8) (by rw [show (4 : Nat) = 4 + 3 * 0 from rfl, pz_perB_9 (by omega)]; exact b9) (fun q3 m4 h4 => ?_) (fun q3 m4 h4 => ?_)
      · rw [pz_ifp q3] at hR
        have fr : ∀ rc i, rc < 2 → (sp_whole (pz_tok cs) 4 (pz_perB B2 0 days (pz_tok cs 3) (pz_ed (pz_time days (pz_tok cs 2) 0))) 0).2.2 rc i = B2 rc i := fun rc i hr => (pz_fr_tr pz_fr_per pz_fr_whole) rc i (by omega) (by omega) (by omega)
        have hR' : sp_fl (pz_tok cs) days 8 1 (sp_whole (pz_tok cs) 4 (pz_perB B2 0 days (pz_tok cs 3) (pz_ed (pz_time days (pz_tok cs 2) 0))) 0).2.1 (sp_whole (pz_tok cs) 4 (pz_perB B2 0 days (pz_tok cs 3) (pz_ed (pz_time days (pz_tok cs 2) 0))) 0).2.2 (-1) = R := hR
        clear hR
        generalize sp_whole (pz_tok cs) 4 (pz_perB B2 0 days (pz_tok cs 3) (pz_ed (pz_time days (pz_tok cs 2) 0))) 0 = Wr at hR' h4 fr
        have frR : ∀ rc i, rc < 2 → ¬ (rc = 0 ∧ i = 7) → R.2.2 rc i = B2 rc i := fun rc i hr hi => by
          rw [← hR', pz_fr_fl 8 1 _ _ _ rc i hr hi]; exact fr rc i hr
        refine ⟨9, sX4_fl hd2 R (fun t1 t2 m5 g' hd5 gl gu eB7 e7 eo5 h5 => ?_) (fun t m5 h5 => hf t m5 h5) 8 1 m4 _ _ (-1) hd2 rfl (by decide) h4 (by rw [eo 7 (by decide) (by decide)]; exact h7) (by rw [fr 0 7 (by decide)]; exact b07) (fun i hi => rfl) hR'⟩
        refine hs t1 t2 m5 h5.1 ⟨⟨g' - 1, by omega, by rw [show g' - 1 + 1 = g' by omega]; exact eB7, h5.2.1⟩, ?_, ?_, ?_, fun z => ?_, fun j hj => ?_⟩
        · rw [h5.2.2.1 6 (by decide), eo5 6 (by decide), eo 6 (by decide) (by decide), frR 0 0 (by decide) (by decide), b0]
          rfl
        · rw [h5.2.2.1 7 (by decide), e7, eB7]
        · rw [h5.2.2.1 9 (by decide), eo5 9 (by decide), e9, frR 0 2 (by decide) (by decide), b02]
        · rw [frR 0 0 (by decide) (by decide)] at z
          exact absurd z b0'
        · rw [h5.2.2.2 j, frR 1 j (by decide) (by omega), b1 j hj]; exact if_pos hj
      · have n : ¬ (sp_whole (pz_tok cs) 4 (pz_perB B2 0 days (pz_tok cs 3) (pz_ed (pz_time days (pz_tok cs 2) 0))) 0).1 = true := fun z => by
          rw [q3] at z; exact absurd z (by decide)
        have hR' := hR
        rw [pz_ifn n] at hR'
        subst hR'
        exact hf (fun z => n z.1) m4 h4
    · have fpo : ¬ pz_fpo days (pz_tok cs 3) (pz_ed (pz_time days (pz_tok cs 2) 0)) := fun z => qp ⟨z.1, z.2.1, fun _ => z.2.2, fun y => absurd rfl y⟩
      rw [pz_ifn fpo] at hR
      subst hR
      exact hf (hno _) m3 h3
  · rw [sp_all_n1 hv q] at hR
    subst hR
    exact hf (hno _) m2 h2
  · rw [sp_all_n2 hv q1 q2] at hR
    subst hR
    exact hf (hno _) m2 h2
end MZX
