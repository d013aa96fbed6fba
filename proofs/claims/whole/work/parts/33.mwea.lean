/-! ===== the reference's weather and clouds ===== -/
theorem pz_pr_q {x y : Int32} : ∀ (n : Nat) (r : List Int32) (j : Nat), r.length ≤ 2 * n → pz_pr x y r j = -1 ∨ ∃ u : Nat, u < j + n ∧ pz_pr x y r j = nI u := by
  intro n
  induction n with
  | zero =>
    intro r j hr
    cases r with
    | nil => exact Or.inl rfl
    | cons _ _ => simp at hr
  | succ n ih =>
    intro r j hr
    match r, hr with
    | [], _ => exact Or.inl rfl
    | [_], _ => exact Or.inl rfl
    | a :: c :: r, hr =>
      simp only [List.length_cons] at hr
      rw [pz_pr]
      have key : pz_pr x y r (j + 1) = -1 ∨ ∃ u : Nat, u < j + (n + 1) ∧ pz_pr x y r (j + 1) = nI u := by
        rcases ih r (j + 1) (by omega) with z | ⟨u, h1, h2⟩
        · exact Or.inl z
        · exact Or.inr ⟨u, by omega, h2⟩
      by_cases q : x = a
      · rw [if_pos q]
        by_cases q2 : y = c
        · rw [if_pos q2]; exact Or.inr ⟨j, by omega, rfl⟩
        · rw [if_neg q2]; exact key
      · rw [if_neg q]; exact key
theorem pz_wl_q {w : List Int32} {fi : Int32} : ∀ (r V p o U : Nat), pz_wl w fi r (nI V) p o (nI U) = -1 ∨ ∃ u : Nat, u ≤ V + U * 20 * 33 ^ r ∧ pz_wl w fi r (nI V) p o (nI U) = nI u := by
  intro r
  induction r with
  | zero =>
    intro V p o U
    rw [pz_wl, pz_wfin]
    by_cases q : (0 < o ∨ fi = 6) ∧ p = w.length
    · rw [if_pos q]; exact Or.inr ⟨V, by omega, rfl⟩
    · rw [if_neg q]; exact Or.inl rfl
  | succ r ih =>
    intro V p o U
    rw [pz_wl]
    have h1 : 1 ≤ 33 ^ r := Nat.one_le_pow _ _ (by decide)
    by_cases q0 : w.length ≤ p
    · rw [if_pos q0, pz_wfin]
      by_cases q : (0 < o ∨ fi = 6) ∧ p = w.length
      · rw [if_pos q]; exact Or.inr ⟨V, by omega, rfl⟩
      · rw [if_neg q]; exact Or.inl rfl
    · rw [if_neg q0]
      by_cases q1 : pz_pair w p pz_OP = -1
      · rw [if_pos q1]; exact Or.inl rfl
      · rw [if_neg q1]
        rcases pz_pr_q (x := pz_ch w p) (y := pz_ch w (p + 1)) 19 pz_OP 0 (by decide) with z | ⟨j, hj, e⟩
        · exact absurd z q1
        · have e2 : pz_pair w p pz_OP = nI j := e
          rw [e2, show (nI V + nI U * (nI j + 1) : Int32) = nI (V + U * (j + 1)) by rw [nI_1, pk_mul, nI_add], show (nI U * 32 : Int32) = nI (U * 32) from pk_mul U 32]
          rcases ih (V + U * (j + 1)) (p + 2) (o + 1) (U * 32) with z | ⟨u, h2, h3⟩
          · exact Or.inl z
          · refine Or.inr ⟨u, Nat.le_trans h2 ?_, h3⟩
            have a1 : U * (j + 1) ≤ U * 20 := Nat.mul_le_mul (Nat.le_refl _) (by omega)
            have a2 : U * 20 ≤ U * 20 * 33 ^ r := Nat.le_mul_of_pos_right _ (by omega)
            have a3 : U * 32 * 20 * 33 ^ r = 32 * (U * 20 * 33 ^ r) := by
              rw [show U * 32 * 20 = 32 * (U * 20) by omega, Nat.mul_assoc]
            have a4 : U * 20 * 33 ^ (r + 1) = 33 * (U * 20 * 33 ^ r) := by
              rw [Nat.pow_succ, ← Nat.mul_assoc, Nat.mul_comm]
            omega
theorem pz_sgn_q (w : List Int32) : ∃ u : Nat, u < 4 ∧ pz_sgn w = nI u := by
  rcases pz_sgn_in w with e | e | e | e
  · exact ⟨0, by omega, e⟩
  · exact ⟨1, by omega, e⟩
  · exact ⟨2, by omega, e⟩
  · exact ⟨3, by omega, e⟩
theorem pz_wno_q (w : List Int32) : pz_wno w = -1 ∨ ∃ u : Nat, u < 100000000 ∧ pz_wno w = nI u := by
  unfold pz_wno
  obtain ⟨s, hs, es⟩ := pz_sgn_q w
  rw [es]
  by_cases q : pz_pair w (pz_at0 w) pz_FP = -1
  · rw [if_pos q]
    rcases pz_wl_q (w := w) (fi := -1) 3 s (pz_at0 w) 0 64 with z | ⟨u, h1, h2⟩
    · exact Or.inl z
    · exact Or.inr ⟨u, by omega, h2⟩
  · rw [if_neg q]
    rcases pz_pr_q (x := pz_ch w (pz_at0 w)) (y := pz_ch w (pz_at0 w + 1)) 8 pz_FP 0 (by decide) with z | ⟨j, hj, e⟩
    · exact absurd z q
    · have e2 : pz_pair w (pz_at0 w) pz_FP = nI j := e
      rw [e2, show (nI s + 4 * (nI j + 1) : Int32) = nI (s + 4 * (j + 1)) by rw [nI_1, show (4 : Int32) = nI 4 from rfl, pk_mul, nI_add]]
      rcases pz_wl_q (w := w) (fi := nI j) 3 (s + 4 * (j + 1)) (pz_at0 w + 2) 0 64 with z | ⟨u, h1, h2⟩
      · exact Or.inl z
      · exact Or.inr ⟨u, by omega, h2⟩
theorem pz_neg {x : Int32} {N : Nat} (hN : N < 2 ^ 31) (h : x = -1 ∨ ∃ u : Nat, u < N ∧ x = nI u) : x < 0 ↔ x = -1 := by
  rcases h with e | ⟨u, hu, e⟩
  · rw [e]; decide
  · rw [e]; exact ⟨fun z => absurd z (nI_pos (by omega)), fun z => absurd z (pz_nm1 (by omega))⟩
theorem pz_wno_neg (w : List Int32) : pz_wno w < 0 ↔ pz_wno w = -1 := pz_neg (N := 100000000) (by decide) (pz_wno_q w)
theorem pz_tr_eq {x y z : Int32} {r : List Int32} {j : Nat} : pz_tr x y z (x :: y :: z :: r) j = nI j := by rw [pz_tr, if_pos rfl, if_pos rfl, if_pos rfl]
theorem pz_tr_ne {x y z a b c : Int32} {r : List Int32} {j : Nat} (h : ¬ (x = a ∧ y = b ∧ z = c)) : pz_tr x y z (a :: b :: c :: r) j = pz_tr x y z r (j + 1) := by
  rw [pz_tr]
  by_cases q : x = a
  · rw [if_pos q]
    by_cases q2 : y = b
    · rw [if_pos q2, if_neg (fun q3 => h ⟨q, q2, q3⟩)]
    · rw [if_neg q2]
  · rw [if_neg q]
abbrev pz_is3 (w : List Int32) (a b c : Int32) : Prop := pz_ch w 0 = a ∧ pz_ch w 1 = b ∧ pz_ch w 2 = c
theorem pz_am1 {w : List Int32} (h : pz_is3 w 70 69 87) : pz_am w = nI 0 := by
  unfold pz_am; rw [h.1, h.2.1, h.2.2]; rfl
theorem pz_am2 {w : List Int32} (h : pz_is3 w 83 67 84) : pz_am w = nI 1 := by
  unfold pz_am; rw [h.1, h.2.1, h.2.2]; decide
theorem pz_am3 {w : List Int32} (h : pz_is3 w 66 75 78) : pz_am w = nI 2 := by
  unfold pz_am; rw [h.1, h.2.1, h.2.2]; decide
theorem pz_am4 {w : List Int32} (h : pz_is3 w 79 86 67) : pz_am w = nI 3 := by
  unfold pz_am; rw [h.1, h.2.1, h.2.2]; decide
theorem pz_am0 {w : List Int32} (h1 : ¬ pz_is3 w 70 69 87) (h2 : ¬ pz_is3 w 83 67 84) (h3 : ¬ pz_is3 w 66 75 78) (h4 : ¬ pz_is3 w 79 86 67) : pz_am w = -1 := by
  show pz_tr _ _ _ [70, 69, 87, 83, 67, 84, 66, 75, 78, 79, 86, 67] 0 = -1
  rw [pz_tr_ne h1, pz_tr_ne h2, pz_tr_ne h3, pz_tr_ne h4]; rfl
theorem pz_am_q (w : List Int32) : pz_am w = -1 ∨ ∃ u : Nat, u < 4 ∧ pz_am w = nI u := by
  by_cases h1 : pz_is3 w 70 69 87
  · exact Or.inr ⟨0, by omega, pz_am1 h1⟩
  · by_cases h2 : pz_is3 w 83 67 84
    · exact Or.inr ⟨1, by omega, pz_am2 h2⟩
    · by_cases h3 : pz_is3 w 66 75 78
      · exact Or.inr ⟨2, by omega, pz_am3 h3⟩
      · by_cases h4 : pz_is3 w 79 86 67
        · exact Or.inr ⟨3, by omega, pz_am4 h4⟩
        · exact Or.inl (pz_am0 h1 h2 h3 h4)
theorem pz_tail_q (w : List Int32) : pz_tail w = 0 ∨ pz_tail w = 1 ∨ pz_tail w = 2 := by
  unfold pz_tail
  by_cases h1 : w.length = 8 ∧ pz_hold w 6 [67, 66] = true
  · rw [if_pos h1]; exact Or.inr (Or.inl rfl)
  · rw [if_neg h1]
    by_cases h2 : w.length = 9 ∧ pz_hold w 6 [84, 67, 85] = true
    · rw [if_pos h2]; exact Or.inr (Or.inr rfl)
    · rw [if_neg h2]; exact Or.inl rfl
/-- a layer's number: amount, height, tail -/
theorem pz_lay_q {cs : List Int32} (hV : pz_V cs) (k : Nat) : pz_lay (pz_tok cs k) = -1 ∨ ∃ a h t : Nat, 1 ≤ a ∧ a ≤ 4 ∧ h < 1000 ∧ t ≤ 2 ∧ pz_lay (pz_tok cs k) = nI (a + 8 * h + 8192 * t) := by
  unfold pz_lay
  by_cases q1 : pz_dig (pz_tok cs k) 3 3 = -1
  · rw [if_pos q1]; exact Or.inl rfl
  · rw [if_neg q1]
    by_cases q2 : ¬ (pz_tok cs k).length = 6 ∧ pz_tail (pz_tok cs k) = 0
    · rw [if_pos q2]; exact Or.inl rfl
    · rw [if_neg q2]
      by_cases q3 : pz_am (pz_tok cs k) = -1
      · rw [if_pos q3]; exact Or.inl rfl
      · rw [if_neg q3]
        rcases pz_am_q (pz_tok cs k) with z | ⟨a, ha, ea⟩
        · exact absurd z q3
        · rcases pz_dig_q hV k 3 3 with z | ⟨h, hh, eh⟩
          · exact absurd z q1
          · have ht : ∃ t : Nat, t ≤ 2 ∧ pz_tail (pz_tok cs k) = nI t := by
              rcases pz_tail_q (pz_tok cs k) with e | e | e
              · exact ⟨0, by omega, e⟩
              · exact ⟨1, by omega, e⟩
              · exact ⟨2, by omega, e⟩
            obtain ⟨t, ht, et⟩ := ht
            refine Or.inr ⟨a + 1, h, t, by omega, by omega, by omega, ht, ?_⟩
            rw [ea, eh, et, nI_1, show (8 : Int32) = nI 8 from rfl, show (8192 : Int32) = nI 8192 from rfl, pk_mul, pk_mul, nI_add, nI_add]
theorem pz_hgt_q {u : Nat} (h : u < 2 ^ 31) : pz_hgt (nI u) = nI (u / 8 % 1024) ∧ (nI u - nI u / 8192 * 8192) / 8 = nI (u / 8 % 1024) := by
  constructor
  · show ((nI u >>> (3 &&& 31)) &&& 1023) = _
    rw [pk_shrN h (3 &&& 31) 3 (by decide), pk_andN (by omega) 10 (by decide)]
  · rw [show (nI u - nI u / 8192 * 8192 : Int32) = nI (u % 8192) from pk_rem (d := 8192) h (by decide) (by decide), show (nI (u % 8192) / 8 : Int32) = nI (u % 8192 / 8) from pk_div (d := 8) (by omega) (by decide) (by decide), show u % 8192 / 8 = u / 8 % 1024 by omega]
theorem pz_lay_hgt {cs : List Int32} (hV : pz_V cs) (k : Nat) (hn : pz_lay (pz_tok cs k) ≠ -1) : (pz_lay (pz_tok cs k) - pz_lay (pz_tok cs k) / 8192 * 8192) / 8 = pz_hgt (pz_lay (pz_tok cs k)) := by
  rcases pz_lay_q hV k with e | ⟨a, h, t, h1, h2, h3, h4, e⟩
  · exact absurd e hn
  · rw [e, (pz_hgt_q (u := a + 8 * h + 8192 * t) (by omega)).1, (pz_hgt_q (u := a + 8 * h + 8192 * t) (by omega)).2]
theorem pz_lay_neg {cs : List Int32} (hV : pz_V cs) (k : Nat) : pz_lay (pz_tok cs k) < 0 ↔ pz_lay (pz_tok cs k) = -1 := by
  refine pz_neg (N := 100000) (by decide) ?_
  rcases pz_lay_q hV k with e | ⟨a, h, t, h1, h2, h3, h4, e⟩
  · exact Or.inl e
  · exact Or.inr ⟨_, by omega, e⟩
section MZQ
variable {m0 : jx_St} {cs : List Int32} {nt : Nat} {days : Int32} {g : Nat} {hd lt : Nat → Int32} {m : jx_St} {k : Nat} {B : pz_Bt} {post : Int32 → jx_St → Prop}
theorem sX4_wl (h : mz_S m0 cs nt days m k) {fi : Int32} : ∀ (r : Nat) (v : Int32) (p o : Nat) (un : Int32), o + r = 3 → p ≤ 4 + 2 * o → ((0 < o ∨ fi = 6) → 0 < p) → post (pz_wl (pz_tok cs k) fi r v p o un) m → wX4_weatherHere_l117 post (r + 1) 0 v (nI p) fi un (nI o) m := by
  have hV := h.2.1
  have hlen := MS_len h k
  have k174 : ∀ (v : Int32) (p o : Nat), p < 1000 → o < 1000 → ((0 < o ∨ fi = 6) → 0 < p) → post (pz_wfin (pz_tok cs k) v p fi o) m → wX4_weatherHere_b174 post 0 v (nI p) fi (nI o) m := by
    intro v p o hp0 ho hz hp
    unfold wX4_weatherHere_b174
    unfold pz_wfin at hp
    refine ⟨ok_m, sX4_size h ⟨fun q => ?_, fun q => sX4_size h ?_⟩⟩
    · rw [if_neg (fun z => q (by rw [z.2]))] at hp; exact hp
    · have e : p = (pz_tok cs k).length := (nI_eq (by omega) (by omega)).mp q
      refine ⟨fun q2 => ?_, fun q2 => ⟨fun q3 => ?_, fun q3 => ⟨fun q4 => ?_, fun q4 => ?_⟩⟩⟩
      · have h0 := pz_lew (b := 0) (by omega) q2
        rw [if_neg (fun z => by have := hz z.1; omega)] at hp; exact hp
      · rw [if_pos ⟨Or.inl ((nI_ltI (a := 0) (by omega) (by omega)).mp q3), e⟩] at hp; exact hp
      · rw [if_neg (fun z => z.1.elim (fun y => q3 (nI_lt (a := 0) y (by omega))) q4)] at hp; exact hp
      · rw [if_pos ⟨Or.inr q4, e⟩] at hp; exact hp
  intro r
  induction r with
  | zero =>
    intro v p o un ho hpo hz hp
    rw [wX4_weatherHere_l117]
    exact ⟨fun _ => k174 v p o (by omega) (by omega) hz hp, fun z => absurd (nI_le (a := 3) (by omega) (by omega)) z⟩
  | succ r ih =>
    intro v p o un ho hpo hz hp
    rw [wX4_weatherHere_l117]
    rw [pz_wl] at hp
    have hneg := pz_neg (N := 0 + 19) (by decide) (pz_pr_q (x := pz_ch (pz_tok cs k) p) (y := pz_ch (pz_tok cs k) (p + 1)) 19 pz_OP 0 (by decide))
    have hneg : pz_pair (pz_tok cs k) p pz_OP < 0 ↔ pz_pair (pz_tok cs k) p pz_OP = -1 := hneg
    refine ⟨fun z => absurd z (nI_ge (b := 3) (by omega) (by omega)), fun _ => ⟨ok_m, sX4_size h ⟨fun q => ?_, fun q => sX4_pair h p rfl (by omega) (sX4_secondKind ?_)⟩⟩⟩
    · rw [if_pos (pz_lew (by omega) q)] at hp; exact k174 v p o (by omega) (by omega) hz hp
    · have hnl : ¬ (pz_tok cs k).length ≤ p := fun z => q (nI_le z (by omega))
      rw [if_neg hnl] at hp
      rw [pz_fk2 hV]
      refine ⟨fun q2 => ?_, fun q2 => sX4_pair h p rfl (by omega) (sX4_secondKind ?_)⟩
      · rw [if_pos (hneg.mp q2)] at hp
        refine k174 v p o (by omega) (by omega) hz ?_
        unfold pz_wfin
        rw [if_neg (fun z => by omega)]
        exact hp
      · rw [if_neg (fun z => q2 (hneg.mpr z))] at hp
        rw [pz_fk2 hV]
        intro x1 e1 x2 e2 x3 e3 x4 e4
        rw [e1, e2, e3, e4, nI_1, show (nI p + 2 : Int32) = nI (p + 2) from nI_add _ 2]
        exact ih _ _ _ _ (by omega) (by omega) (fun _ => by omega) hp
theorem sX4_weatherHere (h : mz_S m0 cs nt days m k) (hp : post (pz_wno (pz_tok cs k)) m) : wX4_weatherHere post 0 m := by
  have hV := h.2.1
  have hat : pz_at0 (pz_tok cs k) ≤ 2 := by unfold pz_at0; split <;> (try split) <;> omega
  have hneg := pz_neg (N := 0 + 8) (by decide) (pz_pr_q (x := pz_ch (pz_tok cs k) (pz_at0 (pz_tok cs k))) (y := pz_ch (pz_tok cs k) (pz_at0 (pz_tok cs k) + 1)) 8 pz_FP 0 (by decide))
  have hneg : pz_pair (pz_tok cs k) (pz_at0 (pz_tok cs k)) pz_FP < 0 ↔ pz_pair (pz_tok cs k) (pz_at0 (pz_tok cs k)) pz_FP = -1 := hneg
  have k72 : ∀ a2 : Int32, a2 = nI (pz_at0 (pz_tok cs k)) → wX4_weatherHere_b72 post 0 (pz_sgn (pz_tok cs k)) a2 m := by
    intro a2 e2
    subst e2
    unfold wX4_weatherHere_b72
    refine ⟨ok_m, sX4_pair h (pz_at0 (pz_tok cs k)) rfl (by omega) (sX4_firstKind ?_)⟩
    rw [pz_fk1 hV]
    unfold pz_wno at hp
    refine ⟨fun q => ?_, fun q => ?_⟩
    · have e := hneg.mp q
      rw [if_pos e] at hp
      unfold wX4_weatherHere_b93
      refine ⟨fun _ => ⟨4, ?_⟩, fun z => absurd q z⟩
      rw [e]
      exact sX4_wl h 3 _ _ 0 _ (by omega) (by omega) (fun z => by rcases z with y | y; omega; exact absurd y (by decide)) hp
    · have e : ¬ pz_pair (pz_tok cs k) (pz_at0 (pz_tok cs k)) pz_FP = -1 := fun z => q (hneg.mpr z)
      rw [if_neg e] at hp
      unfold wX4_weatherHere_b93
      refine ⟨fun z => absurd z q, fun _ x ex => ⟨4, ?_⟩⟩
      rw [ex, show (nI (pz_at0 (pz_tok cs k)) + 2 : Int32) = nI (pz_at0 (pz_tok cs k) + 2) from nI_add _ 2]
      exact sX4_wl h 3 _ _ 0 _ (by omega) (by omega) (fun _ => by omega) hp
  have k53 : ∀ a1 : Int32, a1 = pz_sgn (pz_tok cs k) → wX4_weatherHere_b53 post 0 a1 m := by
    intro a1 e1
    subst e1
    obtain ⟨u, hu, eu⟩ := pz_sgn_q (pz_tok cs k)
    unfold wX4_weatherHere_b53
    refine ⟨fun q => ⟨fun q2 => k72 0 ?_, fun q2 => k72 1 ?_⟩, fun q => k72 2 ?_⟩
    · rw [eu] at q2
      have h0 := pz_lew (b := 0) (by omega) q2
      unfold pz_at0
      rw [if_pos (by rw [eu, show u = 0 by omega]; rfl)]; rfl
    · unfold pz_at0
      rw [if_neg (fun z => q2 (by rw [z]; decide)), if_neg q]; rfl
    · unfold pz_at0
      rw [if_neg (fun z => by rw [z] at q; exact absurd q (by decide)), if_pos q]; rfl
  unfold wX4_weatherHere
  refine ⟨ok_m, sX4_sign h 0 rfl (by omega) ⟨fun q => sX4_sign h 0 rfl (by omega) ⟨fun q2 => sX4_sign h 0 rfl (by omega) ⟨fun q3 => k53 0 ?_, fun q3 => sX4_sign h 1 rfl (by omega) ⟨fun q4 => k53 0 ?_, fun q4 => k53 3 ?_⟩⟩, fun q2 => k53 2 ?_⟩, fun q => k53 1 ?_⟩⟩
  · unfold pz_sgn; rw [if_neg q, if_neg q2, if_neg (fun z => q3 z.1)]
  · unfold pz_sgn; rw [if_neg q, if_neg q2, if_neg (fun z => q4 z.2)]
  · unfold pz_sgn; rw [if_neg q, if_neg q2, if_pos ⟨q3, q4⟩]
  · unfold pz_sgn; rw [if_neg q, if_pos q2]
  · unfold pz_sgn; rw [if_pos q]
theorem MP_16 (h : mz_P m0 cs nt days g hd lt m k B) : m.2 0 16 = 6 ∧ m.2 0 17 = 7 := ⟨h.1.1.2.2.2.2.2.1, h.1.1.2.2.2.2.2.2.1⟩
/-- a write of the weathers or clouds of the group at hand that aren't yet counted; a draft that differs there -/
theorem MP_arr (h : mz_P m0 cs nt days g hd lt m k B) {c i : Nat} {v : Int32} (hc : c = 6 ∧ 3 * g ≤ i ∧ i < 3 * g + 3 ∧ B (4 + 3 * g) 8 ≤ 0 ∨ c = 7 ∧ 4 * g ≤ i ∧ i < 4 * g + 4 ∧ B (4 + 3 * g) 9 ≤ 0) : mz_P m0 cs nt days g hd lt (jx_sI m c i v) k B := by
  obtain ⟨hS, ⟨d1, d2, d3, d4⟩, hh, hl⟩ := h
  have f : ∀ c' i', ¬ (c' = c ∧ i' = i) → (jx_sI m c i v).1 c' i' = m.1 c' i' := fun c' i' hn => by rw [pz_s1, if_neg hn]
  have vac : ∀ {j : Nat} {x : Int32}, j < 4 → nI j < x → ¬ x ≤ 0 := fun {j x} hj h1 h2 => absurd (Int32.lt_of_lt_of_le h1 h2) (nI_pos (by omega))
  refine ⟨MS_set hS v (Or.inr (by omega)), ⟨fun g' f' a1 a2 a3 => by rw [f 5 _ (by omega)]; exact d1 g' f' a1 a2 a3, fun g' f' a1 a2 a3 => by rw [f 5 _ (by omega)]; exact d2 g' f' a1 a2 a3, fun g' j a1 a2 a3 a4 => ?_, fun g' j a1 a2 a3 a4 => ?_⟩, fun i' hi => by rw [f 0 i' (by omega)]; exact hh i' hi, fun i' => by rw [f 4 i' (by omega)]; exact hl i'⟩
  · by_cases q : g' = g
    · subst q
      rcases hc with ⟨z1, z2, z3, z4⟩ | ⟨z1, z2, z3, z4⟩
      · exact absurd z4 (vac (by omega) a4)
      · rw [f 6 _ (by omega)]; exact d3 g' j a1 a2 a3 a4
    · rw [f 6 _ (by omega)]; exact d3 g' j a1 a2 a3 a4
  · by_cases q : g' = g
    · subst q
      rcases hc with ⟨z1, z2, z3, z4⟩ | ⟨z1, z2, z3, z4⟩
      · rw [f 7 _ (by omega)]; exact d4 g' j a1 a2 a3 a4
      · exact absurd z4 (vac a3 a4)
    · rw [f 7 _ (by omega)]; exact d4 g' j a1 a2 a3 a4
theorem MP_alt (h : mz_P m0 cs nt days g hd lt m k B) {B1 : pz_Bt} (hB : ∀ rc i, rc ≠ 5 + 3 * g ∨ 0 < B (4 + 3 * g) 8 → rc ≠ 6 + 3 * g ∨ 0 < B (4 + 3 * g) 9 → B1 rc i = B rc i) : mz_P m0 cs nt days g hd lt m k B1 := by
  obtain ⟨hS, ⟨d1, d2, d3, d4⟩, hh, hl⟩ := h
  have pos : ∀ {j : Nat} {x : Int32}, j < 4 → nI j < x → 0 < x := fun {j x} hj h1 => Int32.lt_of_le_of_lt (nI_pos' (by omega)) h1
  have e4 : ∀ g' f', B1 (4 + 3 * g') f' = B (4 + 3 * g') f' := fun g' f' => hB _ _ (Or.inl (by omega)) (Or.inl (by omega))
  refine ⟨hS, ⟨fun g' f' a1 a2 a3 => by rw [e4]; exact d1 g' f' a1 a2 a3, d2, fun g' j a1 a2 a3 a4 => ?_, fun g' j a1 a2 a3 a4 => ?_⟩, hh, hl⟩
  · rw [e4] at a4
    rw [hB (5 + 3 * g') j ?_ (Or.inl (by omega))]
    · exact d3 g' j a1 a2 a3 a4
    · by_cases q : g' = g
      · subst q; exact Or.inr (pos (by omega) a4)
      · exact Or.inl (by omega)
  · rw [e4] at a4
    rw [hB (6 + 3 * g') j (Or.inl (by omega)) ?_]
    · exact d4 g' j a1 a2 a3 a4
    · by_cases q : g' = g
      · subst q; exact Or.inr (pos a3 a4)
      · exact Or.inl (by omega)
end MZQ
