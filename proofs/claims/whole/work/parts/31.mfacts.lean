/-! ===== tables of pairs, words as longs, ranges of digits ===== -/
def fk_1 (v : Int32) : Int32 := if v = 16963 then 1 else if v = 16972 then 4 else if v = 17490 then 3 else if v = 18010 then 7 else if v = 19785 then 0 else if v = 20562 then 2 else if v = 21320 then 5 else if v = 21587 then 6 else -1
def fk_3 (v : Int32) : Int32 := if v = 17491 then 18 else if v = 17493 then 11 else if v = 17987 then 16 else if v = 18522 then 13 else if v = 20559 then 14 else if v = 21313 then 12 else if v = 21329 then 15 else if v = 21331 then 17 else if v = 22081 then 10 else -1
def fk_2 (v : Int32) : Int32 := if v = 16978 then 7 else if v = 17498 then 0 else if v = 17991 then 8 else if v = 18005 then 9 else if v = 18258 then 5 else if v = 18259 then 6 else if v = 20556 then 4 else if v = 21057 then 1 else if v = 21319 then 3 else if v = 21326 then 2 else fk_3 v
theorem sX4_firstKind {post : Int32 → jx_St → Prop} {m : jx_St} {v : Int32} (hp : post (fk_1 v) m) : wX4_firstKind post v m := by
  unfold wX4_firstKind
  unfold fk_1 at hp
  refine ⟨?_, ?_, ?_, ?_, ?_, ?_, ?_, ?_, ?_⟩
  · intro q; subst q; exact hp
  · intro q; subst q; exact hp
  · intro q; subst q; exact hp
  · intro q; subst q; exact hp
  · intro q; subst q; exact hp
  · intro q; subst q; exact hp
  · intro q; subst q; exact hp
  · intro q; subst q; exact hp
  · intro q0 q1 q2 q3 q4 q5 q6 q7
    rw [if_neg q0, if_neg q1, if_neg q2, if_neg q3, if_neg q4, if_neg q5, if_neg q6, if_neg q7] at hp
    exact hp
theorem sX4_thirdKind {post : Int32 → jx_St → Prop} {m : jx_St} {v : Int32} (hp : post (fk_3 v) m) : wX4_thirdKind post v m := by
  unfold wX4_thirdKind
  unfold fk_3 at hp
  refine ⟨?_, ?_, ?_, ?_, ?_, ?_, ?_, ?_, ?_, ?_⟩
  · intro q; subst q; exact hp
  · intro q; subst q; exact hp
  · intro q; subst q; exact hp
  · intro q; subst q; exact hp
  · intro q; subst q; exact hp
  · intro q; subst q; exact hp
  · intro q; subst q; exact hp
  · intro q; subst q; exact hp
  · intro q; subst q; exact hp
  · intro q0 q1 q2 q3 q4 q5 q6 q7 q8
    rw [if_neg q0, if_neg q1, if_neg q2, if_neg q3, if_neg q4, if_neg q5, if_neg q6, if_neg q7, if_neg q8] at hp
    exact hp
theorem sX4_secondKind {post : Int32 → jx_St → Prop} {m : jx_St} {v : Int32} (hp : post (fk_2 v) m) : wX4_secondKind post v m := by
  unfold wX4_secondKind
  unfold fk_2 at hp
  refine ⟨?_, ?_, ?_, ?_, ?_, ?_, ?_, ?_, ?_, ?_, ?_⟩
  · intro q; subst q; exact hp
  · intro q; subst q; exact hp
  · intro q; subst q; exact hp
  · intro q; subst q; exact hp
  · intro q; subst q; exact hp
  · intro q; subst q; exact hp
  · intro q; subst q; exact hp
  · intro q; subst q; exact hp
  · intro q; subst q; exact hp
  · intro q; subst q; exact hp
  · intro q0 q1 q2 q3 q4 q5 q6 q7 q8 q9
    rw [if_neg q0, if_neg q1, if_neg q2, if_neg q3, if_neg q4, if_neg q5, if_neg q6, if_neg q7, if_neg q8, if_neg q9] at hp
    exact sX4_thirdKind hp
theorem pz_256 {a c L x y : Nat} (hc : c < 256) (hL : L = 256 * x + y) (hy : y < 256) (hn : ¬ (a = x ∧ c = y)) : ¬ 256 * a + c = L := fun z => hn ⟨by omega, by omega⟩
theorem pz_256b {a c : Nat} (ha : a < 127) (hc : c < 127) : 256 * a + c < 2 ^ 31 := by omega
theorem pz_pr_ne {x y a b : Int32} {r : List Int32} {j : Nat} (h : ¬ (x = a ∧ y = b)) : pz_pr x y (a :: b :: r) j = pz_pr x y r (j + 1) := by
  rw [pz_pr]
  by_cases q : x = a
  · rw [if_pos q, if_neg (fun z => h ⟨q, z⟩)]
  · rw [if_neg q]
theorem fk_1_eq : ∀ a, a < 127 → ∀ c, c < 127 → fk_1 ((256 * nI a) + nI c) = pz_pr (nI a) (nI c) pz_FP 0 := by
  intro a ha c hc
  by_cases h0 : a = 77 ∧ c = 73
  · obtain ⟨rfl, rfl⟩ := h0; decide
  by_cases h1 : a = 66 ∧ c = 67
  · obtain ⟨rfl, rfl⟩ := h1; decide
  by_cases h2 : a = 80 ∧ c = 82
  · obtain ⟨rfl, rfl⟩ := h2; decide
  by_cases h3 : a = 68 ∧ c = 82
  · obtain ⟨rfl, rfl⟩ := h3; decide
  by_cases h4 : a = 66 ∧ c = 76
  · obtain ⟨rfl, rfl⟩ := h4; decide
  by_cases h5 : a = 83 ∧ c = 72
  · obtain ⟨rfl, rfl⟩ := h5; decide
  by_cases h6 : a = 84 ∧ c = 83
  · obtain ⟨rfl, rfl⟩ := h6; decide
  by_cases h7 : a = 70 ∧ c = 90
  · obtain ⟨rfl, rfl⟩ := h7; decide
  have e : ((256 * nI a) + nI c : Int32) = nI (256 * a + c) := by rw [show (256 : Int32) = nI 256 from rfl, pk_mul, nI_add]
  have nq : ∀ L : Nat, L < 2 ^ 31 → ¬ 256 * a + c = L → ¬ nI (256 * a + c) = nI L := fun L hL hn z => hn ((nI_eq (pz_256b ha hc) hL).mp z)
  have np : ∀ x y : Nat, x < 256 → y < 256 → ¬ (a = x ∧ c = y) → ¬ (nI a = nI x ∧ nI c = nI y) := fun x y hx hy hn z => hn ⟨(nI_eq (Nat.lt_trans ha (by decide)) (Nat.lt_trans hx (by decide))).mp z.1, (nI_eq (Nat.lt_trans hc (by decide)) (Nat.lt_trans hy (by decide))).mp z.2⟩
  rw [e]
  unfold fk_1
  rw [if_neg (show ¬ nI (256 * a + c) = (16963 : Int32) from nq 16963 (by decide) (pz_256 (x := 66) (y := 67) (Nat.lt_trans hc (by decide)) rfl (by decide) h1))]
  rw [if_neg (show ¬ nI (256 * a + c) = (16972 : Int32) from nq 16972 (by decide) (pz_256 (x := 66) (y := 76) (Nat.lt_trans hc (by decide)) rfl (by decide) h4))]
  rw [if_neg (show ¬ nI (256 * a + c) = (17490 : Int32) from nq 17490 (by decide) (pz_256 (x := 68) (y := 82) (Nat.lt_trans hc (by decide)) rfl (by decide) h3))]
  rw [if_neg (show ¬ nI (256 * a + c) = (18010 : Int32) from nq 18010 (by decide) (pz_256 (x := 70) (y := 90) (Nat.lt_trans hc (by decide)) rfl (by decide) h7))]
  rw [if_neg (show ¬ nI (256 * a + c) = (19785 : Int32) from nq 19785 (by decide) (pz_256 (x := 77) (y := 73) (Nat.lt_trans hc (by decide)) rfl (by decide) h0))]
  rw [if_neg (show ¬ nI (256 * a + c) = (20562 : Int32) from nq 20562 (by decide) (pz_256 (x := 80) (y := 82) (Nat.lt_trans hc (by decide)) rfl (by decide) h2))]
  rw [if_neg (show ¬ nI (256 * a + c) = (21320 : Int32) from nq 21320 (by decide) (pz_256 (x := 83) (y := 72) (Nat.lt_trans hc (by decide)) rfl (by decide) h5))]
  rw [if_neg (show ¬ nI (256 * a + c) = (21587 : Int32) from nq 21587 (by decide) (pz_256 (x := 84) (y := 83) (Nat.lt_trans hc (by decide)) rfl (by decide) h6))]
  symm
  show pz_pr (nI a) (nI c) [77, 73, 66, 67, 80, 82, 68, 82, 66, 76, 83, 72, 84, 83, 70, 90] 0 = -1
  rw [pz_pr_ne (show ¬ (nI a = (77 : Int32) ∧ nI c = (73 : Int32)) from np 77 73 (by decide) (by decide) h0)]
  rw [pz_pr_ne (show ¬ (nI a = (66 : Int32) ∧ nI c = (67 : Int32)) from np 66 67 (by decide) (by decide) h1)]
  rw [pz_pr_ne (show ¬ (nI a = (80 : Int32) ∧ nI c = (82 : Int32)) from np 80 82 (by decide) (by decide) h2)]
  rw [pz_pr_ne (show ¬ (nI a = (68 : Int32) ∧ nI c = (82 : Int32)) from np 68 82 (by decide) (by decide) h3)]
  rw [pz_pr_ne (show ¬ (nI a = (66 : Int32) ∧ nI c = (76 : Int32)) from np 66 76 (by decide) (by decide) h4)]
  rw [pz_pr_ne (show ¬ (nI a = (83 : Int32) ∧ nI c = (72 : Int32)) from np 83 72 (by decide) (by decide) h5)]
  rw [pz_pr_ne (show ¬ (nI a = (84 : Int32) ∧ nI c = (83 : Int32)) from np 84 83 (by decide) (by decide) h6)]
  rw [pz_pr_ne (show ¬ (nI a = (70 : Int32) ∧ nI c = (90 : Int32)) from np 70 90 (by decide) (by decide) h7)]
  rfl
theorem fk_2_eq : ∀ a, a < 127 → ∀ c, c < 127 → fk_2 ((256 * nI a) + nI c) = pz_pr (nI a) (nI c) pz_OP 0 := by
  intro a ha c hc
  by_cases h0 : a = 68 ∧ c = 90
  · obtain ⟨rfl, rfl⟩ := h0; decide
  by_cases h1 : a = 82 ∧ c = 65
  · obtain ⟨rfl, rfl⟩ := h1; decide
  by_cases h2 : a = 83 ∧ c = 78
  · obtain ⟨rfl, rfl⟩ := h2; decide
  by_cases h3 : a = 83 ∧ c = 71
  · obtain ⟨rfl, rfl⟩ := h3; decide
  by_cases h4 : a = 80 ∧ c = 76
  · obtain ⟨rfl, rfl⟩ := h4; decide
  by_cases h5 : a = 71 ∧ c = 82
  · obtain ⟨rfl, rfl⟩ := h5; decide
  by_cases h6 : a = 71 ∧ c = 83
  · obtain ⟨rfl, rfl⟩ := h6; decide
  by_cases h7 : a = 66 ∧ c = 82
  · obtain ⟨rfl, rfl⟩ := h7; decide
  by_cases h8 : a = 70 ∧ c = 71
  · obtain ⟨rfl, rfl⟩ := h8; decide
  by_cases h9 : a = 70 ∧ c = 85
  · obtain ⟨rfl, rfl⟩ := h9; decide
  by_cases h10 : a = 86 ∧ c = 65
  · obtain ⟨rfl, rfl⟩ := h10; decide
  by_cases h11 : a = 68 ∧ c = 85
  · obtain ⟨rfl, rfl⟩ := h11; decide
  by_cases h12 : a = 83 ∧ c = 65
  · obtain ⟨rfl, rfl⟩ := h12; decide
  by_cases h13 : a = 72 ∧ c = 90
  · obtain ⟨rfl, rfl⟩ := h13; decide
  by_cases h14 : a = 80 ∧ c = 79
  · obtain ⟨rfl, rfl⟩ := h14; decide
  by_cases h15 : a = 83 ∧ c = 81
  · obtain ⟨rfl, rfl⟩ := h15; decide
  by_cases h16 : a = 70 ∧ c = 67
  · obtain ⟨rfl, rfl⟩ := h16; decide
  by_cases h17 : a = 83 ∧ c = 83
  · obtain ⟨rfl, rfl⟩ := h17; decide
  by_cases h18 : a = 68 ∧ c = 83
  · obtain ⟨rfl, rfl⟩ := h18; decide
  have e : ((256 * nI a) + nI c : Int32) = nI (256 * a + c) := by rw [show (256 : Int32) = nI 256 from rfl, pk_mul, nI_add]
  have nq : ∀ L : Nat, L < 2 ^ 31 → ¬ 256 * a + c = L → ¬ nI (256 * a + c) = nI L := fun L hL hn z => hn ((nI_eq (pz_256b ha hc) hL).mp z)
  have np : ∀ x y : Nat, x < 256 → y < 256 → ¬ (a = x ∧ c = y) → ¬ (nI a = nI x ∧ nI c = nI y) := fun x y hx hy hn z => hn ⟨(nI_eq (Nat.lt_trans ha (by decide)) (Nat.lt_trans hx (by decide))).mp z.1, (nI_eq (Nat.lt_trans hc (by decide)) (Nat.lt_trans hy (by decide))).mp z.2⟩
  rw [e]
  unfold fk_2
  rw [if_neg (show ¬ nI (256 * a + c) = (16978 : Int32) from nq 16978 (by decide) (pz_256 (x := 66) (y := 82) (Nat.lt_trans hc (by decide)) rfl (by decide) h7))]
  rw [if_neg (show ¬ nI (256 * a + c) = (17498 : Int32) from nq 17498 (by decide) (pz_256 (x := 68) (y := 90) (Nat.lt_trans hc (by decide)) rfl (by decide) h0))]
  rw [if_neg (show ¬ nI (256 * a + c) = (17991 : Int32) from nq 17991 (by decide) (pz_256 (x := 70) (y := 71) (Nat.lt_trans hc (by decide)) rfl (by decide) h8))]
  rw [if_neg (show ¬ nI (256 * a + c) = (18005 : Int32) from nq 18005 (by decide) (pz_256 (x := 70) (y := 85) (Nat.lt_trans hc (by decide)) rfl (by decide) h9))]
  rw [if_neg (show ¬ nI (256 * a + c) = (18258 : Int32) from nq 18258 (by decide) (pz_256 (x := 71) (y := 82) (Nat.lt_trans hc (by decide)) rfl (by decide) h5))]
  rw [if_neg (show ¬ nI (256 * a + c) = (18259 : Int32) from nq 18259 (by decide) (pz_256 (x := 71) (y := 83) (Nat.lt_trans hc (by decide)) rfl (by decide) h6))]
  rw [if_neg (show ¬ nI (256 * a + c) = (20556 : Int32) from nq 20556 (by decide) (pz_256 (x := 80) (y := 76) (Nat.lt_trans hc (by decide)) rfl (by decide) h4))]
  rw [if_neg (show ¬ nI (256 * a + c) = (21057 : Int32) from nq 21057 (by decide) (pz_256 (x := 82) (y := 65) (Nat.lt_trans hc (by decide)) rfl (by decide) h1))]
  rw [if_neg (show ¬ nI (256 * a + c) = (21319 : Int32) from nq 21319 (by decide) (pz_256 (x := 83) (y := 71) (Nat.lt_trans hc (by decide)) rfl (by decide) h3))]
  rw [if_neg (show ¬ nI (256 * a + c) = (21326 : Int32) from nq 21326 (by decide) (pz_256 (x := 83) (y := 78) (Nat.lt_trans hc (by decide)) rfl (by decide) h2))]
  unfold fk_3
  rw [if_neg (show ¬ nI (256 * a + c) = (17491 : Int32) from nq 17491 (by decide) (pz_256 (x := 68) (y := 83) (Nat.lt_trans hc (by decide)) rfl (by decide) h18))]
  rw [if_neg (show ¬ nI (256 * a + c) = (17493 : Int32) from nq 17493 (by decide) (pz_256 (x := 68) (y := 85) (Nat.lt_trans hc (by decide)) rfl (by decide) h11))]
  rw [if_neg (show ¬ nI (256 * a + c) = (17987 : Int32) from nq 17987 (by decide) (pz_256 (x := 70) (y := 67) (Nat.lt_trans hc (by decide)) rfl (by decide) h16))]
  rw [if_neg (show ¬ nI (256 * a + c) = (18522 : Int32) from nq 18522 (by decide) (pz_256 (x := 72) (y := 90) (Nat.lt_trans hc (by decide)) rfl (by decide) h13))]
  rw [if_neg (show ¬ nI (256 * a + c) = (20559 : Int32) from nq 20559 (by decide) (pz_256 (x := 80) (y := 79) (Nat.lt_trans hc (by decide)) rfl (by decide) h14))]
  rw [if_neg (show ¬ nI (256 * a + c) = (21313 : Int32) from nq 21313 (by decide) (pz_256 (x := 83) (y := 65) (Nat.lt_trans hc (by decide)) rfl (by decide) h12))]
  rw [if_neg (show ¬ nI (256 * a + c) = (21329 : Int32) from nq 21329 (by decide) (pz_256 (x := 83) (y := 81) (Nat.lt_trans hc (by decide)) rfl (by decide) h15))]
  rw [if_neg (show ¬ nI (256 * a + c) = (21331 : Int32) from nq 21331 (by decide) (pz_256 (x := 83) (y := 83) (Nat.lt_trans hc (by decide)) rfl (by decide) h17))]
  rw [if_neg (show ¬ nI (256 * a + c) = (22081 : Int32) from nq 22081 (by decide) (pz_256 (x := 86) (y := 65) (Nat.lt_trans hc (by decide)) rfl (by decide) h10))]
  symm
  show pz_pr (nI a) (nI c) [68, 90, 82, 65, 83, 78, 83, 71, 80, 76, 71, 82, 71, 83, 66, 82, 70, 71, 70, 85, 86, 65, 68, 85, 83, 65, 72, 90, 80, 79, 83, 81, 70, 67, 83, 83, 68, 83] 0 = -1
  rw [pz_pr_ne (show ¬ (nI a = (68 : Int32) ∧ nI c = (90 : Int32)) from np 68 90 (by decide) (by decide) h0)]
  rw [pz_pr_ne (show ¬ (nI a = (82 : Int32) ∧ nI c = (65 : Int32)) from np 82 65 (by decide) (by decide) h1)]
  rw [pz_pr_ne (show ¬ (nI a = (83 : Int32) ∧ nI c = (78 : Int32)) from np 83 78 (by decide) (by decide) h2)]
  rw [pz_pr_ne (show ¬ (nI a = (83 : Int32) ∧ nI c = (71 : Int32)) from np 83 71 (by decide) (by decide) h3)]
  rw [pz_pr_ne (show ¬ (nI a = (80 : Int32) ∧ nI c = (76 : Int32)) from np 80 76 (by decide) (by decide) h4)]
  rw [pz_pr_ne (show ¬ (nI a = (71 : Int32) ∧ nI c = (82 : Int32)) from np 71 82 (by decide) (by decide) h5)]
  rw [pz_pr_ne (show ¬ (nI a = (71 : Int32) ∧ nI c = (83 : Int32)) from np 71 83 (by decide) (by decide) h6)]
  rw [pz_pr_ne (show ¬ (nI a = (66 : Int32) ∧ nI c = (82 : Int32)) from np 66 82 (by decide) (by decide) h7)]
  rw [pz_pr_ne (show ¬ (nI a = (70 : Int32) ∧ nI c = (71 : Int32)) from np 70 71 (by decide) (by decide) h8)]
  rw [pz_pr_ne (show ¬ (nI a = (70 : Int32) ∧ nI c = (85 : Int32)) from np 70 85 (by decide) (by decide) h9)]
  rw [pz_pr_ne (show ¬ (nI a = (86 : Int32) ∧ nI c = (65 : Int32)) from np 86 65 (by decide) (by decide) h10)]
  rw [pz_pr_ne (show ¬ (nI a = (68 : Int32) ∧ nI c = (85 : Int32)) from np 68 85 (by decide) (by decide) h11)]
  rw [pz_pr_ne (show ¬ (nI a = (83 : Int32) ∧ nI c = (65 : Int32)) from np 83 65 (by decide) (by decide) h12)]
  rw [pz_pr_ne (show ¬ (nI a = (72 : Int32) ∧ nI c = (90 : Int32)) from np 72 90 (by decide) (by decide) h13)]
  rw [pz_pr_ne (show ¬ (nI a = (80 : Int32) ∧ nI c = (79 : Int32)) from np 80 79 (by decide) (by decide) h14)]
  rw [pz_pr_ne (show ¬ (nI a = (83 : Int32) ∧ nI c = (81 : Int32)) from np 83 81 (by decide) (by decide) h15)]
  rw [pz_pr_ne (show ¬ (nI a = (70 : Int32) ∧ nI c = (67 : Int32)) from np 70 67 (by decide) (by decide) h16)]
  rw [pz_pr_ne (show ¬ (nI a = (83 : Int32) ∧ nI c = (83 : Int32)) from np 83 83 (by decide) (by decide) h17)]
  rw [pz_pr_ne (show ¬ (nI a = (68 : Int32) ∧ nI c = (83 : Int32)) from np 68 83 (by decide) (by decide) h18)]
  rfl
theorem pz_q {x : Int32} (h : (32 : Int32) ≤ x ∧ x ≤ 126) : ∃ q : Nat, 32 ≤ q ∧ q < 127 ∧ x = nI q := by
  obtain ⟨j, hj, rfl⟩ := nI_of2 (M := 126) (n := 126) (by decide) (x := x) (by
    intro h0
    have h1 := Int32.lt_of_lt_of_le h0 (Int32.le_trans (show (0 : Int32) ≤ 32 by decide) h.1)
    exact absurd h1 (Int32.lt_irrefl)) h.2
  have h32 : 32 ≤ j := pz_lew (a := 32) (by omega) h.1
  exact ⟨j, h32, by omega, rfl⟩
/-- the chars of a token are numbers from 33 to 126 -/
theorem pz_tok_q {cs : List Int32} (hV : pz_V cs) (k : Nat) : ∀ x ∈ pz_tok cs k, ∃ q : Nat, 33 ≤ q ∧ q < 127 ∧ x = nI q := by
  intro x hx
  have hm : x ∈ cs := (pz_sx_suf cs k).subset ((List.takeWhile_prefix _).subset hx)
  obtain ⟨q, h1, h2, rfl⟩ := pz_q (hV.2 x hm)
  have hn : pz_nb (nI q) = true := by
    unfold pz_tok at hx
    exact List.all_eq_true.mp (List.all_takeWhile (p := pz_nb)) _ hx
  have hne : ¬ q = 32 := by
    intro e
    subst e
    exact absurd hn (by decide)
  exact ⟨q, by omega, h2, rfl⟩
theorem pz_ch_q {cs : List Int32} (hV : pz_V cs) (k i : Nat) : ∃ q : Nat, q < 127 ∧ pz_ch (pz_tok cs k) i = nI q := by
  by_cases h : i < (pz_tok cs k).length
  · have hm : pz_ch (pz_tok cs k) i ∈ pz_tok cs k := by
      simp only [pz_ch, List.getD, List.getElem?_eq_getElem h, Option.getD_some]
      exact List.getElem_mem _
    obtain ⟨q, _, h2, e⟩ := pz_tok_q hV k _ hm
    exact ⟨q, h2, e⟩
  · refine ⟨0, by omega, ?_⟩
    have h' : (pz_tok cs k).length ≤ i := by omega
    simp [pz_ch, h']
    rfl
theorem pz_fk1 {cs : List Int32} (hV : pz_V cs) (k f : Nat) : fk_1 ((256 * pz_ch (pz_tok cs k) f) + pz_ch (pz_tok cs k) (f + 1)) = pz_pair (pz_tok cs k) f pz_FP := by
  obtain ⟨a, ha, ea⟩ := pz_ch_q hV k f
  obtain ⟨c, hc, ec⟩ := pz_ch_q hV k (f + 1)
  unfold pz_pair
  rw [ea, ec]
  exact fk_1_eq a ha c hc
theorem pz_fk2 {cs : List Int32} (hV : pz_V cs) (k f : Nat) : fk_2 ((256 * pz_ch (pz_tok cs k) f) + pz_ch (pz_tok cs k) (f + 1)) = pz_pair (pz_tok cs k) f pz_OP := by
  obtain ⟨a, ha, ea⟩ := pz_ch_q hV k f
  obtain ⟨c, hc, ec⟩ := pz_ch_q hV k (f + 1)
  unfold pz_pair
  rw [ea, ec]
  exact fk_2_eq a ha c hc
/-- two chars as one number -/
theorem pz_2c {cs : List Int32} (hV : pz_V cs) (k f : Nat) {L x y : Nat} (hL : L = 256 * x + y) (hx : x < 256) (hy : y < 256) : ((256 * pz_ch (pz_tok cs k) f) + pz_ch (pz_tok cs k) (f + 1)) = nI L ↔ (pz_ch (pz_tok cs k) f = nI x ∧ pz_ch (pz_tok cs k) (f + 1) = nI y) := by
  obtain ⟨a, ha, ea⟩ := pz_ch_q hV k f
  obtain ⟨c, hc, ec⟩ := pz_ch_q hV k (f + 1)
  rw [ea, ec, show (256 : Int32) = nI 256 from rfl, pk_mul, nI_add, nI_eq (by omega) (by omega), nI_eq (by omega) (by omega), nI_eq (by omega) (by omega)]
  omega
def pz_vl : List Nat → Nat
  | [] => 0
  | q :: r => pz_vl r * 256 + q
theorem pz_vl_inj : ∀ (l l' : List Nat), (∀ q ∈ l, 1 ≤ q ∧ q < 256) → (∀ q ∈ l', 1 ≤ q ∧ q < 256) → pz_vl l = pz_vl l' → l = l' := by
  intro l
  induction l with
  | nil =>
    intro l' h h' e
    cases l' with
    | nil => rfl
    | cons q r =>
      have := h' q List.mem_cons_self
      simp only [pz_vl] at e
      omega
  | cons q r ih =>
    intro l' h h' e
    cases l' with
    | nil =>
      have := h q List.mem_cons_self
      simp only [pz_vl] at e
      omega
    | cons q' r' =>
      have h1 := h q List.mem_cons_self
      have h2 := h' q' List.mem_cons_self
      simp only [pz_vl] at e
      have e1 : q = q' := by omega
      have e2 : pz_vl r = pz_vl r' := by omega
      rw [e1, ih r' (fun x hx => h x (List.mem_cons_of_mem _ hx)) (fun x hx => h' x (List.mem_cons_of_mem _ hx)) e2]
theorem pz_vl_lt : ∀ (l : List Nat), (∀ q ∈ l, 1 ≤ q ∧ q < 256) → pz_vl l < 256 ^ l.length := by
  intro l
  induction l with
  | nil => intro _; decide
  | cons q r ih =>
    intro h
    have h1 := h q List.mem_cons_self
    have h2 := ih (fun x hx => h x (List.mem_cons_of_mem _ hx))
    simp only [pz_vl, List.length_cons, Nat.pow_succ]
    omega
theorem pz_pk_N : ∀ (l r : List Nat), (∀ q ∈ l, 1 ≤ q ∧ q < 256) → (∀ q ∈ r, 1 ≤ q ∧ q < 256) → l.length + r.length ≤ 8 → pz_pk (l.map nI) (lN (pz_vl r)) = lN (pz_vl (l.reverse ++ r)) := by
  intro l
  induction l with
  | nil => intro r _ _ _; rfl
  | cons q l ih =>
    intro r h1 h2 h3
    have hq := h1 q List.mem_cons_self
    have hr := pz_vl_lt r h2
    have hlen : r.length ≤ 7 := by simp at h3; omega
    have hb : pz_vl r < 256 ^ 7 := Nat.lt_of_lt_of_le hr (Nat.pow_le_pow_right (by decide) hlen)
    have e : ((lN (pz_vl r)) <<< ((8 : Int32).toInt64 &&& 63)) ||| (nI q).toInt64 = lN (pz_vl (q :: r)) := by
      rw [show ((8 : Int32)) = nI 8 from rfl, wb_shl _ (by decide), nI_l (by omega), g_or (k := 8) (p := 2 ^ 8) rfl (by omega) (by
        have : pz_vl r * 2 ^ 8 + q < 256 ^ 7 * 256 := by omega
        have e2 : (256 : Nat) ^ 7 * 256 = 2 ^ 64 := by decide
        omega)]
      rfl
    rw [List.map_cons, pz_pk, e, ih (q :: r) (fun x hx => h1 x (List.mem_cons_of_mem _ hx)) (fun x hx => by
      rcases List.mem_cons.mp hx with rfl | hx
      · exact hq
      · exact h2 x hx) (by simp at h3 ⊢; omega)]
    simp
theorem pz_lNi {a b : Nat} (ha : a < 2 ^ 64) (hb : b < 2 ^ 64) (h : lN a = lN b) : a = b := by
  have := congrArg (fun x : Int64 => x.toBitVec.toNat) h
  rwa [wb_tn ha, wb_tn hb] at this
theorem pz_un : ∀ (w : List Int32), (∀ x ∈ w, ∃ q : Nat, 33 ≤ q ∧ q < 127 ∧ x = nI q) → ∃ l : List Nat, w = l.map nI ∧ ∀ q ∈ l, 1 ≤ q ∧ q < 256 := by
  intro w
  induction w with
  | nil => intro _; exact ⟨[], rfl, fun _ h => absurd h List.not_mem_nil⟩
  | cons x w ih =>
    intro h
    obtain ⟨q, h1, h2, e⟩ := h x List.mem_cons_self
    obtain ⟨l, e2, h3⟩ := ih (fun y hy => h y (List.mem_cons_of_mem _ hy))
    refine ⟨q :: l, by rw [e, e2]; rfl, fun y hy => ?_⟩
    rcases List.mem_cons.mp hy with rfl | hy
    · omega
    · exact h3 y hy
/-- a word as a long is its text -/
theorem pz_wd_eq {w : List Int32} (hw : ∀ x ∈ w, ∃ q : Nat, 33 ≤ q ∧ q < 127 ∧ x = nI q) (l : List Nat) (hl : ∀ q ∈ l, 1 ≤ q ∧ q < 256) (h8 : l.length ≤ 8) (h0 : l ≠ []) : lg_cmp (pz_wd w) (lN (pz_vl l.reverse)) = 0 ↔ w = l.map nI := by
  have hz : lg_cmp (pz_wd w) (lN (pz_vl l.reverse)) = 0 ↔ pz_wd w = lN (pz_vl l.reverse) := by
    unfold lg_cmp
    by_cases q1 : pz_wd w > lN (pz_vl l.reverse)
    · rw [if_pos q1]
      refine ⟨fun z => absurd z (by decide), fun z => ?_⟩
      rw [z] at q1
      exact absurd q1 (Int64.lt_irrefl)
    · rw [if_neg q1]
      by_cases q2 : pz_wd w = lN (pz_vl l.reverse)
      · rw [if_pos q2]; exact ⟨fun _ => q2, fun _ => rfl⟩
      · rw [if_neg q2]; exact ⟨fun z => absurd z (by decide), fun z => absurd z q2⟩
  rw [hz]
  have hlr : ∀ q ∈ l.reverse, 1 ≤ q ∧ q < 256 := fun q hq => hl q (List.mem_reverse.mp hq)
  have bnd : ∀ r : List Nat, (∀ q ∈ r, 1 ≤ q ∧ q < 256) → r.length ≤ 8 → pz_vl r < 2 ^ 64 := fun r h1 h2 => by
    have a1 := pz_vl_lt r h1
    have a2 : (256 : Nat) ^ r.length ≤ 256 ^ 8 := Nat.pow_le_pow_right (by decide) h2
    have e2 : (256 : Nat) ^ 8 = 2 ^ 64 := by decide
    omega
  obtain ⟨v, ev, hv⟩ := pz_un w hw
  subst ev
  unfold pz_wd
  by_cases q : 8 < (v.map nI).length
  · rw [if_pos q]
    refine ⟨fun z => ?_, fun z => ?_⟩
    · have e0 : pz_vl ([] : List Nat) = pz_vl l.reverse := pz_lNi (by decide) (bnd _ hlr (by simpa using h8)) z
      have := pz_vl_inj [] l.reverse (fun _ h => absurd h List.not_mem_nil) hlr e0
      exact absurd (List.reverse_eq_nil_iff.mp this.symm) h0
    · rw [z] at q
      simp at q
      omega
  · rw [if_neg q]
    have hv8 : v.length ≤ 8 := by simpa using q
    have e := pz_pk_N v [] hv (fun _ h => absurd h List.not_mem_nil) (by simpa using hv8)
    rw [show (0 : Int64) = lN (pz_vl []) from rfl, e, List.append_nil]
    refine ⟨fun z => ?_, fun z => ?_⟩
    · have e0 := pz_lNi (bnd _ (fun q hq => hv q (List.mem_reverse.mp hq)) (by simpa using hv8)) (bnd _ hlr (by simpa using h8)) z
      have e1 := pz_vl_inj v.reverse l.reverse (fun q hq => hv q (List.mem_reverse.mp hq)) hlr e0
      rw [List.reverse_inj.mp e1]
    · have e1 : v = l := by
        have key : ∀ (a b : List Nat), (∀ q ∈ a, 1 ≤ q ∧ q < 256) → (∀ q ∈ b, 1 ≤ q ∧ q < 256) → a.map nI = b.map nI → a = b := by
          intro a
          induction a with
          | nil => intro b _ _ e; cases b with | nil => rfl | cons _ _ => simp at e
          | cons x a ih =>
            intro b ha hb e
            cases b with
            | nil => simp at e
            | cons y b =>
              simp only [List.map_cons, List.cons.injEq] at e
              have e1 := (nI_eq (by have := ha x List.mem_cons_self; omega) (by have := hb y List.mem_cons_self; omega)).mp e.1
              rw [e1, ih b (fun q hq => ha q (List.mem_cons_of_mem _ hq)) (fun q hq => hb q (List.mem_cons_of_mem _ hq)) e.2]
        exact key v l hv hl z
      rw [e1]
/-- digits are -1 or a number of so many digits -/
theorem pz_dg_q {cs : List Int32} (hV : pz_V cs) (k : Nat) : ∀ (n i v : Nat), pz_dg (pz_tok cs k) n i (nI v) = -1 ∨ ∃ u : Nat, u < (v + 1) * 10 ^ n ∧ pz_dg (pz_tok cs k) n i (nI v) = nI u := by
  intro n
  induction n with
  | zero => intro i v; right; exact ⟨v, by simp, rfl⟩
  | succ n ih =>
    intro i v
    rw [pz_dg]
    obtain ⟨q, hq, e⟩ := pz_ch_q hV k i
    rw [e]
    by_cases q1 : nI q < 48
    · rw [if_pos q1]; exact Or.inl rfl
    · rw [if_neg q1]
      by_cases q2 : nI q ≤ 57
      · rw [if_pos q2]
        have hq1 : 48 ≤ q := by
          rcases Nat.lt_or_ge q 48 with z | z
          · exact absurd (nI_lt (b := 48) z (by decide)) q1
          · exact z
        have hq2 : q ≤ 57 := pz_lew (b := 57) (by omega) q2
        rw [show (nI v * 10 + (nI q - 48) : Int32) = nI (v * 10 + (q - 48)) by rw [show (10 : Int32) = nI 10 from rfl, show (48 : Int32) = nI 48 from rfl, pk_mul, pk_sub hq1, nI_add]]
        rcases ih (i + 1) (v * 10 + (q - 48)) with z | ⟨u, h1, h2⟩
        · exact Or.inl z
        · refine Or.inr ⟨u, Nat.lt_of_lt_of_le h1 ?_, h2⟩
          rw [Nat.pow_succ, Nat.mul_comm (10 ^ n) 10, ← Nat.mul_assoc]
          exact Nat.mul_le_mul (by omega) (Nat.le_refl _)
      · rw [if_neg q2]; exact Or.inl rfl
theorem pz_dig_q {cs : List Int32} (hV : pz_V cs) (k f n : Nat) : pz_dig (pz_tok cs k) f n = -1 ∨ ∃ u : Nat, u < 10 ^ n ∧ pz_dig (pz_tok cs k) f n = nI u := by
  have := pz_dg_q hV k n f 0
  rw [Nat.zero_add, Nat.one_mul] at this
  exact this
theorem pz_dig_nn {cs : List Int32} (hV : pz_V cs) (k f n : Nat) (hn : n ≤ 4) : 0 ≤ pz_dig (pz_tok cs k) f n ↔ pz_dig (pz_tok cs k) f n ≠ -1 := by
  rcases pz_dig_q hV k f n with e | ⟨u, hu, e⟩
  · rw [e]; exact ⟨fun z => absurd z (by decide), fun z => absurd rfl z⟩
  · have h4 : 10 ^ n ≤ 10 ^ 4 := Nat.pow_le_pow_right (by decide) hn
    have h5 : (10 : Nat) ^ 4 = 10000 := by decide
    rw [e]; exact ⟨fun _ => pz_nm1 (by omega), fun _ => nI_pos' (by omega)⟩
