/-! ===== tables of pairs, words as longs, ranges of digits ===== -/
def fk_1 (v : Int32) : Int32 := if v = 16963 then 1 else if v = 16972 then 4 else if v = 17490 then 3 else if v = 18010 then 7 else if v = 19785 then 0 else if v = 20562 then 2 else if v = 21320 then 5 else if v = 21587 then 6 else -1
def fk_3 (v : Int32) : Int32 := if v = 17491 then 18 else if v = 17493 then 11 else if v = 17987 then 16 else if v = 18522 then 13 else if v = 20559 then 14 else if v = 21313 then 12 else if v = 21329 then 15 else if v = 21331 then 17 else if v = 22081 then 10 else -1
def fk_2 (v : Int32) : Int32 := if v = 16978 then 7 else if v = 17498 then 0 else if v = 17991 then 8 else if v = 18005 then 9 else if v = 18258 then 5 else if v = 18259 then 6 else if v = 20556 then 4 else if v = 21057 then 1 else if v = 21319 then 3 else if v = 21326 then 2 else fk_3 v
theorem sX4_firstKind {post : Int32 → jx_St → Prop} {m : jx_St} {v : Int32} (hp : post (fk_1 v) m) : wX4_firstKind post v m := by
  unfold wX4_firstKind
  unfold fk_1 at hp
  refine ⟨?_, ?_, ?_, ?_, ?_, ?_, ?_, ?_, ?_⟩
  · intro q; subst q; exact hp
  · intro q; subst q; exact hp
  · intro q; subst q; exact hp
  · intro q; subst q; exact hp
  · intro q; subst q; exact hp
  · intro q; subst q; exact hp
  · intro q; subst q; exact hp
  · intro q; subst q; exact hp
  · intro q0 q1 q2 q3 q4 q5 q6 q7
    rw [if_neg q0, if_neg q1, if_neg q2, if_neg q3, if_neg q4, if_neg q5, if_neg q6, if_neg q7] at hp
    exact hp
theorem sX4_thirdKind {post : Int32 → jx_St → Prop} {m : jx_St} {v : Int32} (hp : post (fk_3 v) m) : wX4_thirdKind post v m := by
  unfold wX4_thirdKind
  unfold fk_3 at hp
  refine ⟨?_, ?_, ?_, ?_, ?_, ?_, ?_, ?_, ?_, ?_⟩
  · intro q; subst q; exact hp
  · intro q; subst q; exact hp
  · intro q; subst q; exact hp
  · intro q; subst q; exact hp
  · intro q; subst q; exact hp
  · intro q; subst q; exact hp
  · intro q; subst q; exact hp
  · intro q; subst q; exact hp
  · intro q; subst q; exact hp
  · intro q0 q1 q2 q3 q4 q5 q6 q7 q8
    rw [if_neg q0, if_neg q1, if_neg q2, if_neg q3, if_neg q4, if_neg q5, if_neg q6, if_neg q7, if_neg q8] at hp
    exact hp
theorem sX4_secondKind {post : Int32 → jx_St → Prop} {m : jx_St} {v : Int32} (hp : post (fk_2 v) m) : wX4_secondKind post v m := by
  unfold wX4_secondKind
  unfold fk_2 at hp
  refine ⟨?_, ?_, ?_, ?_, ?_, ?_, ?_, ?_, ?_, ?_, ?_⟩
  · intro q; subst q; exact hp
  · intro q; subst q; exact hp
  · intro q; subst q; exact hp
  · intro q; subst q; exact hp
  · intro q; subst q; exact hp
  · intro q; subst q; exact hp
  · intro q; subst q; exact hp
  · intro q; subst q; exact hp
  · intro q; subst q; exact hp
  · intro q; subst q; exact hp
  · intro q0 q1 q2 q3 q4 q5 q6 q7 q8 q9
    rw [if_neg q0, if_neg q1, if_neg q2, if_neg q3, if_neg q4, if_neg q5, if_neg q6, if_neg q7, if_neg q8, if_neg q9] at hp
    exact sX4_thirdKind hp
set_option maxRecDepth 100000 in
theorem fk_1_eq : ∀ a, a < 127 → ∀ c, c < 127 → fk_1 ((256 * nI a) + nI c) = pz_pr (nI a) (nI c) pz_FP 0 := by decide +kernel
set_option maxRecDepth 100000 in
theorem fk_2_eq : ∀ a, a < 127 → ∀ c, c < 127 → fk_2 ((256 * nI a) + nI c) = pz_pr (nI a) (nI c) pz_OP 0 := by decide +kernel
theorem pz_q {x : Int32} (h : (32 : Int32) ≤ x ∧ x ≤ 126) : ∃ q : Nat, 32 ≤ q ∧ q < 127 ∧ x = nI q := by
  obtain ⟨j, hj, rfl⟩ := nI_of2 (M := 126) (n := 126) (by decide) (x := x) (by
    intro h0
    have h1 := Int32.lt_of_lt_of_le h0 (Int32.le_trans (show (0 : Int32) ≤ 32 by decide) h.1)
    exact absurd h1 (Int32.lt_irrefl)) h.2
  have h32 : 32 ≤ j := pz_lew (a := 32) (by omega) h.1
  exact ⟨j, h32, by omega, rfl⟩
/-- the chars of a token are numbers from 33 to 126 -/
theorem pz_tok_q {cs : List Int32} (hV : pz_V cs) (k : Nat) : ∀ x ∈ pz_tok cs k, ∃ q : Nat, 33 ≤ q ∧ q < 127 ∧ x = nI q := by
  intro x hx
  have hm : x ∈ cs := (pz_sx_suf cs k).subset ((List.takeWhile_prefix _).subset hx)
  obtain ⟨q, h1, h2, rfl⟩ := pz_q (hV.2 x hm)
  have hn : pz_nb (nI q) = true := by
    unfold pz_tok at hx
    exact List.all_eq_true.mp (List.all_takeWhile (p := pz_nb)) _ hx
  have hne : ¬ q = 32 := by
    intro e
    subst e
    exact absurd hn (by decide)
  exact ⟨q, by omega, h2, rfl⟩
theorem pz_ch_q {cs : List Int32} (hV : pz_V cs) (k i : Nat) : ∃ q : Nat, q < 127 ∧ pz_ch (pz_tok cs k) i = nI q := by
  by_cases h : i < (pz_tok cs k).length
  · have hm : pz_ch (pz_tok cs k) i ∈ pz_tok cs k := by
      simp only [pz_ch, List.getD, List.getElem?_eq_getElem h, Option.getD_some]
      exact List.getElem_mem _
    obtain ⟨q, _, h2, e⟩ := pz_tok_q hV k _ hm
    exact ⟨q, h2, e⟩
  · refine ⟨0, by omega, ?_⟩
    have h' : (pz_tok cs k).length ≤ i := by omega
    simp [pz_ch, h']
    rfl
theorem pz_fk1 {cs : List Int32} (hV : pz_V cs) (k f : Nat) : fk_1 ((256 * pz_ch (pz_tok cs k) f) + pz_ch (pz_tok cs k) (f + 1)) = pz_pair (pz_tok cs k) f pz_FP := by
  obtain ⟨a, ha, ea⟩ := pz_ch_q hV k f
  obtain ⟨c, hc, ec⟩ := pz_ch_q hV k (f + 1)
  unfold pz_pair
  rw [ea, ec]
  exact fk_1_eq a ha c hc
theorem pz_fk2 {cs : List Int32} (hV : pz_V cs) (k f : Nat) : fk_2 ((256 * pz_ch (pz_tok cs k) f) + pz_ch (pz_tok cs k) (f + 1)) = pz_pair (pz_tok cs k) f pz_OP := by
  obtain ⟨a, ha, ea⟩ := pz_ch_q hV k f
  obtain ⟨c, hc, ec⟩ := pz_ch_q hV k (f + 1)
  unfold pz_pair
  rw [ea, ec]
  exact fk_2_eq a ha c hc
/-- two chars as one number -/
theorem pz_2c {cs : List Int32} (hV : pz_V cs) (k f : Nat) {L x y : Nat} (hL : L = 256 * x + y) (hx : x < 256) (hy : y < 256) : ((256 * pz_ch (pz_tok cs k) f) + pz_ch (pz_tok cs k) (f + 1)) = nI L ↔ (pz_ch (pz_tok cs k) f = nI x ∧ pz_ch (pz_tok cs k) (f + 1) = nI y) := by
  obtain ⟨a, ha, ea⟩ := pz_ch_q hV k f
  obtain ⟨c, hc, ec⟩ := pz_ch_q hV k (f + 1)
  rw [ea, ec, show (256 : Int32) = nI 256 from rfl, pk_mul, nI_add, nI_eq (by omega) (by omega), nI_eq (by omega) (by omega), nI_eq (by omega) (by omega)]
  omega
def pz_vl : List Nat → Nat
  | [] => 0
  | q :: r => pz_vl r * 256 + q
theorem pz_vl_inj : ∀ (l l' : List Nat), (∀ q ∈ l, 1 ≤ q ∧ q < 256) → (∀ q ∈ l', 1 ≤ q ∧ q < 256) → pz_vl l = pz_vl l' → l = l' := by
  intro l
  induction l with
  | nil =>
    intro l' h h' e
    cases l' with
    | nil => rfl
    | cons q r =>
      have := h' q List.mem_cons_self
      simp only [pz_vl] at e
      omega
  | cons q r ih =>
    intro l' h h' e
    cases l' with
    | nil =>
      have := h q List.mem_cons_self
      simp only [pz_vl] at e
      omega
    | cons q' r' =>
      have h1 := h q List.mem_cons_self
      have h2 := h' q' List.mem_cons_self
      simp only [pz_vl] at e
      have e1 : q = q' := by omega
      have e2 : pz_vl r = pz_vl r' := by omega
      rw [e1, ih r' (fun x hx => h x (List.mem_cons_of_mem _ hx)) (fun x hx => h' x (List.mem_cons_of_mem _ hx)) e2]
theorem pz_vl_lt : ∀ (l : List Nat), (∀ q ∈ l, 1 ≤ q ∧ q < 256) → pz_vl l < 256 ^ l.length := by
  intro l
  induction l with
  | nil => intro _; decide
  | cons q r ih =>
    intro h
    have h1 := h q List.mem_cons_self
    have h2 := ih (fun x hx => h x (List.mem_cons_of_mem _ hx))
    simp only [pz_vl, List.length_cons, Nat.pow_succ]
    omega
theorem pz_pk_N : ∀ (l r : List Nat), (∀ q ∈ l, 1 ≤ q ∧ q < 256) → (∀ q ∈ r, 1 ≤ q ∧ q < 256) → l.length + r.length ≤ 8 → pz_pk (l.map nI) (lN (pz_vl r)) = lN (pz_vl (l.reverse ++ r)) := by
  intro l
  induction l with
  | nil => intro r _ _ _; rfl
  | cons q l ih =>
    intro r h1 h2 h3
    have hq := h1 q List.mem_cons_self
    have hr := pz_vl_lt r h2
    have hlen : r.length ≤ 7 := by simp at h3; omega
    have hb : pz_vl r < 256 ^ 7 := Nat.lt_of_lt_of_le hr (Nat.pow_le_pow_right (by decide) hlen)
    have e : ((lN (pz_vl r)) <<< ((8 : Int32).toInt64 &&& 63)) ||| (nI q).toInt64 = lN (pz_vl (q :: r)) := by
      rw [show ((8 : Int32)) = nI 8 from rfl, wb_shl _ (by decide), nI_l (by omega), g_or (k := 8) (p := 2 ^ 8) rfl (by omega) (by
        have : pz_vl r * 2 ^ 8 + q < 256 ^ 7 * 256 := by omega
        have e2 : (256 : Nat) ^ 7 * 256 = 2 ^ 64 := by decide
        omega)]
      rfl
    rw [List.map_cons, pz_pk, e, ih (q :: r) (fun x hx => h1 x (List.mem_cons_of_mem _ hx)) (fun x hx => by
      rcases List.mem_cons.mp hx with rfl | hx
      · exact hq
      · exact h2 x hx) (by simp at h3 ⊢; omega)]
    simp
theorem pz_lNi {a b : Nat} (ha : a < 2 ^ 64) (hb : b < 2 ^ 64) (h : lN a = lN b) : a = b := by
  have := congrArg (fun x : Int64 => x.toBitVec.toNat) h
  dsimp only at this
  rwa [wb_tn ha, wb_tn hb] at this
theorem pz_un : ∀ (w : List Int32), (∀ x ∈ w, ∃ q : Nat, 33 ≤ q ∧ q < 127 ∧ x = nI q) → ∃ l : List Nat, w = l.map nI ∧ ∀ q ∈ l, 1 ≤ q ∧ q < 256 := by
  intro w
  induction w with
  | nil => intro _; exact ⟨[], rfl, fun _ h => absurd h List.not_mem_nil⟩
  | cons x w ih =>
    intro h
    obtain ⟨q, h1, h2, e⟩ := h x List.mem_cons_self
    obtain ⟨l, e2, h3⟩ := ih (fun y hy => h y (List.mem_cons_of_mem _ hy))
    refine ⟨q :: l, by rw [e, e2]; rfl, fun y hy => ?_⟩
    rcases List.mem_cons.mp hy with rfl | hy
    · omega
    · exact h3 y hy
/-- a word as a long is its text -/
theorem pz_wd_eq {w : List Int32} (hw : ∀ x ∈ w, ∃ q : Nat, 33 ≤ q ∧ q < 127 ∧ x = nI q) (l : List Nat) (hl : ∀ q ∈ l, 1 ≤ q ∧ q < 256) (h8 : l.length ≤ 8) (h0 : l ≠ []) : lg_cmp (pz_wd w) (lN (pz_vl l.reverse)) = 0 ↔ w = l.map nI := by
  have hz : lg_cmp (pz_wd w) (lN (pz_vl l.reverse)) = 0 ↔ pz_wd w = lN (pz_vl l.reverse) := by
    unfold lg_cmp
    by_cases q1 : pz_wd w > lN (pz_vl l.reverse)
    · rw [if_pos q1]
      refine ⟨fun z => absurd z (by decide), fun z => ?_⟩
      rw [z] at q1
      exact absurd q1 (Int64.lt_irrefl)
    · rw [if_neg q1]
      by_cases q2 : pz_wd w = lN (pz_vl l.reverse)
      · rw [if_pos q2]; exact ⟨fun _ => q2, fun _ => rfl⟩
      · rw [if_neg q2]; exact ⟨fun z => absurd z (by decide), fun z => absurd z q2⟩
  rw [hz]
  have hlr : ∀ q ∈ l.reverse, 1 ≤ q ∧ q < 256 := fun q hq => hl q (List.mem_reverse.mp hq)
  have bnd : ∀ r : List Nat, (∀ q ∈ r, 1 ≤ q ∧ q < 256) → r.length ≤ 8 → pz_vl r < 2 ^ 64 := fun r h1 h2 => by
    have a1 := pz_vl_lt r h1
    have a2 : (256 : Nat) ^ r.length ≤ 256 ^ 8 := Nat.pow_le_pow_right (by decide) h2
    have e2 : (256 : Nat) ^ 8 = 2 ^ 64 := by decide
    omega
  obtain ⟨v, ev, hv⟩ := pz_un w hw
  subst ev
  unfold pz_wd
  by_cases q : 8 < (v.map nI).length
  · rw [if_pos q]
    refine ⟨fun z => ?_, fun z => ?_⟩
    · have e0 : pz_vl ([] : List Nat) = pz_vl l.reverse := pz_lNi (by decide) (bnd _ hlr (by simpa using h8)) z
      have := pz_vl_inj [] l.reverse (fun _ h => absurd h List.not_mem_nil) hlr e0
      exact absurd (List.reverse_eq_nil_iff.mp this.symm) h0
    · rw [z] at q
      simp at q
      omega
  · rw [if_neg q]
    have hv8 : v.length ≤ 8 := by simpa using q
    have e := pz_pk_N v [] hv (fun _ h => absurd h List.not_mem_nil) (by simpa using hv8)
    rw [show (0 : Int64) = lN (pz_vl []) from rfl, e, List.append_nil]
    refine ⟨fun z => ?_, fun z => ?_⟩
    · have e0 := pz_lNi (bnd _ (fun q hq => hv q (List.mem_reverse.mp hq)) (by simpa using hv8)) (bnd _ hlr (by simpa using h8)) z
      have e1 := pz_vl_inj v.reverse l.reverse (fun q hq => hv q (List.mem_reverse.mp hq)) hlr e0
      rw [List.reverse_inj.mp e1]
    · have e1 : v = l := by
        have key : ∀ (a b : List Nat), (∀ q ∈ a, 1 ≤ q ∧ q < 256) → (∀ q ∈ b, 1 ≤ q ∧ q < 256) → a.map nI = b.map nI → a = b := by
          intro a
          induction a with
          | nil => intro b _ _ e; cases b with | nil => rfl | cons _ _ => simp at e
          | cons x a ih =>
            intro b ha hb e
            cases b with
            | nil => simp at e
            | cons y b =>
              simp only [List.map_cons, List.cons.injEq] at e
              have e1 := (nI_eq (by have := ha x List.mem_cons_self; omega) (by have := hb y List.mem_cons_self; omega)).mp e.1
              rw [e1, ih b (fun q hq => ha q (List.mem_cons_of_mem _ hq)) (fun q hq => hb q (List.mem_cons_of_mem _ hq)) e.2]
        exact key v l hv hl z
      rw [e1]
/-- digits are -1 or a number of so many digits -/
theorem pz_dg_q {cs : List Int32} (hV : pz_V cs) (k : Nat) : ∀ (n i v : Nat), v * 10 ^ n < 100000000 → pz_dg (pz_tok cs k) n i (nI v) = -1 ∨ ∃ u : Nat, u < (v + 1) * 10 ^ n ∧ pz_dg (pz_tok cs k) n i (nI v) = nI u := by
  intro n
  induction n with
  | zero => intro i v hv; right; exact ⟨v, by simp, rfl⟩
  | succ n ih =>
    intro i v hv
    rw [pz_dg]
    obtain ⟨q, hq, e⟩ := pz_ch_q hV k i
    rw [e]
    have hp : 0 < 10 ^ n := Nat.pow_pos (by decide)
    rw [Nat.pow_succ] at hv
    have hv2 : v * 10 ≤ v * (10 ^ n * 10) := Nat.mul_le_mul (Nat.le_refl v) (by omega)
    by_cases q1 : nI q < 48
    · rw [if_pos q1]; exact Or.inl rfl
    · rw [if_neg q1]
      by_cases q2 : nI q ≤ 57
      · rw [if_pos q2]
        have hq1 : 48 ≤ q := by
          rcases Nat.lt_or_ge q 48 with z | z
          · exact absurd (nI_lt (b := 48) z (by decide)) q1
          · exact z
        have hq2 : q ≤ 57 := pz_lew (b := 57) (by omega) q2
        rw [show (nI v * 10 + (nI q - 48) : Int32) = nI (v * 10 + (q - 48)) by rw [show (10 : Int32) = nI 10 from rfl, show (48 : Int32) = nI 48 from rfl, pk_mul, pk_sub hq1, nI_add]]
        sorry
      · rw [if_neg q2]; exact Or.inl rfl

