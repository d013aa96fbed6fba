/-! ===== the kept text: its tokens are the text's own ===== -/
theorem kt_true : ∀ (r acc : List Int32), pz_kt (r.dropWhile pz_bl) true acc = pz_kt r true acc := by
  intro r
  induction r with
  | nil => intro acc; rfl
  | cons x r ih =>
    intro acc
    by_cases hx : x = 32
    · rw [List.dropWhile_cons, if_pos (by simp [pz_bl, hx]), ih, pz_kt, if_pos hx]
    · rw [List.dropWhile_cons, if_neg (by simp [pz_bl, hx])]
theorem kt_nil0 (r : List Int32) (bb : Bool) : pz_kt r bb [] = pz_kt (r.dropWhile pz_bl) true [] := by
  rw [kt_true]
  cases r with
  | nil => rfl
  | cons x r =>
    rw [pz_kt, pz_kt]
    simp
theorem kt_tok : ∀ (w r acc : List Int32), (∀ x ∈ w, x ≠ 32) → pz_kt (w ++ r) false acc = pz_kt r false (acc ++ w) := by
  intro w
  induction w with
  | nil => intro r acc _; simp
  | cons x w ih =>
    intro r acc h
    have hx : x ≠ 32 := h x (List.mem_cons_self ..)
    rw [List.cons_append, pz_kt, if_neg hx, if_neg (fun z => absurd z.1 Bool.false_ne_true), ih r _ (fun y hy => h y (List.mem_cons_of_mem _ hy)), List.append_assoc]
    rfl
theorem kt_step (x : Int32) (w r acc : List Int32) (h : ∀ y ∈ (x :: w), y ≠ 32) : pz_kt ((x :: w) ++ r) true acc = pz_kt r false ((if acc.length ≠ 0 then acc ++ [32] else acc) ++ (x :: w)) := by
  have hx : x ≠ 32 := h x (List.mem_cons_self ..)
  rw [List.cons_append, pz_kt, if_neg hx, kt_tok w r _ (fun y hy => h y (List.mem_cons_of_mem _ hy))]
  by_cases q : acc.length ≠ 0
  · rw [if_pos ⟨rfl, q⟩, if_pos q]
    simp
  · rw [if_neg (fun z => q z.2), if_neg q]
    simp
theorem pz_dn : ∀ L : List Int32, L.dropWhile pz_nb = [] ∨ ∃ r, L.dropWhile pz_nb = 32 :: r := by
  intro L
  induction L with
  | nil => left; rfl
  | cons x r ih =>
    by_cases hx : x = 32
    · right; exact ⟨r, by rw [List.dropWhile_cons, if_neg (by simp [pz_nb, hx]), hx]⟩
    · rw [List.dropWhile_cons, if_pos (by simp [pz_nb, hx])]; exact ih
theorem pz_db : ∀ L : List Int32, (L.dropWhile pz_bl).takeWhile pz_nb = [] → L.dropWhile pz_bl = [] := by
  intro L
  induction L with
  | nil => intro _; rfl
  | cons x r ih =>
    intro h
    by_cases hx : x = 32
    · rw [List.dropWhile_cons, if_pos (by simp [pz_bl, hx])] at h ⊢; exact ih h
    · rw [List.dropWhile_cons, if_neg (by simp [pz_bl, hx]), List.takeWhile_cons, if_pos (by simp [pz_nb, hx])] at h
      exact absurd h (by simp)
theorem pz_tok_nil {cs : List Int32} {t : Nat} (h : (pz_tok cs t).length = 0) : pz_sx cs t = [] := by
  have h1 : pz_tok cs t = [] := List.length_eq_zero_iff.mp h
  unfold pz_tok at h1
  cases t with
  | zero => exact pz_db _ h1
  | succ t => exact pz_db _ h1
theorem pz_tok_nb {cs : List Int32} {t : Nat} : ∀ x ∈ pz_tok cs t, x ≠ 32 := by
  have : ∀ L : List Int32, ∀ x ∈ L.takeWhile pz_nb, x ≠ 32 := by
    intro L
    induction L with
    | nil => intro x hx; exact absurd hx (by simp)
    | cons y r ih =>
      intro x hx
      by_cases hy : y = 32
      · rw [List.takeWhile_cons, if_neg (by simp [pz_nb, hy])] at hx; exact absurd hx (by simp)
      · rw [List.takeWhile_cons, if_pos (by simp [pz_nb, hy])] at hx
        rcases List.mem_cons.mp hx with z | z
        · rw [z]; exact hy
        · exact ih x z
  exact this _
theorem pz_sx_app (cs : List Int32) (t : Nat) : pz_sx cs t = pz_tok cs t ++ (pz_sx cs t).dropWhile pz_nb := (List.takeWhile_append_dropWhile).symm
/-- n tokens from the t-th on, with one blank between -/
def pz_C (cs : List Int32) : Nat → Nat → List Int32
  | 0, _ => []
  | n + 1, t => pz_tok cs t ++ (if n = 0 then [] else 32 :: pz_C cs n (t + 1))
theorem kt_bl {D acc : List Int32} (h : D = [] ∨ ∃ r, D = 32 :: r) : pz_kt D false acc = pz_kt (D.dropWhile pz_bl) true acc := by
  rcases h with rfl | ⟨r, rfl⟩
  · rfl
  · rw [kt_true, pz_kt, pz_kt, if_pos rfl, if_pos rfl]
theorem kt_C (cs : List Int32) : ∀ (n t : Nat) (acc : List Int32), (∀ t', (pz_tok cs t').length = 0 ↔ t + n ≤ t') → pz_kt (pz_sx cs t) true acc = (if acc.length ≠ 0 ∧ n ≠ 0 then acc ++ [32] else acc) ++ pz_C cs n t := by
  intro n
  induction n with
  | zero =>
    intro t acc h
    rw [pz_tok_nil ((h t).mpr (by omega)), if_neg (fun z => z.2 rfl), pz_C, List.append_nil, pz_kt]
  | succ n ih =>
    intro t acc h
    have hne : (pz_tok cs t).length ≠ 0 := fun z => absurd ((h t).mp z) (by omega)
    have h' : ∀ t', (pz_tok cs t').length = 0 ↔ t + 1 + n ≤ t' := fun t' => by rw [h t']; omega
    obtain ⟨x, w, ew⟩ : ∃ x w, pz_tok cs t = x :: w := by
      cases e : pz_tok cs t with
      | nil => rw [e] at hne; exact absurd rfl hne
      | cons x w => exact ⟨x, w, rfl⟩
    have hnb : ∀ y ∈ (x :: w), y ≠ 32 := by rw [← ew]; exact pz_tok_nb
    rw [pz_sx_app cs t, ew, kt_step x w _ acc hnb, kt_bl (pz_dn _), ← ew]
    rw [show ((pz_sx cs t).dropWhile pz_nb).dropWhile pz_bl = pz_sx cs (t + 1) from rfl, ih (t + 1) _ h', pz_C]
    have hl : ∀ a : List Int32, (a ++ pz_tok cs t).length ≠ 0 := fun a => by rw [List.length_append]; omega
    have n1 : n + 1 ≠ 0 := by omega
    have ec : (if acc.length ≠ 0 ∧ n + 1 ≠ 0 then acc ++ [32] else acc) = (if acc.length ≠ 0 then acc ++ [32] else acc) := by
      by_cases q : acc.length ≠ 0
      · rw [if_pos q, if_pos ⟨q, n1⟩]
      · rw [if_neg q, if_neg (fun z => q z.1)]
    rw [ec]
    by_cases q : n = 0
    · subst q
      rw [if_neg (fun z => z.2 rfl), if_pos rfl, pz_C, List.append_nil, List.append_nil]
    · rw [if_pos ⟨hl _, q⟩, if_neg q]
      simp [List.append_assoc]
theorem pz_can_C {cs : List Int32} {nt : Nat} (h : ∀ t', (pz_tok cs t').length = 0 ↔ nt ≤ t') : pz_can cs = pz_C cs nt 0 := by
  unfold pz_can
  rw [kt_nil0, show cs.dropWhile pz_bl = pz_sx cs 0 from rfl, kt_C cs nt 0 [] (fun t' => by rw [h t']; omega), if_neg (fun z => z.1 rfl)]
  rfl
theorem pz_dw_app : ∀ (w r : List Int32), (∀ x ∈ w, x ≠ 32) → (w ++ r).dropWhile pz_nb = r.dropWhile pz_nb ∧ (w ++ r).takeWhile pz_nb = w ++ r.takeWhile pz_nb := by
  intro w
  induction w with
  | nil => intro r _; exact ⟨rfl, rfl⟩
  | cons x w ih =>
    intro r h
    have hx : x ≠ 32 := h x (List.mem_cons_self ..)
    have := ih r (fun y hy => h y (List.mem_cons_of_mem _ hy))
    rw [List.cons_append, List.dropWhile_cons, if_pos (by simp [pz_nb, hx]), List.takeWhile_cons, if_pos (by simp [pz_nb, hx]), this.1, this.2]
    exact ⟨rfl, rfl⟩
theorem pz_C_bl {cs : List Int32} {n t : Nat} (h : n ≠ 0 → (pz_tok cs t).length ≠ 0) : (pz_C cs n t).dropWhile pz_bl = pz_C cs n t := by
  cases n with
  | zero => rfl
  | succ n =>
    have hne := h (by omega)
    rw [pz_C]
    cases e : pz_tok cs t with
    | nil => rw [e] at hne; exact absurd rfl hne
    | cons x w =>
      have hx : x ≠ 32 := pz_tok_nb (cs := cs) (t := t) x (by rw [e]; exact List.mem_cons_self ..)
      rw [List.cons_append, List.dropWhile_cons, if_neg (by simp [pz_bl, hx])]
theorem pz_sx_C {cs : List Int32} {nt : Nat} (h : ∀ t', (pz_tok cs t').length = 0 ↔ nt ≤ t') : ∀ k, pz_sx (pz_C cs nt 0) k = pz_C cs (nt - k) k := by
  have hz : ∀ k, nt - k ≠ 0 → (pz_tok cs k).length ≠ 0 := fun k hk z => by have := (h k).mp z; omega
  intro k
  induction k with
  | zero => rw [pz_sx]; exact pz_C_bl (hz 0)
  | succ k ih =>
    rw [pz_sx, ih]
    rcases Nat.lt_or_ge k nt with q | q
    · obtain ⟨n, en⟩ : ∃ n, nt - k = n + 1 := ⟨nt - k - 1, by omega⟩
      rw [en, pz_C, (pz_dw_app _ _ pz_tok_nb).1, show nt - (k + 1) = n by omega]
      by_cases q2 : n = 0
      · rw [if_pos q2, q2]; rfl
      · rw [if_neg q2, List.dropWhile_cons, if_neg (by decide), List.dropWhile_cons, if_pos (by decide)]
        exact pz_C_bl (fun _ => hz (k + 1) (by omega))
    · rw [show nt - k = 0 by omega, show nt - (k + 1) = 0 by omega]; rfl
theorem pz_tok_can {cs : List Int32} {nt : Nat} (h : ∀ t', (pz_tok cs t').length = 0 ↔ nt ≤ t') : pz_tok (pz_can cs) = pz_tok cs := by
  funext k
  rw [pz_can_C h]
  show (pz_sx (pz_C cs nt 0) k).takeWhile pz_nb = _
  rw [pz_sx_C h k]
  rcases Nat.lt_or_ge k nt with q | q
  · obtain ⟨n, en⟩ : ∃ n, nt - k = n + 1 := ⟨nt - k - 1, by omega⟩
    rw [en, pz_C, (pz_dw_app _ _ pz_tok_nb).2]
    by_cases q2 : n = 0
    · rw [if_pos q2]; simp
    · rw [if_neg q2, List.takeWhile_cons, if_neg (by decide), List.append_nil]
  · rw [show nt - k = 0 by omega, pz_C]
    exact (List.length_eq_zero_iff.mp ((h k).mpr q)).symm
theorem pz_kt_mem : ∀ (r : List Int32) (bb : Bool) (acc : List Int32) (x : Int32), x ∈ pz_kt r bb acc → x ∈ acc ∨ x = 32 ∨ x ∈ r := by
  intro r
  induction r with
  | nil => intro bb acc x h; exact Or.inl h
  | cons y r ih =>
    intro bb acc x h
    rw [pz_kt] at h
    by_cases hy : y = 32
    · rw [if_pos hy] at h
      rcases ih _ _ _ h with z | z | z
      · exact Or.inl z
      · exact Or.inr (Or.inl z)
      · exact Or.inr (Or.inr (List.mem_cons_of_mem _ z))
    · rw [if_neg hy] at h
      rcases ih _ _ _ h with z | z | z
      · by_cases q : bb = true ∧ acc.length ≠ 0
        · rw [if_pos q] at z
          rcases List.mem_append.mp z with a | a
          · exact Or.inl a
          · rcases List.mem_cons.mp a with a | a
            · exact Or.inr (Or.inl a)
            · rw [List.mem_singleton.mp a]; exact Or.inr (Or.inr (List.mem_cons_self ..))
        · rw [if_neg q] at z
          rcases List.mem_append.mp z with a | a
          · exact Or.inl a
          · rw [List.mem_singleton.mp a]; exact Or.inr (Or.inr (List.mem_cons_self ..))
      · exact Or.inr (Or.inl z)
      · exact Or.inr (Or.inr (List.mem_cons_of_mem _ z))
theorem pz_V_can {cs : List Int32} (hV : pz_V cs) (hl : (pz_can cs).length ≤ 700) : pz_V (pz_can cs) := by
  refine ⟨hl, fun x hx => ?_⟩
  rcases pz_kt_mem cs false [] x hx with z | z | z
  · exact absurd z (by simp)
  · rw [z]; decide
  · exact hV.2 x z
/-- the same tokens, a blank behind each -/
def pz_J (cs : List Int32) : Nat → Nat → List Int32
  | 0, _ => []
  | n + 1, t => pz_tok cs t ++ [32] ++ pz_J cs n (t + 1)
theorem pz_J_C {cs : List Int32} : ∀ n t : Nat, n ≠ 0 → pz_J cs n t = pz_C cs n t ++ [32] := by
  intro n
  induction n with
  | zero => intro t h; exact absurd rfl h
  | succ n ih =>
    intro t _
    rw [pz_J, pz_C]
    by_cases q : n = 0
    · subst q; rw [if_pos rfl, pz_J]; simp
    · rw [if_neg q, ih (t + 1) q]; simp [List.append_assoc]
