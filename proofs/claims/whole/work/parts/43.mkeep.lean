/-! ===== the reference: keep ===== -/
section MZK
variable {ms : jx_St} {cs : List Int32} {m : jx_St} {postv : jx_St → Prop} {k158 : Nat → Int32 → jx_St → Prop} {nt : Nat}
theorem sX4_keep_50 (hs : ms.2 0 14 = 4) (hd : ms.2 0 24 = 8) (hp : ∀ m' : jx_St, m'.2 = ms.2 → (∀ i, i < 4 → m'.1 8 i = ms.1 4 i) → (∀ c i, c ≠ 8 → m'.1 c i = ms.1 c i) → ∃ n_ : Nat, wX4_keep_l75 postv n_ 0 0 m') :
    ∀ (j i : Nat) (m : jx_St), i + j = 4 → m.2 = ms.2 → (∀ x, x < i → m.1 8 x = ms.1 4 x) → (∀ c x, c ≠ 8 → m.1 c x = ms.1 c x) → wX4_keep_l50 postv (j + 1) 0 (nI i) m := by
  intro j
  induction j with
  | zero =>
    intro i m e h1 h2 h3
    have e9 : i = 4 := by omega
    subst e9
    unfold wX4_keep_l50
    exact ⟨fun _ => hp m h1 h2 h3, fun z => absurd (nI_le (a := 4) (by omega) (by omega)) z⟩
  | succ j ih =>
    intro i m e h1 h2 h3
    unfold wX4_keep_l50
    rw [h1, hs, hd, pz_cl (by omega)]
    refine ⟨fun z => absurd (pz_lew (a := 4) (by decide) z) (by omega), fun _ => ⟨ok_m, ix_m (by decide) rfl (by omega) (by decide), ix_m (by decide) rfl (by omega) (by decide), fun m1 e1 x ex => ?_⟩⟩
    rw [ex, nI_1]
    refine ih (i + 1) m1 (by omega) (by rw [e1, pz_s2]; exact h1) (fun x hx => ?_) (fun c x hc => by rw [e1, pz_s1, if_neg (fun z => hc z.1)]; exact h3 c x hc)
    by_cases q : x = i
    · rw [e1, pz_s1, if_pos ⟨rfl, q⟩, q]; exact h3 4 i (by decide)
    · rw [e1, pz_s1, if_neg (fun z => q z.2)]; exact h2 x (by omega)
theorem sX4_keep_75 (hs : ms.2 0 15 = 5) (hd : ms.2 0 25 = 9) (hp : ∀ m' : jx_St, m'.2 = ms.2 → (∀ i, i < 90 → m'.1 9 i = ms.1 5 i) → (∀ c i, c ≠ 9 → m'.1 c i = ms.1 c i) → ∃ n_ : Nat, wX4_keep_l101 postv n_ 0 0 m') :
    ∀ (j i : Nat) (m : jx_St), i + j = 90 → m.2 = ms.2 → (∀ x, x < i → m.1 9 x = ms.1 5 x) → (∀ c x, c ≠ 9 → m.1 c x = ms.1 c x) → wX4_keep_l75 postv (j + 1) 0 (nI i) m := by
  intro j
  induction j with
  | zero =>
    intro i m e h1 h2 h3
    have e9 : i = 90 := by omega
    subst e9
    unfold wX4_keep_l75
    exact ⟨fun _ => hp m h1 h2 h3, fun z => absurd (nI_le (a := 90) (by omega) (by omega)) z⟩
  | succ j ih =>
    intro i m e h1 h2 h3
    unfold wX4_keep_l75
    rw [h1, hs, hd, pz_cl (by omega)]
    refine ⟨fun z => absurd (pz_lew (a := 90) (by decide) z) (by omega), fun _ => ⟨ok_m, ix_m (by decide) rfl (by omega) (by decide), ix_m (by decide) rfl (by omega) (by decide), fun m1 e1 x ex => ?_⟩⟩
    rw [ex, nI_1]
    refine ih (i + 1) m1 (by omega) (by rw [e1, pz_s2]; exact h1) (fun x hx => ?_) (fun c x hc => by rw [e1, pz_s1, if_neg (fun z => hc z.1)]; exact h3 c x hc)
    by_cases q : x = i
    · rw [e1, pz_s1, if_pos ⟨rfl, q⟩, q]; exact h3 5 i (by decide)
    · rw [e1, pz_s1, if_neg (fun z => q z.2)]; exact h2 x (by omega)
theorem sX4_keep_101 (hs : ms.2 0 16 = 6) (hd : ms.2 0 26 = 10) (hp : ∀ m' : jx_St, m'.2 = ms.2 → (∀ i, i < 27 → m'.1 10 i = ms.1 6 i) → (∀ c i, c ≠ 10 → m'.1 c i = ms.1 c i) → ∃ n_ : Nat, wX4_keep_l127 postv n_ 0 0 m') :
    ∀ (j i : Nat) (m : jx_St), i + j = 27 → m.2 = ms.2 → (∀ x, x < i → m.1 10 x = ms.1 6 x) → (∀ c x, c ≠ 10 → m.1 c x = ms.1 c x) → wX4_keep_l101 postv (j + 1) 0 (nI i) m := by
  intro j
  induction j with
  | zero =>
    intro i m e h1 h2 h3
    have e9 : i = 27 := by omega
    subst e9
    unfold wX4_keep_l101
    exact ⟨fun _ => hp m h1 h2 h3, fun z => absurd (nI_le (a := 27) (by omega) (by omega)) z⟩
  | succ j ih =>
    intro i m e h1 h2 h3
    unfold wX4_keep_l101
    rw [h1, hs, hd, pz_cl (by omega)]
    refine ⟨fun z => absurd (pz_lew (a := 27) (by decide) z) (by omega), fun _ => ⟨ok_m, ix_m (by decide) rfl (by omega) (by decide), ix_m (by decide) rfl (by omega) (by decide), fun m1 e1 x ex => ?_⟩⟩
    rw [ex, nI_1]
    refine ih (i + 1) m1 (by omega) (by rw [e1, pz_s2]; exact h1) (fun x hx => ?_) (fun c x hc => by rw [e1, pz_s1, if_neg (fun z => hc z.1)]; exact h3 c x hc)
    by_cases q : x = i
    · rw [e1, pz_s1, if_pos ⟨rfl, q⟩, q]; exact h3 6 i (by decide)
    · rw [e1, pz_s1, if_neg (fun z => q z.2)]; exact h2 x (by omega)
theorem sX4_keep_127 (hs : ms.2 0 17 = 7) (hd : ms.2 0 27 = 11) (hp : ∀ m' : jx_St, m'.2 = ms.2 → (∀ i, i < 36 → m'.1 11 i = ms.1 7 i) → (∀ c i, c ≠ 11 → m'.1 c i = ms.1 c i) → (∀ s28 : jx_St, s28 = jx_sI m' 0 29 0 → ∃ n_ : Nat, wX4_keep_l158 postv n_ 0 0 s28)) :
    ∀ (j i : Nat) (m : jx_St), i + j = 36 → m.2 = ms.2 → (∀ x, x < i → m.1 11 x = ms.1 7 x) → (∀ c x, c ≠ 11 → m.1 c x = ms.1 c x) → wX4_keep_l127 postv (j + 1) 0 (nI i) m := by
  intro j
  induction j with
  | zero =>
    intro i m e h1 h2 h3
    have e9 : i = 36 := by omega
    subst e9
    unfold wX4_keep_l127
    exact ⟨fun _ => ⟨ok_m, hp m h1 h2 h3⟩, fun z => absurd (nI_le (a := 36) (by omega) (by omega)) z⟩
  | succ j ih =>
    intro i m e h1 h2 h3
    unfold wX4_keep_l127
    rw [h1, hs, hd, pz_cl (by omega)]
    refine ⟨fun z => absurd (pz_lew (a := 36) (by decide) z) (by omega), fun _ => ⟨ok_m, ix_m (by decide) rfl (by omega) (by decide), ix_m (by decide) rfl (by omega) (by decide), fun m1 e1 x ex => ?_⟩⟩
    rw [ex, nI_1]
    refine ih (i + 1) m1 (by omega) (by rw [e1, pz_s2]; exact h1) (fun x hx => ?_) (fun c x hc => by rw [e1, pz_s1, if_neg (fun z => hc z.1)]; exact h3 c x hc)
    by_cases q : x = i
    · rw [e1, pz_s1, if_pos ⟨rfl, q⟩, q]; exact h3 7 i (by decide)
    · rw [e1, pz_s1, if_neg (fun z => q z.2)]; exact h2 x (by omega)
/-- so much of the text stands -/
def mz_X (ms m : jx_St) (a : List Int32) : Prop := m.2 = ms.2 ∧ m.1 0 29 = nI a.length ∧ (∀ i, i < a.length → m.1 12 i = a.getD i 0) ∧ ∀ c i, c ≠ 12 → ¬ (c = 0 ∧ i = 29) → m.1 c i = ms.1 c i
theorem MX_push {a : List Int32} {x : Int32} {m1 m2 : jx_St} (h : mz_X ms m a) (e1 : m1 = jx_sI m 12 a.length x) (e2 : m2 = jx_sI m1 0 29 (m1.1 0 29 + 1)) : mz_X ms m2 (a ++ [x]) := by
  have o1 : ∀ c i, ¬ (c = 12 ∧ i = a.length) → m1.1 c i = m.1 c i := fun c i hc => by rw [e1, pz_s1, if_neg hc]
  have o2 : ∀ c i, ¬ (c = 0 ∧ i = 29) → m2.1 c i = m1.1 c i := fun c i hc => by rw [e2, pz_s1, if_neg hc]
  refine ⟨by rw [e2, pz_s2, e1, pz_s2]; exact h.1, ?_, fun i hi => ?_, fun c i c1 c2 => ?_⟩
  · rw [e2, pz_s1, if_pos ⟨rfl, rfl⟩, o1 0 29 (by omega), h.2.1, nI_1, List.length_append]; rfl
  · rw [o2 12 i (by omega)]
    rw [List.length_append, List.length_singleton] at hi
    by_cases q : i = a.length
    · rw [e1, pz_s1, if_pos ⟨rfl, q⟩, q]
      simp [List.getD_eq_getElem?_getD]
    · rw [o1 12 i (by omega), h.2.2.1 i (by omega)]
      have hi' : i < a.length := by omega
      simp [List.getD_eq_getElem?_getD, List.getElem?_append_left hi']
  · rw [o2 c i c2, o1 c i (fun z => c1 z.1)]; exact h.2.2.2 c i c1 c2
theorem sX4_keep_173 (hR : mz_R ms) {t E : Nat} (ht : t < 351) (hE : ms.1 3 t = nI E) (hE7 : E ≤ 700) : ∀ (r : List Int32) (p : Nat) (a : List Int32) (m : jx_St), p + r.length = E → (∀ j, j < r.length → ms.1 1 (p + j) = r.getD j 0) → a.length + r.length < 1400 → mz_X ms m a → (∀ m' : jx_St, mz_X ms m' (a ++ r ++ [32]) → k158 0 (nI (t + 1)) m') → wX4_keep_l173 postv k158 (r.length + 1) 0 (nI t) (nI p) m := by
  have r3 : ms.2 0 3 = 3 := hR.2.2.1
  have r0 : ms.2 0 0 = 1 := hR.1
  have r28 : ms.2 0 28 = 12 := hR.2.2.2.2.2.2.2.2.2.2.2.1
  intro r
  induction r with
  | nil =>
    intro p a m e1 e2 e3 h hp
    simp at e1 e3
    unfold wX4_keep_l173
    rw [h.1, r3, r0, r28, pz_cl (n := t) (by omega), h.2.2.2 3 t (by decide) (fun z => absurd z.1 (by decide)), hE, h.2.1, pz_cl (n := a.length) (by omega)]
    refine ⟨ok_m, ix_m (by decide) rfl (by omega) (by decide), fun _ => ⟨ix_m (by decide) rfl (by omega) (by decide), fun m1 f1 m2 f2 x ex => ?_⟩, fun z => absurd (nI_le (by omega) (by omega)) z⟩
    rw [ex, nI_1]
    refine hp m2 ?_
    rw [List.append_nil]
    exact MX_push h f1 f2
  | cons x r ih =>
    intro p a m e1 e2 e3 h hp
    simp only [List.length_cons] at e1 e3
    have ex0 := e2 0 (by simp)
    rw [Nat.add_zero] at ex0
    unfold wX4_keep_l173
    rw [h.1, r3, r0, r28, pz_cl (n := t) (by omega), h.2.2.2 3 t (by decide) (fun z => absurd z.1 (by decide)), hE, h.2.1, pz_cl (n := a.length) (by omega), pz_cl (n := p) (by omega), h.2.2.2 1 p (by decide) (fun z => absurd z.1 (by decide)), ex0]
    refine ⟨ok_m, ix_m (by decide) rfl (by omega) (by decide), fun z => absurd z (nI_ge (by omega) (by omega)), fun _ => ⟨ix_m (by decide) rfl (by omega) (by decide), ix_m (by decide) rfl (by omega) (by decide), fun m1 f1 m2 f2 y ey => ?_⟩⟩
    rw [ey, nI_1]
    have h2 := MX_push h f1 f2
    refine ih (p + 1) (a ++ [x]) m2 (by omega) (fun j hj => ?_) (by rw [List.length_append, List.length_singleton]; omega) h2 (fun m' h' => hp m' ?_)
    · have := e2 (j + 1) (by simp only [List.length_cons]; omega)
      rw [show p + 1 + j = p + (j + 1) by omega, this]
      rfl
    · simpa using h'
theorem pz_pos_s (cs : List Int32) (t : Nat) : pz_pos cs t + (pz_tok cs t).length ≤ pz_pos cs (t + 1) := by
  have h1 := pz_end_drop cs t
  have h2 : (pz_sx cs (t + 1)).length ≤ cs.length - (pz_pos cs t + (pz_tok cs t).length) := by
    rw [← h1, ← List.length_drop]
    exact (List.dropWhile_suffix _).length_le
  have h3 := pz_end_le cs t
  have h4 := pz_sx_len cs (t + 1)
  unfold pz_pos at *
  omega
theorem sX4_keep_158 (hR : mz_R ms) (hV : pz_V cs) (h1 : ∀ i, i < cs.length → ms.1 1 i = cs.getD i 0) (h350 : nt ≤ 350) (h4 : ms.1 0 4 = nI nt) (h5 : ∀ t, t < nt → ms.1 2 t = nI (pz_pos cs t) ∧ ms.1 3 t = nI (pz_pos cs t + (pz_tok cs t).length)) (h6 : ∀ t, (pz_tok cs t).length = 0 ↔ nt ≤ t) :
    ∀ (n t : Nat) (a : List Int32) (m : jx_St), t + n = nt → mz_X ms m a → a.length ≤ 2 * pz_pos cs t → (∀ m' : jx_St, mz_X ms m' (a ++ pz_J cs n t) → postv (jx_sI m' 0 29 (m'.1 0 29 - 1))) → wX4_keep_l158 postv (n + 1) 0 (nI t) m := by
  have r2 : ms.2 0 2 = 2 := hR.2.1
  intro n
  induction n with
  | zero =>
    intro t a m e h hl hp
    unfold wX4_keep_l158
    rw [h.2.2.2 0 4 (by decide) (by decide), h4]
    refine ⟨ok_m, fun _ m1 f1 => ?_, fun z => absurd (nI_le (by omega) (by omega)) z⟩
    rw [f1]
    exact hp m (by rw [pz_J, List.append_nil]; exact h)
  | succ n ih =>
    intro t a m e h hl hp
    have htn : t < nt := by omega
    have hne : (pz_tok cs t).length ≠ 0 := fun z => by have := (h6 t).mp z; omega
    have hend := pz_end_le cs t
    have hl7 := hV.1
    unfold wX4_keep_l158
    rw [h.2.2.2 0 4 (by decide) (by decide), h4, h.1, r2, pz_cl (n := t) (by omega), h.2.2.2 2 t (by decide) (fun z => absurd z.1 (by decide)), (h5 t htn).1]
    refine ⟨ok_m, fun z => absurd z (nI_ge htn (by omega)), fun _ => ⟨ix_m (by decide) rfl (by omega) (by decide), fun x ex => ⟨(pz_tok cs t).length + 1, ?_⟩⟩⟩
    rw [ex]
    refine sX4_keep_173 hR (by omega) (h5 t htn).2 (by omega) (pz_tok cs t) (pz_pos cs t) a m rfl (fun j hj => ?_) (by omega) h (fun m' h' => ?_)
    · rw [h1 _ (by omega), pz_tok_ch hj]
    · refine ih (t + 1) (a ++ pz_tok cs t ++ [32]) m' (by omega) h' ?_ (fun m2 h2 => hp m2 ?_)
      · have := pz_pos_s cs t
        simp only [List.length_append, List.length_singleton]
        omega
      · rw [pz_J]
        simpa using h2
/-- what is kept -/
def mz_KK (m : jx_St) (B : pz_Bt) (tx : List Int32) : Prop :=
  (∃ gm, gm < 9 ∧ B 0 7 = nI (gm + 1) ∧ (∀ g f, g ≤ gm → f < 10 → m.1 9 (10 * g + f) = B (4 + 3 * g) f) ∧ (∀ g j, g ≤ gm → j < 3 → nI j < B (4 + 3 * g) 8 → m.1 10 (3 * g + j) = B (5 + 3 * g) j) ∧ (∀ g j, g ≤ gm → j < 4 → nI j < B (4 + 3 * g) 9 → m.1 11 (4 * g + j) = B (6 + 3 * g) j)) ∧
  m.1 0 18 = B 0 0 ∧ m.1 0 19 = B 0 7 ∧ m.1 0 20 = B 0 2 ∧ (B 0 0 = 1 → m.1 0 21 = B 0 3 ∧ m.1 0 22 = B 0 4 ∧ m.1 0 23 = B 0 5) ∧ (∀ j, j < 4 → m.1 8 j = B 1 j) ∧ m.1 0 29 = nI tx.length ∧ ∀ i, i < tx.length → m.1 12 i = tx.getD i 0
theorem sX4_keep {m0 : jx_St} {days : Int32} {k : Nat} {B : pz_Bt} (h : mz_S m0 cs nt days m k) (hK : mz_K m B) (hn : nt ≠ 0) (hp : ∀ m' : jx_St, mz_R m' → (∀ i, m'.1 13 i = m0.1 13 i) → m'.1 0 31 = m0.1 0 31 → mz_KK m' B (pz_can cs) → postv m') : wX4_keep postv 0 m := by
  obtain ⟨hR, hV, g1, g2, g3, g4, g5, g6, g7, g8, g9, g10, g11⟩ := h
  obtain ⟨⟨gm, hgm, hB7, d1, d2, d3, d4⟩, k6, k7, k9, k11, k4⟩ := hK
  unfold wX4_keep
  refine ⟨ok_m, fun m1 e1 m2 e2 m3 e3 m4 e4 m5 e5 m6 e6 => ⟨5, ?_⟩⟩
  have s6 : m6.2 = m.2 := by rw [e6, pz_s2, e5, pz_s2, e4, pz_s2, e3, pz_s2, e2, pz_s2, e1, pz_s2]
  have o1 : ∀ c i, ¬ (c = 0 ∧ i = 18) → m1.1 c i = m.1 c i := fun c i hc => by rw [e1, pz_s1, if_neg hc]
  have o2 : ∀ c i, ¬ (c = 0 ∧ i = 19) → m2.1 c i = m1.1 c i := fun c i hc => by rw [e2, pz_s1, if_neg hc]
  have o3 : ∀ c i, ¬ (c = 0 ∧ i = 20) → m3.1 c i = m2.1 c i := fun c i hc => by rw [e3, pz_s1, if_neg hc]
  have o4 : ∀ c i, ¬ (c = 0 ∧ i = 21) → m4.1 c i = m3.1 c i := fun c i hc => by rw [e4, pz_s1, if_neg hc]
  have o5 : ∀ c i, ¬ (c = 0 ∧ i = 22) → m5.1 c i = m4.1 c i := fun c i hc => by rw [e5, pz_s1, if_neg hc]
  have o6 : ∀ c i, ¬ (c = 0 ∧ i = 23) → m6.1 c i = m5.1 c i := fun c i hc => by rw [e6, pz_s1, if_neg hc]
  have oo : ∀ c i, ¬ (c = 0 ∧ 18 ≤ i ∧ i ≤ 23) → m6.1 c i = m.1 c i := fun c i hc => by
    rw [o6 c i (by omega), o5 c i (by omega), o4 c i (by omega), o3 c i (by omega), o2 c i (by omega), o1 c i (by omega)]
  have v18 : m6.1 0 18 = m.1 0 6 := by rw [o6 0 18 (by omega), o5 0 18 (by omega), o4 0 18 (by omega), o3 0 18 (by omega), o2 0 18 (by omega), e1, pz_s1, if_pos ⟨rfl, rfl⟩]
  have v19 : m6.1 0 19 = m.1 0 7 := by rw [o6 0 19 (by omega), o5 0 19 (by omega), o4 0 19 (by omega), o3 0 19 (by omega), e2, pz_s1, if_pos ⟨rfl, rfl⟩, o1 0 7 (by omega)]
  have v20 : m6.1 0 20 = m.1 0 9 := by rw [o6 0 20 (by omega), o5 0 20 (by omega), o4 0 20 (by omega), e3, pz_s1, if_pos ⟨rfl, rfl⟩, o2 0 9 (by omega), o1 0 9 (by omega)]
  have v21 : m6.1 0 21 = m.1 0 11 := by rw [o6 0 21 (by omega), o5 0 21 (by omega), e4, pz_s1, if_pos ⟨rfl, rfl⟩, o3 0 11 (by omega), o2 0 11 (by omega), o1 0 11 (by omega)]
  have v22 : m6.1 0 22 = m.1 0 12 := by rw [o6 0 22 (by omega), e5, pz_s1, if_pos ⟨rfl, rfl⟩, o4 0 12 (by omega), o3 0 12 (by omega), o2 0 12 (by omega), o1 0 12 (by omega)]
  have v23 : m6.1 0 23 = m.1 0 13 := by rw [e6, pz_s1, if_pos ⟨rfl, rfl⟩, o5 0 13 (by omega), o4 0 13 (by omega), o3 0 13 (by omega), o2 0 13 (by omega), o1 0 13 (by omega)]
  have R := hR
  obtain ⟨q0, q2, q3, q14, q15, q16, q17, q24, q25, q26, q27, q28, q30⟩ := R
  refine sX4_keep_50 (ms := m6) (by rw [s6]; exact q14) (by rw [s6]; exact q24) (fun a sa a1 a2 => ⟨91, ?_⟩) 4 0 m6 rfl rfl (fun x hx => absurd hx (by omega)) (fun c x _ => rfl)
  refine sX4_keep_75 (ms := a) (by rw [sa, s6]; exact q15) (by rw [sa, s6]; exact q25) (fun b sb b1 b2 => ⟨28, ?_⟩) 90 0 a rfl rfl (fun x hx => absurd hx (by omega)) (fun c x _ => rfl)
  refine sX4_keep_101 (ms := b) (by rw [sb, sa, s6]; exact q16) (by rw [sb, sa, s6]; exact q26) (fun c sc c1 c2 => ⟨37, ?_⟩) 27 0 b rfl rfl (fun x hx => absurd hx (by omega)) (fun c x _ => rfl)
  refine sX4_keep_127 (ms := c) (by rw [sc, sb, sa, s6]; exact q17) (by rw [sc, sb, sa, s6]; exact q27) (fun d sd f1 f2 e ee => ⟨nt + 1, ?_⟩) 36 0 c rfl rfl (fun x hx => absurd hx (by omega)) (fun c x _ => rfl)
  have se : e.2 = m.2 := by rw [ee, pz_s2, sd, sc, sb, sa, s6]
  have oe : ∀ y i, ¬ (y = 0 ∧ 18 ≤ i) → (y < 8 ∨ 11 < y) → e.1 y i = m.1 y i := fun y i hy hy2 => by
    rw [ee, pz_s1, if_neg (by omega), f2 y i (by omega), c2 y i (by omega), b2 y i (by omega), a2 y i (by omega), oo y i (by omega)]
  have oh : ∀ i, i ≠ 29 → e.1 0 i = m6.1 0 i := fun i hi => by
    rw [ee, pz_s1, if_neg (fun z => hi z.2), f2 0 i (by decide), c2 0 i (by decide), b2 0 i (by decide), a2 0 i (by decide)]
  have hRe : mz_R e := by unfold mz_R; rw [se]; exact hR
  refine sX4_keep_158 (ms := e) hRe hV (fun i hi => by rw [oe 1 i (by omega) (by omega)]; exact g2 i hi) g3 (by rw [oe 0 4 (by omega) (by omega)]; exact g4) (fun t ht => by rw [oe 2 t (by omega) (by omega), oe 3 t (by omega) (by omega)]; exact g5 t ht) g6 nt 0 [] e (by omega) ⟨rfl, by rw [ee, pz_s1, if_pos ⟨rfl, rfl⟩]; rfl, fun i hi => absurd hi (by simp), fun _ _ _ _ => rfl⟩ (by simp) (fun f hf => hp _ ?_ ?_ ?_ ?_)
  · unfold mz_R; rw [pz_s2, hf.1]; exact hRe
  · intro i
    rw [pz_s1, if_neg (fun z => absurd z.1 (by decide)), hf.2.2.2 13 i (by decide) (fun z => absurd z.1 (by decide)), oe 13 i (by omega) (by omega)]
    exact g10 13 i (by decide)
  · rw [pz_s1, if_neg (by decide), hf.2.2.2 0 31 (by decide) (by decide), oh 31 (by decide), oo 0 31 (by omega)]
    exact g11 31 (by decide)
  · rw [List.nil_append, pz_J_C nt 0 hn, ← pz_can_C g6] at hf
    have of : ∀ y i, y ≠ 12 → ¬ (y = 0 ∧ i = 29) → (jx_sI f 0 29 (f.1 0 29 - 1)).1 y i = e.1 y i := fun y i h1 h2 => by
      rw [pz_s1, if_neg h2]; exact hf.2.2.2 y i h1 h2
    refine ⟨⟨gm, hgm, hB7, fun g f' l1 l2 => ?_, fun g j l1 l2 l3 => ?_, fun g j l1 l2 l3 => ?_⟩, ?_, ?_, ?_, fun hk => ⟨?_, ?_, ?_⟩, fun j hj => ?_, ?_, fun i hi => ?_⟩
    · rw [of 9 _ (by decide) (fun z => absurd z.1 (by decide)), ee, pz_s1, if_neg (fun z => absurd z.1 (by decide)), f2 9 _ (by decide), c2 9 _ (by decide), b1 _ (by omega), a2 5 _ (by decide), oo 5 _ (by omega)]
      exact d1 g f' l1 (by omega) l2
    · rw [of 10 _ (by decide) (fun z => absurd z.1 (by decide)), ee, pz_s1, if_neg (fun z => absurd z.1 (by decide)), f2 10 _ (by decide), c1 _ (by omega), b2 6 _ (by decide), a2 6 _ (by decide), oo 6 _ (by omega)]
      exact d3 g j l1 (by omega) l2 l3
    · rw [of 11 _ (by decide) (fun z => absurd z.1 (by decide)), ee, pz_s1, if_neg (fun z => absurd z.1 (by decide)), f1 _ (by omega), c2 7 _ (by decide), b2 7 _ (by decide), a2 7 _ (by decide), oo 7 _ (by omega)]
      exact d4 g j l1 (by omega) l2 l3
    · rw [of 0 18 (by decide) (by decide), oh 18 (by decide), v18, k6]
    · rw [of 0 19 (by decide) (by decide), oh 19 (by decide), v19, k7]
    · rw [of 0 20 (by decide) (by decide), oh 20 (by decide), v20, k9]
    · rw [of 0 21 (by decide) (by decide), oh 21 (by decide), v21, (k11 hk).1]
    · rw [of 0 22 (by decide) (by decide), oh 22 (by decide), v22, (k11 hk).2.1]
    · rw [of 0 23 (by decide) (by decide), oh 23 (by decide), v23, (k11 hk).2.2]
    · rw [of 8 j (by decide) (fun z => absurd z.1 (by decide)), ee, pz_s1, if_neg (fun z => absurd z.1 (by decide)), f2 8 _ (by decide), c2 8 _ (by decide), b2 8 _ (by decide), a1 j hj, oo 4 j (by omega)]
      exact k4 j hj
    · rw [pz_s1, if_pos ⟨rfl, rfl⟩, hf.2.1, List.length_append, List.length_singleton, nI_pred]
    · rw [pz_s1, if_neg (fun z => absurd z.1 (by decide)), hf.2.2.1 i (by rw [List.length_append]; omega)]
      simp [List.getD_eq_getElem?_getD, List.getElem?_append_left hi]
end MZK
