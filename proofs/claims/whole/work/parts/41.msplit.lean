/-! ===== the reference: split and blank ===== -/
theorem pz_stop {cs : List Int32} : ∀ (r : List Int32) (e : Nat), cs.drop e = r → e ≤ cs.length → e + (r.takeWhile pz_nb).length = cs.length ∨ cs.getD (e + (r.takeWhile pz_nb).length) 0 = 32 := by
  intro r
  induction r with
  | nil =>
    intro e hr he
    have hpn : cs.length ≤ e := by simpa using hr
    left; simp; omega
  | cons x r ih =>
    intro e hr he
    obtain ⟨q1, q2, q3⟩ := pz_dropC hr
    by_cases hx : x = 32
    · right
      have et : List.takeWhile pz_nb (x :: r) = [] := by rw [List.takeWhile_cons, if_neg (by simp [pz_nb, hx])]
      rw [et]; exact q2.trans hx
    · have et : List.takeWhile pz_nb (x :: r) = x :: List.takeWhile pz_nb r := by rw [List.takeWhile_cons, if_pos (by simp [pz_nb, hx])]
      rw [et, List.length_cons]
      have := ih (e + 1) q3 q1
      rw [show e + ((List.takeWhile pz_nb r).length + 1) = e + 1 + (List.takeWhile pz_nb r).length by omega]
      exact this
/-- t tokens are cut out; the rest as in ms -/
def mz_T (ms : jx_St) (cs : List Int32) (m : jx_St) (t : Nat) : Prop :=
  m.2 = ms.2 ∧ m.1 0 4 = nI t ∧ (∀ t', t' < t → m.1 2 t' = nI (pz_pos cs t') ∧ m.1 3 t' = nI (pz_pos cs t' + (pz_tok cs t').length) ∧ (pz_tok cs t').length ≠ 0) ∧ ∀ c i, c ≠ 2 → c ≠ 3 → ¬ (c = 0 ∧ i = 4) → m.1 c i = ms.1 c i
def mz_T0 (ms : jx_St) (cs : List Int32) : Prop := mz_R ms ∧ pz_V cs ∧ ms.1 0 1 = nI cs.length ∧ ∀ i, i < cs.length → ms.1 1 i = cs.getD i 0
section MZY
variable {ms : jx_St} {cs : List Int32} {m : jx_St} {postv : jx_St → Prop} {k7 : Nat → Int32 → jx_St → Prop}
theorem sX4_split_42 (h1 : m.1 0 1 = nI cs.length) (h2 : ∀ i, i < cs.length → m.1 1 i = cs.getD i 0) (hR : m.2 0 0 = 1) (hl : cs.length ≤ 700) : ∀ (r : List Int32) (e : Nat), cs.drop e = r → e ≤ cs.length → wX4_split_b67 postv k7 0 (nI (e + (r.takeWhile pz_nb).length)) m → wX4_split_l42 postv k7 (r.length + 1) 0 (nI e) m := by
  intro r
  induction r with
  | nil =>
    intro e hr he hp
    have hpn : cs.length ≤ e := by simpa using hr
    unfold wX4_split_l42
    rw [h1]
    exact ⟨ok_m, fun _ => hp, fun z => absurd (nI_le hpn (by omega)) z⟩
  | cons x r ih =>
    intro e hr he hp
    obtain ⟨q1, q2, q3⟩ := pz_dropC hr
    unfold wX4_split_l42
    rw [h1, hR, pz_cl (by omega), h2 e q1, q2]
    refine ⟨ok_m, fun z => absurd z (nI_ge q1 (by omega)), fun _ => ⟨ix_m (by decide) rfl (by omega) (by decide), fun hx => ?_, fun hx y hy => ?_⟩⟩
    · have et : List.takeWhile pz_nb (x :: r) = [] := by rw [List.takeWhile_cons, if_neg (by simp [pz_nb, hx])]
      rw [et] at hp; exact hp
    · have et : List.takeWhile pz_nb (x :: r) = x :: List.takeWhile pz_nb r := by rw [List.takeWhile_cons, if_pos (by simp [pz_nb, hx])]
      rw [et, List.length_cons, show e + ((List.takeWhile pz_nb r).length + 1) = e + 1 + (List.takeWhile pz_nb r).length by omega] at hp
      rw [hy, nI_1]
      exact ih (e + 1) q3 q1 hp
theorem pz_sx_nil {cs : List Int32} {t : Nat} (h : pz_sx cs t = []) : ∀ d, pz_sx cs (t + d) = [] := by
  intro d
  induction d with
  | zero => exact h
  | succ d ih => rw [← Nat.add_assoc, pz_sx, ih]; rfl
theorem sX4_split_7 (hT : mz_T0 ms cs) (hp : ∀ (m' : jx_St) (nt : Nat), mz_T ms cs m' nt → nt ≤ 350 → (∀ t, (pz_tok cs t).length = 0 ↔ nt ≤ t) → pz_sx cs nt = [] → postv m') :
    ∀ (n p t : Nat) (m : jx_St), cs.length - p < n → p ≤ cs.length → mz_T ms cs m t → pz_sx cs t = (cs.drop p).dropWhile pz_bl → (2 * t ≤ p ∨ (2 * t ≤ p + 1 ∧ (p = cs.length ∨ cs.getD p 0 = 32))) → wX4_split_l7 postv n 0 (nI p) m := by
  obtain ⟨hR, hV, g1, g2⟩ := hT
  have hl := hV.1
  intro n
  induction n with
  | zero => intro p t m hn; omega
  | succ n ih =>
    intro p t m hn hpl h hx hb
    have h1 : m.1 0 1 = nI cs.length := by rw [h.2.2.2 0 1 (by decide) (by decide) (by decide)]; exact g1
    have h2 : ∀ i, i < cs.length → m.1 1 i = cs.getD i 0 := fun i hi => by rw [h.2.2.2 1 i (by decide) (by decide) (fun z => absurd z.1 (by decide))]; exact g2 i hi
    have r0 : m.2 0 0 = 1 := by rw [h.1]; exact hR.1
    have r2 : m.2 0 2 = 2 := by rw [h.1]; exact hR.2.1
    have r3 : m.2 0 3 = 3 := by rw [h.1]; exact hR.2.2.1
    unfold wX4_split_l7
    rw [h1]
    refine ⟨ok_m, fun q => ?_, fun q => ?_⟩
    · have qp : p = cs.length := by have := pz_lew (by omega) q; omega
      have e0 : pz_sx cs t = [] := by rw [hx, qp, List.drop_length]; rfl
      refine hp m t h (by omega) (fun t' => ⟨fun z => ?_, fun z => ?_⟩) e0
      · rcases Nat.lt_or_ge t' t with y | y
        · exact absurd z (h.2.2.1 t' y).2.2
        · exact y
      · obtain ⟨d, rfl⟩ := Nat.exists_eq_add_of_le z
        unfold pz_tok
        rw [pz_sx_nil e0 d]; rfl
    · have qp : p < cs.length := by
        rcases Nat.lt_or_ge p cs.length with z | z
        · exact z
        · exact absurd (nI_le z (by omega)) q
      rw [r0, pz_cl (by omega), h2 p qp]
      obtain ⟨x, r, er⟩ : ∃ x r, cs.drop p = x :: r := by
        cases e : cs.drop p with
        | nil => have : cs.length ≤ p := by simpa using e
                 omega
        | cons x r => exact ⟨x, r, rfl⟩
      obtain ⟨q1, q2, q3⟩ := pz_dropC er
      refine ⟨ix_m (by decide) rfl (by omega) (by decide), fun hx32 => ?_, fun hx32 y hy => ?_⟩
      · have hx0 : ¬ x = 32 := by rw [← q2]; exact hx32
        have ed : (cs.drop p).dropWhile pz_bl = cs.drop p := by rw [er, List.dropWhile_cons, if_neg (by simp [pz_bl, hx0])]
        rw [ed] at hx
        have hpos : pz_pos cs t = p := by unfold pz_pos; rw [hx, List.length_drop]; omega
        have htok : pz_tok cs t = (cs.drop p).takeWhile pz_nb := by unfold pz_tok; rw [hx]
        have hne : (pz_tok cs t).length ≠ 0 := by
          rw [htok, er, List.takeWhile_cons, if_pos (by simp [pz_nb, hx0])]; simp
        have hb1 : 2 * t ≤ p := by
          rcases hb with z | ⟨_, z | z⟩
          · exact z
          · omega
          · exact absurd (q2.symm.trans z) hx0
        have hend := pz_end_le cs t
        rw [hpos] at hend
        have e4 : m.1 0 4 = nI t := h.2.1
        rw [r2, e4, pz_cl (by omega)]
        refine ⟨ix_m (by decide) rfl (by omega) (by decide), fun m1 f1 => ⟨(cs.drop p).length + 1, ?_⟩⟩
        have o1 : ∀ c i, ¬ (c = 2 ∧ i = t) → m1.1 c i = m.1 c i := fun c i hc => by rw [f1, pz_s1, if_neg hc]
        have s1 : m1.2 = m.2 := by rw [f1, pz_s2]
        refine sX4_split_42 (by rw [o1 0 1 (by omega)]; exact h1) (fun i hi => by rw [o1 1 i (by omega)]; exact h2 i hi) (by rw [s1]; exact r0) hl (cs.drop p) p rfl hpl ?_
        rw [← htok]
        unfold wX4_split_b67
        rw [s1, r3, o1 0 4 (by omega), e4, pz_cl (by omega)]
        refine ⟨ok_m, ix_m (by decide) rfl (by omega) (by decide), fun m2 f2 m3 f3 => ?_⟩
        have o2 : ∀ c i, ¬ (c = 3 ∧ i = t) → m2.1 c i = m1.1 c i := fun c i hc => by rw [f2, pz_s1, if_neg hc]
        have o3 : ∀ c i, ¬ (c = 0 ∧ i = 4) → m3.1 c i = m2.1 c i := fun c i hc => by rw [f3, pz_s1, if_neg hc]
        refine ih (p + (pz_tok cs t).length) (t + 1) m3 (by omega) hend ⟨?_, ?_, fun t' ht' => ?_, fun c i c2 c3 c4 => ?_⟩ ?_ ?_
        · rw [f3, pz_s2, f2, pz_s2, s1]; exact h.1
        · rw [f3, pz_s1, if_pos ⟨rfl, rfl⟩, o2 0 4 (by omega), o1 0 4 (by omega), e4, nI_1]
        · by_cases e : t' = t
          · subst e
            refine ⟨?_, ?_, hne⟩
            · rw [o3 2 _ (by omega), o2 2 _ (by omega), f1, pz_s1, if_pos ⟨rfl, rfl⟩, hpos]
            · rw [o3 3 _ (by omega), f2, pz_s1, if_pos ⟨rfl, rfl⟩, hpos]
          · rw [o3 2 _ (by omega), o2 2 _ (by omega), o1 2 _ (by omega), o3 3 _ (by omega), o2 3 _ (by omega), o1 3 _ (by omega)]
            exact h.2.2.1 t' (by omega)
        · rw [o3 c i c4, o2 c i (fun z => c3 z.1), o1 c i (fun z => c2 z.1)]
          exact h.2.2.2 c i c2 c3 c4
        · rw [← pz_end_drop, hpos]
        · right
          refine ⟨by omega, ?_⟩
          rw [htok]
          exact pz_stop (cs.drop p) p rfl hpl
      · have hx0 : x = 32 := by rw [← q2]; exact hx32
        have ed : (cs.drop p).dropWhile pz_bl = (cs.drop (p + 1)).dropWhile pz_bl := by rw [er, List.dropWhile_cons, if_pos (by simp [pz_bl, hx0]), q3]
        rw [hy, nI_1]
        exact ih (p + 1) t m (by omega) (by omega) h (hx.trans ed) (Or.inl (by omega))
theorem sX4_split (hT : mz_T0 m cs) (hp : ∀ (m' : jx_St) (nt : Nat), mz_T m cs m' nt → nt ≤ 350 → (∀ t, (pz_tok cs t).length = 0 ↔ nt ≤ t) → pz_sx cs nt = [] → postv m') : wX4_split postv 0 m := by
  unfold wX4_split
  refine ⟨ok_m, fun m1 e1 => ⟨cs.length + 1, ?_⟩⟩
  refine sX4_split_7 hT hp (cs.length + 1) 0 0 m1 (by omega) (by omega) ⟨by rw [e1, pz_s2], by rw [e1, pz_s1, if_pos ⟨rfl, rfl⟩]; rfl, fun t' ht' => absurd ht' (by omega), fun c i c2 c3 c4 => by rw [e1, pz_s1, if_neg c4]⟩ (by rw [List.drop_zero]; rfl) (Or.inl (by omega))
theorem sX4_blank_l (hR : ms.2 0 15 = 5) (hp : ∀ m' : jx_St, m'.2 = ms.2 → (∀ i, i < 90 → m'.1 5 i = if i % 10 < 2 then 0 else -1) → (∀ c i, c ≠ 5 → m'.1 c i = ms.1 c i) → postv m') :
    ∀ (j i : Nat) (m : jx_St), i + j = 90 → m.2 = ms.2 → (∀ x, x < i → m.1 5 x = if x % 10 < 2 then 0 else -1) → (∀ c x, c ≠ 5 → m.1 c x = ms.1 c x) → wX4_blank_l2 postv (j + 1) 0 (nI i) m := by
  intro j
  induction j with
  | zero =>
    intro i m e h1 h2 h3
    have e9 : i = 90 := by omega
    subst e9
    unfold wX4_blank_l2
    exact ⟨fun _ => hp m h1 h2 h3, fun z => absurd (nI_le (a := 90) (by omega) (by omega)) z⟩
  | succ j ih =>
    intro i m e h1 h2 h3
    have st : ∀ v : Int32, v = (if i % 10 < 2 then 0 else -1) → ∀ m1 : jx_St, m1 = jx_sI m 5 i v → wX4_blank_l2 postv (j + 1) 0 (nI (i + 1)) m1 := by
      intro v hv m1 e1
      refine ih (i + 1) m1 (by omega) (by rw [e1, pz_s2]; exact h1) (fun x hx => ?_) (fun c x hc => by rw [e1, pz_s1, if_neg (fun z => hc z.1)]; exact h3 c x hc)
      by_cases q : x = i
      · rw [e1, pz_s1, if_pos ⟨rfl, q⟩, q]; exact hv
      · rw [e1, pz_s1, if_neg (fun z => q z.2)]; exact h2 x (by omega)
    unfold wX4_blank_l2
    rw [show (nI i - nI i / 10 * 10 : Int32) = nI (i % 10) from pk_rem (d := 10) (by omega) (by decide) (by decide), h1, hR, pz_cl (by omega)]
    refine ⟨fun z => absurd (pz_lew (a := 90) (by decide) z) (by omega), fun _ => ⟨ok_m, fun q => ⟨ix_m (by decide) rfl (by omega) (by decide), fun m1 e1 x ex => ?_⟩, fun q => ⟨ix_m (by decide) rfl (by omega) (by decide), fun m1 e1 x ex => ?_⟩⟩⟩
    · rw [ex, nI_1]
      have n : ¬ i % 10 < 2 := by have := pz_lew (a := 2) (by decide) q; omega
      exact st (-1) (by rw [if_neg n]) m1 e1
    · rw [ex, nI_1]
      have n : i % 10 < 2 := by
        rcases Nat.lt_or_ge (i % 10) 2 with z | z
        · exact z
        · exact absurd (nI_le (a := 2) z (by omega)) q
      exact st 0 (by rw [if_pos n]) m1 e1
theorem sX4_blank (hR : m.2 0 15 = 5) (hp : ∀ m' : jx_St, m'.2 = m.2 → (∀ i, i < 90 → m'.1 5 i = if i % 10 < 2 then 0 else -1) → (∀ c i, c ≠ 5 → m'.1 c i = m.1 c i) → postv m') : wX4_blank postv 0 m :=
  ⟨91, sX4_blank_l hR hp 90 0 m rfl rfl (fun x hx => absurd hx (by omega)) (fun c x _ => rfl)⟩
end MZY
