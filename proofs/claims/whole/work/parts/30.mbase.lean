/-! ===== THE REFERENCE. Its state while it reads; its leaf methods ===== -/
def mz_R (m : jx_St) : Prop := m.2 0 0 = 1 ∧ m.2 0 2 = 2 ∧ m.2 0 3 = 3 ∧ m.2 0 14 = 4 ∧ m.2 0 15 = 5 ∧ m.2 0 16 = 6 ∧ m.2 0 17 = 7 ∧ m.2 0 24 = 8 ∧ m.2 0 25 = 9 ∧ m.2 0 26 = 10 ∧ m.2 0 27 = 11 ∧ m.2 0 28 = 12 ∧ m.2 0 30 = 13
theorem ok_m : jx_ok jx_LM 4 0 := ⟨by decide, by decide⟩
theorem ix_m {c n i : Nat} (hc : c < 14) (h : jx_LM.1 c = (6, n)) (hi : i < n) (hn : n < 2 ^ 31) : jx_ix jx_LM 6 c (nI i) := ⟨⟨hc, by rw [h]⟩, by rw [h]; exact vp_in_nI hi hn⟩
/-- at token k of cs, which has nt tokens; what isn't for reading is as in m0 -/
def mz_S (m0 : jx_St) (cs : List Int32) (nt : Nat) (days : Int32) (m : jx_St) (k : Nat) : Prop :=
  mz_R m ∧ pz_V cs ∧ m.1 0 1 = nI cs.length ∧ (∀ i, i < cs.length → m.1 1 i = cs.getD i 0) ∧ nt ≤ 350 ∧ m.1 0 4 = nI nt ∧ (∀ t, t < nt → m.1 2 t = nI (pz_pos cs t) ∧ m.1 3 t = nI (pz_pos cs t + (pz_tok cs t).length)) ∧ (∀ t, (pz_tok cs t).length = 0 ↔ nt ≤ t) ∧ m.1 0 5 = nI k ∧ k ≤ nt ∧ m.1 0 8 = days ∧ (∀ c i, 8 ≤ c → m.1 c i = m0.1 c i) ∧ ∀ i, 18 ≤ i → m.1 0 i = m0.1 0 i
theorem pz_tok_ch {cs : List Int32} {k i : Nat} (h : i < (pz_tok cs k).length) : cs.getD (pz_pos cs k + i) 0 = pz_ch (pz_tok cs k) i := by
  obtain ⟨t, ht⟩ := List.takeWhile_prefix (l := pz_sx cs k) pz_nb
  have e1 : (pz_sx cs k).getD i 0 = pz_ch (pz_tok cs k) i := by
    rw [← ht]
    show ((pz_tok cs k) ++ t).getD i 0 = _
    simp [pz_ch, List.getElem?_append_left h]
  rw [← e1, ← pz_sx_drop cs k]
  simp [List.getElem?_drop]
section MZ
variable {m0 : jx_St} {cs : List Int32} {nt : Nat} {days : Int32} {m : jx_St} {k : Nat} {post : Int32 → jx_St → Prop} {postl : Int64 → jx_St → Prop}
theorem MS_len (h : mz_S m0 cs nt days m k) (t : Nat) : (pz_tok cs t).length ≤ 700 := by
  have h1 := h.2.1.1
  have h2 := pz_end_le cs t
  omega
theorem sX4_size (h : mz_S m0 cs nt days m k) (hp : post (nI (pz_tok cs k).length) m) : wX4_size post 0 m := by
  obtain ⟨hR, hV, h1, h2, h3, h4, h5, h6, h7, h8, h9, h10, h11⟩ := h
  unfold wX4_size
  rw [h4, h7, hR.2.1, hR.2.2.1]
  refine ⟨ok_m, fun q => ?_, fun q => ?_⟩
  · have hle := pz_lew (by omega) q
    have hz := (h6 k).mpr hle
    rw [hz] at hp; exact hp
  · have hlt := pz_nle (by omega) q
    rw [pz_cl (by omega), (h5 k hlt).1, (h5 k hlt).2, pk_sub (by omega), show pz_pos cs k + (pz_tok cs k).length - pz_pos cs k = (pz_tok cs k).length by omega]
    exact ⟨ix_m (by decide) rfl (by omega) (by decide), ix_m (by decide) rfl (by omega) (by decide), hp⟩
theorem sX4_sign (h : mz_S m0 cs nt days m k) (i : Nat) {a1 : Int32} (e1 : a1 = nI i) (hi : i < 100000) (hp : post (pz_ch (pz_tok cs k) i) m) : wX4_sign post 0 a1 m := by
  subst e1
  have hl := MS_len h k
  have hend := pz_end_le cs k
  unfold wX4_sign
  refine ⟨ok_m, sX4_size h ?_⟩
  obtain ⟨hR, hV, h1, h2, h3, h4, h5, h6, h7, h8, h9, h10, h11⟩ := h
  have hV1 := hV.1
  refine ⟨fun q => ?_, fun q => ?_⟩
  · have hle := pz_lew (by omega) q
    have e : pz_ch (pz_tok cs k) i = 0 := by simp [pz_ch, hle]
    rw [e] at hp; exact hp
  · have hlt := pz_nle (by omega) q
    have hk : k < nt := by
      rcases Nat.lt_or_ge k nt with z | z
      · exact z
      · have := (h6 k).mpr z; omega
    rw [h7, hR.1, hR.2.1, pz_cl (by omega), (h5 k hk).1, nI_add, pz_cl (by omega), h2 _ (by omega), pz_tok_ch hlt]
    exact ⟨ix_m (by decide) rfl (by omega) (by decide), ix_m (by decide) rfl (by omega) (by decide), hp⟩
theorem sX4_number_l (h : mz_S m0 cs nt days m k) {f n : Nat} (hf : f + n < 1000) : ∀ (j i : Nat) (v : Int32), i + j = f + n → post (pz_dg (pz_tok cs k) j i v) m → wX4_number_l5 post (j + 1) 0 (nI f) (nI n) v (nI i) m := by
  intro j
  induction j with
  | zero =>
    intro i v hi hp
    rw [wX4_number_l5, nI_add]
    exact ⟨fun _ => hp, fun z => absurd (nI_le (by omega) (by omega)) z⟩
  | succ j ih =>
    intro i v hi hp
    rw [wX4_number_l5, nI_add]
    rw [pz_dg] at hp
    refine ⟨fun z => absurd z (nI_ge (by omega) (by omega)), fun _ => ⟨ok_m, sX4_sign h i rfl (by omega) ⟨fun q => ?_, fun q => sX4_sign h i rfl (by omega) ⟨fun q2 => sX4_sign h i rfl (by omega) (fun x ex y ey => ?_), fun q2 => ?_⟩⟩⟩⟩
    · rw [if_pos q] at hp; exact hp
    · rw [if_neg q, if_pos q2] at hp
      rw [ey, nI_1]
      have e : x = v * 10 + (pz_ch (pz_tok cs k) i - 48) := by rw [ex, Int32.mul_comm, Int32.sub_eq_add_neg, Int32.sub_eq_add_neg, Int32.add_assoc]
      rw [e]
      exact ih (i + 1) _ (by omega) hp
    · rw [if_neg q, if_neg q2] at hp; exact hp
theorem sX4_number (h : mz_S m0 cs nt days m k) (f n : Nat) {a1 a2 : Int32} (e1 : a1 = nI f) (e2 : a2 = nI n) (hf : f + n < 1000) (hp : post (pz_dig (pz_tok cs k) f n) m) : wX4_number post 0 a1 a2 m := by
  subst e1; subst e2
  unfold wX4_number
  exact ⟨n + 1, sX4_number_l h hf n f 0 rfl hp⟩
theorem sX4_pair (h : mz_S m0 cs nt days m k) (f : Nat) {a1 : Int32} (e1 : a1 = nI f) (hf : f < 1000) (hp : post ((256 * pz_ch (pz_tok cs k) f) + pz_ch (pz_tok cs k) (f + 1)) m) : wX4_pair post 0 a1 m := by
  unfold wX4_pair
  refine ⟨ok_m, sX4_sign h f e1 (by omega) (sX4_sign h (f + 1) (by rw [e1]; exact nI_1 f) (by omega) hp)⟩
def pz_pk : List Int32 → Int64 → Int64
  | [], a => a
  | x :: r, a => pz_pk r ((a <<< ((8 : Int32).toInt64 &&& 63)) ||| x.toInt64)
def pz_wd (w : List Int32) : Int64 := if 8 < w.length then 0 else pz_pk w 0
theorem sX4_word_l (h : mz_S m0 cs nt days m k) (h8 : ¬ 8 < (pz_tok cs k).length) : ∀ (r : List Int32) (i : Nat) (a : Int64), (pz_tok cs k).drop i = r → i ≤ (pz_tok cs k).length → postl (pz_pk r a) m → wX4_word_l4 postl (r.length + 1) 0 a (nI i) m := by
  intro r
  induction r with
  | nil =>
    intro i a hd hi hp
    have hl : (pz_tok cs k).length ≤ i := by simpa using hd
    rw [wX4_word_l4]
    refine ⟨ok_m, sX4_size h ⟨fun _ => hp, fun z => absurd (nI_le hl (by omega)) z⟩⟩
  | cons x r ih =>
    intro i a hd hi hp
    obtain ⟨d1, d2, d3⟩ := pz_dropC hd
    rw [wX4_word_l4]
    refine ⟨ok_m, sX4_size h ⟨fun z => absurd z (nI_ge d1 (by omega)), fun _ => sX4_size h ⟨fun z => absurd ((nI_ltI (a := 8) (by omega) (by omega)).mp z) h8, fun _ => sX4_sign h i rfl (by omega) (fun y ey z ez => ?_)⟩⟩⟩
    have e : pz_ch (pz_tok cs k) i = x := d2
    rw [ez, nI_1, ey, e]
    exact ih (i + 1) _ d3 d1 hp
theorem sX4_word (h : mz_S m0 cs nt days m k) (hp : postl (pz_wd (pz_tok cs k)) m) : wX4_word postl 0 m := by
  have hl := MS_len h k
  unfold wX4_word
  intro x ex
  subst ex
  unfold pz_wd at hp
  by_cases h8 : 8 < (pz_tok cs k).length
  · rw [if_pos h8] at hp
    refine ⟨1, ?_⟩
    rw [wX4_word_l4]
    refine ⟨ok_m, sX4_size h ⟨fun _ => hp, fun _ => sX4_size h ⟨fun _ => hp, fun z => absurd (nI_lt (a := 8) h8 (by omega)) z⟩⟩⟩
  · rw [if_neg h8] at hp
    exact ⟨_, sX4_word_l h h8 (pz_tok cs k) 0 0 rfl (Nat.zero_le _) hp⟩
theorem sX4_isDay (h : mz_S m0 cs nt days m k) {d : Int32} (h1 : ¬ d < 1 ∧ ¬ days < d → post 1 m) (h0 : ¬ (¬ d < 1 ∧ ¬ days < d) → post 0 m) : wX4_isDay post 0 d m := by
  unfold wX4_isDay
  rw [h.2.2.2.2.2.2.2.2.2.2.1]
  exact ⟨fun q => h0 (fun z => z.1 q), fun q => ⟨ok_m, fun q2 => h0 (fun z => z.2 q2), fun q2 => h1 ⟨q, q2⟩⟩⟩
theorem sX4_isIn {v hi : Int32} (h1 : ¬ v < 0 ∧ ¬ hi < v → post 1 m) (h0 : ¬ (¬ v < 0 ∧ ¬ hi < v) → post 0 m) : wX4_isIn post 0 v hi m := by
  unfold wX4_isIn
  exact ⟨fun q => h0 (fun z => z.1 q), fun q => ⟨fun q2 => h0 (fun z => z.2 q2), fun q2 => h1 ⟨q, q2⟩⟩⟩
/-- a write that reading may do: working fields and arrays -/
theorem MS_set (h : mz_S m0 cs nt days m k) {c i : Nat} (v : Int32) (hc : (c = 0 ∧ (i = 6 ∨ i = 7 ∨ (8 < i ∧ i < 18))) ∨ (4 ≤ c ∧ c < 8)) : mz_S m0 cs nt days (jx_sI m c i v) k := by
  obtain ⟨hR, hV, h1, h2, h3, h4, h5, h6, h7, h8, h9, h10, h11⟩ := h
  have f : ∀ c' i', ¬ (c' = c ∧ i' = i) → (jx_sI m c i v).1 c' i' = m.1 c' i' := fun c' i' hn => by rw [pz_s1, if_neg hn]
  exact ⟨hR, hV, by rw [f 0 1 (by omega)]; exact h1, fun j hj => by rw [f 1 j (by omega)]; exact h2 j hj, h3, by rw [f 0 4 (by omega)]; exact h4, fun t ht => by rw [f 2 t (by omega), f 3 t (by omega)]; exact h5 t ht, h6, by rw [f 0 5 (by omega)]; exact h7, h8, by rw [f 0 8 (by omega)]; exact h9, fun c' i' hc' => by rw [f c' i' (by omega)]; exact h10 c' i' hc', fun i' hi' => by rw [f 0 i' (by omega)]; exact h11 i' hi'⟩
theorem MS_next (h : mz_S m0 cs nt days m k) (hw : (pz_tok cs k).length ≠ 0) {v : Int32} (hv : v = nI (k + 1)) : mz_S m0 cs nt days (jx_sI m 0 5 v) (k + 1) := by
  subst hv
  obtain ⟨hR, hV, h1, h2, h3, h4, h5, h6, h7, h8, h9, h10, h11⟩ := h
  have hk : k < nt := by
    rcases Nat.lt_or_ge k nt with z | z
    · exact z
    · exact absurd ((h6 k).mpr z) hw
  have f : ∀ c' i', ¬ (c' = 0 ∧ i' = 5) → (jx_sI m 0 5 (nI (k + 1))).1 c' i' = m.1 c' i' := fun c' i' hn => by rw [pz_s1, if_neg hn]
  exact ⟨hR, hV, by rw [f 0 1 (by omega)]; exact h1, fun j hj => by rw [f 1 j (by omega)]; exact h2 j hj, h3, by rw [f 0 4 (by omega)]; exact h4, fun t ht => by rw [f 2 t (by omega), f 3 t (by omega)]; exact h5 t ht, h6, by rw [pz_s1, if_pos ⟨rfl, rfl⟩], hk, by rw [f 0 8 (by omega)]; exact h9, fun c' i' hc' => by rw [f c' i' (by omega)]; exact h10 c' i' hc', fun i' hi' => by rw [f 0 i' (by omega)]; exact h11 i' hi'⟩
theorem MS_at (h : mz_S m0 cs nt days m k) : m.1 0 5 = nI k := h.2.2.2.2.2.2.2.2.1
end MZ
