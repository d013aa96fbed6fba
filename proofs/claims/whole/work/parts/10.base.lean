/-! ===== PURE PART. Helpers ===== -/
theorem pz_s1 {s : jx_St} {c i : Nat} {v : Int32} {c' i' : Nat} : (jx_sI s c i v).1 c' i' = if c' = c ∧ i' = i then v else s.1 c' i' := rfl
theorem pz_s2 {s : jx_St} {c i : Nat} {v : Int32} : (jx_sI s c i v).2 = s.2 := rfl
theorem pz_r1 {s : jx_St} {c i v : Nat} : (jx_sR s c i v).1 = s.1 := rfl
theorem pz_r2 {s : jx_St} {c i v : Nat} {c' i' : Nat} : (jx_sR s c i v).2 c' i' = if c' = c ∧ i' = i then v else s.2 c' i' := rfl
theorem pz_cl {n : Nat} (h : n < 2 ^ 31) : (nI n).toNatClampNeg = n := nI_clamp h
/-- char i of a token, 0 behind it -/
abbrev pz_ch (w : List Int32) (i : Nat) : Int32 := w.getD i 0
/-- n digits from place i on, behind v; -1 when one is none -/
def pz_dg (w : List Int32) : Nat → Nat → Int32 → Int32
  | 0, _, v => v
  | n + 1, i, v => if pz_ch w i < 48 then -1 else if pz_ch w i ≤ 57 then pz_dg w n (i + 1) (v * 10 + (pz_ch w i - 48)) else -1
def pz_dig (w : List Int32) (f n : Nat) : Int32 := pz_dg w n f 0
/-- does the token hold l from place i on -/
def pz_hold (w : List Int32) : Nat → List Int32 → Bool
  | _, [] => true
  | i, x :: l => if pz_ch w i = x then pz_hold w (i + 1) l else false
/-- the Reader's token is w -/
def pz_T (s : jx_St) (w : List Int32) : Prop := s.2 65 4 = 66 ∧ s.1 65 3 = nI w.length ∧ w.length ≤ 700 ∧ ∀ i, i < 16 → s.1 66 i = pz_ch w i
theorem ok_rd : jx_ok jx_LX 2 65 := ⟨by decide, by decide⟩
theorem ok_sb : jx_ok jx_LX 3 0 := ⟨by decide, by decide⟩
theorem ix_tk {i : Nat} (h : i < 16) : jx_ix jx_LX 5 66 (nI i) := ⟨⟨by decide, by decide⟩, vp_in_nI h (by decide)⟩
theorem sX2_digits_l {post : Int32 → jx_St → Prop} {s : jx_St} {w : List Int32} (h : pz_T s w) {f n : Nat} (hf : f + n ≤ 16) : ∀ (j i : Nat) (v : Int32), i + j = f + n → post (pz_dg w j i v) s → wX2_digits_l19 post (j + 1) 65 (nI f) (nI n) v (nI i) s := by
  intro j
  induction j with
  | zero =>
    intro i v hi hp
    rw [wX2_digits_l19, nI_add]
    refine ⟨fun _ => hp, fun h1 => absurd (nI_le (by omega) (by omega)) h1⟩
  | succ j ih =>
    intro i v hi hp
    rw [wX2_digits_l19, nI_add]
    refine ⟨fun h1 => absurd h1 (nI_ge (by omega) (by omega)), fun _ => ⟨ok_rd, ?_⟩⟩
    rw [h.1, pz_cl (by omega), h.2.2.2 i (by omega)]
    refine ⟨ix_tk (by omega), fun h1 => ?_, fun h1 => ⟨fun h2 => ?_, fun h2 => ?_⟩⟩
    · rw [pz_dg, if_pos h1] at hp; exact hp
    · rw [pz_dg, if_neg h1, if_pos h2] at hp
      intro x hx y hy
      rw [hx, hy, nI_1]
      exact ih (i + 1) _ (by omega) hp
    · rw [pz_dg, if_neg h1, if_neg h2] at hp; exact hp
theorem sX2_digits {post : Int32 → jx_St → Prop} {s : jx_St} {w : List Int32} (h : pz_T s w) (f n : Nat) {a1 a2 : Int32} (e1 : a1 = nI f) (e2 : a2 = nI n) (hf : f + n ≤ 16) (hp : post (pz_dig w f n) s) : wX2_digits post 65 a1 a2 s := by
  subst e1; subst e2
  rw [wX2_digits, nI_add]
  refine ⟨fun h1 => absurd h1 (nI_pos (by omega)), fun _ => ⟨fun _ => ⟨n + 1, sX2_digits_l h hf n f 0 rfl hp⟩, fun h1 => absurd (nI_le (b := 16) hf (by decide)) h1⟩⟩
theorem pz_slen : ∀ i, i < 19 → jx_sln.getD i 0 = (jx_sby.getD i []).length := by decide
theorem pz_sch : ∀ i, i < 19 → ∀ k, k < (jx_sby.getD i []).length → jx_sch i k = (jx_sby.getD i []).getD k 0 := by decide +kernel
theorem pz_hold_drop (w l : List Int32) : ∀ (k i : Nat), k < l.length → pz_hold w i (l.drop k) = if pz_ch w i = l.getD k 0 then pz_hold w (i + 1) (l.drop (k + 1)) else false := by
  intro k i hk
  have e : l.drop k = l.getD k 0 :: l.drop (k + 1) := by
    rw [List.drop_eq_getElem_cons hk]
    simp [List.getD, hk]
  rw [e, pz_hold]
theorem sX2_holds_l {post : Int32 → jx_St → Prop} {s : jx_St} {w : List Int32} (h : pz_T s w) {f t : Nat} (ht : t < 19) (hf : f + (jx_sby.getD t []).length ≤ 16) : ∀ (j i : Nat), i + j = (jx_sby.getD t []).length → post (if pz_hold w (f + i) ((jx_sby.getD t []).drop i) = true then 1 else 0) s → wX2_holds_l19 post (j + 1) 65 (nI f) t (nI i) s := by
  intro j
  induction j with
  | zero =>
    intro i hi hp
    rw [wX2_holds_l19]
    rw [List.drop_eq_nil_of_le (by omega), pz_hold, if_pos rfl] at hp
    refine ⟨ht, ?_⟩
    rw [pz_slen t ht]
    exact ⟨fun _ => hp, fun h1 => absurd (nI_le (by omega) (by omega)) h1⟩
  | succ j ih =>
    intro i hi hp
    rw [wX2_holds_l19]
    refine ⟨ht, ?_⟩
    rw [pz_slen t ht]
    refine ⟨fun h1 => absurd h1 (nI_ge (by omega) (by omega)), fun _ => ⟨ok_rd, ?_⟩⟩
    rw [nI_add, h.1, pz_cl (by omega), pz_cl (by omega), h.2.2.2 (f + i) (by omega), pz_sch t ht i (by omega)]
    rw [pz_hold_drop _ _ _ _ (by omega)] at hp
    refine ⟨ix_tk (by omega), vp_in_nI (by omega) (by omega), fun h1 => ?_, fun h1 => ?_⟩
    · intro x hx
      rw [hx, nI_1]
      rw [if_pos h1] at hp
      exact ih (i + 1) (by omega) hp
    · rw [if_neg h1] at hp
      exact hp
theorem sX2_holds {post : Int32 → jx_St → Prop} {s : jx_St} {w : List Int32} (h : pz_T s w) (f : Nat) {a1 : Int32} {t : Nat} (e1 : a1 = nI f) (ht : t < 19) (hf : f + (jx_sby.getD t []).length ≤ 16) (hp : post (if pz_hold w f (jx_sby.getD t []) = true then 1 else 0) s) : wX2_holds post 65 a1 t s := by
  subst e1
  rw [wX2_holds]
  refine ⟨fun h1 => absurd h1 (nI_pos (by omega)), fun _ => ⟨ht, ?_⟩⟩
  rw [pz_slen t ht, nI_add]
  exact ⟨fun _ => ⟨(jx_sby.getD t []).length + 1, sX2_holds_l h ht hf _ 0 (by omega) hp⟩, fun h1 => absurd (nI_le (b := 16) hf (by decide)) h1⟩
