/-! ===== A FIXED WORLD OF CELLS. A state is (ints, cells): .1 c i the int at place i of cell c, .2 c i the cell that place i of cell c refers to. A layout is (kind and length of each cell, how many cells): kinds 0 to 4 the classes of vwCl, 5 char[], 6 int[], 7 Group[]. ===== -/
abbrev jx_St : Type := (Nat → Nat → Int32) × (Nat → Nat → Nat)
abbrev jx_Ly : Type := (Nat → Nat × Nat) × Nat
/-- class numbers and slots, addresses of the cells, array classes (char, int, Group), addresses of the literals and of their bytes -/
abbrev jx_Dt : Type := va_G × (Nat → Nat) × (ClassId × ClassId × ClassId) × (Nat → Nat) × (Nat → Nat)
def jx_u2 {α : Type} (f : Nat → Nat → α) (c i : Nat) (v : α) : Nat → Nat → α := fun c' i' => if c' = c ∧ i' = i then v else f c' i'
def jx_sI (s : jx_St) (c i : Nat) (v : Int32) : jx_St := (jx_u2 s.1 c i v, s.2)
def jx_sR (s : jx_St) (c i : Nat) (v : Nat) : jx_St := (s.1, jx_u2 s.2 c i v)
def jx_nf (k : Nat) : Nat := ([11, 12, 8, 6, 32] : List Nat).getD k 0
def jx_isR (k i : Nat) : Bool := (([[6, 8, 9], [10, 11], [0, 4, 7], [0, 2, 4, 5], [0, 2, 3, 14, 15, 16, 17, 24, 25, 26, 27, 28, 30]] : List (List Nat)).getD k []).contains i
def jx_F (D : jx_Dt) (s : jx_St) (k c : Nat) : List Value := (List.range (jx_nf k)).map (fun i => if jx_isR k i = true then Value.ref (D.2.1 (s.2 c i)) else Value.int (s.1 c i))
def jx_E (D : jx_Dt) (L : jx_Ly) (s : jx_St) (c : Nat) : va_E :=
  if (L.1 c).1 ≤ 4 then .inr ((L.1 c).1, jx_F D s (L.1 c).1 c)
  else if (L.1 c).1 = 5 then .inl (D.2.2.1.1, (L.1 c).2, .inl (s.1 c))
  else if (L.1 c).1 = 6 then .inl (D.2.2.1.2.1, (L.1 c).2, .inl (s.1 c))
  else .inl (D.2.2.1.2.2, (L.1 c).2, .inr (.inr (.inr (.inr (fun i => some (D.2.1 (s.2 c i)))))))
def jx_w (D : jx_Dt) (L : jx_Ly) (s : jx_St) : va_W := (List.range L.2).map (fun c => (D.2.1 c, jx_E D L s c))
def jx_A (D : jx_Dt) (L : jx_Ly) : Nat → Prop := fun q => ∃ c : Nat, c < L.2 ∧ q = D.2.1 c
def jx_In (D : jx_Dt) (L : jx_Ly) : Prop := ∀ i j : Nat, i < L.2 → j < L.2 → D.2.1 i = D.2.1 j → i = j
def jx_tys (D : jx_Dt) : List (ClassId × FieldType) := [(D.2.2.1.1, .char), (D.2.2.1.2.1, .int), (D.2.2.1.2.2, .object RX1)]
/-- the literals of the class: their places in its constant pool, their texts, their bytes -/
def jx_six : List Nat := [71, 77, 200, 202, 213, 231, 237, 239, 241, 252, 254, 256, 266, 194, 117, 122, 124, 129, 150]
def jx_stx : List String := ["METAR", "TAF", "VRB", "KT", "CAVOK", "MIBCPRDRBLSHTSFZ", "DZRASNSGPLGRGSBRFGFUVADUSAHZPOSQFCSSDS", "NSC", "VV", "CB", "TCU", "FEWSCTBKNOVC", "M", "FM", "BECMG", "TEMPO", "PROB30", "PROB40", "NSW"]
def jx_sby : List (List Int32) := [[77, 69, 84, 65, 82], [84, 65, 70], [86, 82, 66], [75, 84], [67, 65, 86, 79, 75], [77, 73, 66, 67, 80, 82, 68, 82, 66, 76, 83, 72, 84, 83, 70, 90], [68, 90, 82, 65, 83, 78, 83, 71, 80, 76, 71, 82, 71, 83, 66, 82, 70, 71, 70, 85, 86, 65, 68, 85, 83, 65, 72, 90, 80, 79, 83, 81, 70, 67, 83, 83, 68, 83], [78, 83, 67], [86, 86], [67, 66], [84, 67, 85], [70, 69, 87, 83, 67, 84, 66, 75, 78, 79, 86, 67], [77], [70, 77], [66, 69, 67, 77, 71], [84, 69, 77, 80, 79], [80, 82, 79, 66, 51, 48], [80, 82, 79, 66, 52, 48], [78, 83, 87]]
def jx_sln : List Nat := [5, 3, 3, 2, 5, 16, 38, 3, 2, 2, 3, 12, 1, 2, 5, 5, 6, 6, 3]
def jx_Sr (D : jx_Dt) (L : jx_Ly) (U : State) (H : Heap) : Prop :=
  vk_S 19 jx_sln jx_sby D.2.2.2.1 D.2.2.2.2 (jx_A D L) U H ∧ (∀ i : Nat, i < 19 → vk_R RX2 (jx_six.getD i 0) (jx_stx.getD i "") (D.2.2.2.1 i) U) ∧ va_Z "java/lang/String" "COMPACT_STRINGS" "Z" (.int 1) (jx_A D L) U H ∧ va_Zq "jdk/internal/util/Preconditions" "SIOOBE_FORMATTER" "Ljava/util/function/BiFunction;" (jx_A D L) U H
/-- the world in a state of the machine -/
def jx_B (D : jx_Dt) (L : jx_Ly) (u : jx_St) (U : State) : Prop := va_P D.1 vwCl (jx_w D L u) U.heap ∧ va_K D.1 vwCl (jx_tys D) U ∧ jx_In D L ∧ jx_Sr D L U U.heap
theorem jx_Sr_warm {D : jx_Dt} {L : jx_Ly} {s U : State} {H : Heap} (hW : s.WarmedH U.vm) (h : jx_Sr D L s H) : jx_Sr D L U H :=
  ⟨h.1.moved hW.alike, fun i hi => (h.2.1 i hi).warm hW, h.2.2.1.moved hW.alike, h.2.2.2.moved hW.alike⟩
theorem jx_Sr_kept {D : jx_Dt} {L : jx_Ly} {U : State} {H H1 : Heap} (h : jx_Sr D L U H) (hq : ∀ a : Nat, a < H.size → ¬ jx_A D L a → H1[a]? = H[a]?) : jx_Sr D L U H1 :=
  ⟨h.1.kept hq, h.2.1, h.2.2.1.kept hq, h.2.2.2.kept hq⟩
theorem jx_B_same {D : jx_Dt} {L : jx_Ly} {u : jx_St} {U V : State} (hh : V.heap = U.heap) (hv : V.vm = U.vm) (h : jx_B D L u U) : jx_B D L u V := by
  obtain ⟨h1, h2, h3, h4, h5, h6, h7⟩ := h
  have hal : U.vm.Alike V.vm := by rw [hv]; exact Vm.Alike.refl _
  exact ⟨by rw [hh]; exact h1, va_K.moved hal h2, h3, by rw [hh]; exact h4.moved hal, fun i hi => (h5 i hi).same hv, by rw [hh]; exact h6.moved hal, by rw [hh]; exact h7.moved hal⟩
theorem jx_w_at {D : jx_Dt} {L : jx_Ly} {s : jx_St} {c : Nat} (h : c < L.2) : (jx_w D L s)[c]? = some (D.2.1 c, jx_E D L s c) := by
  simp [jx_w, h]
theorem jx_D_of {D : jx_Dt} {L : jx_Ly} {s : jx_St} (h : jx_In D L) : va_D (jx_A D L) (jx_w D L s) := by
  refine ⟨fun i j p q hi hj e => ?_, fun k q hk => ?_⟩
  · have hi' : i < L.2 := by
      have := (List.getElem?_eq_some_iff.mp hi).1
      simpa [jx_w] using this
    have hj' : j < L.2 := by
      have := (List.getElem?_eq_some_iff.mp hj).1
      simpa [jx_w] using this
    rw [jx_w_at hi'] at hi
    rw [jx_w_at hj'] at hj
    cases hi
    cases hj
    exact h i j hi' hj' e
  · have hk' : k < L.2 := by
      have := (List.getElem?_eq_some_iff.mp hk).1
      simpa [jx_w] using this
    rw [jx_w_at hk'] at hk
    cases hk
    exact ⟨k, hk', rfl⟩
theorem jx_w_set {D : jx_Dt} {L : jx_Ly} {s s2 : jx_St} {c : Nat} {e : va_E} (hc : c < L.2) (h1 : jx_E D L s2 c = e) (h2 : ∀ c' : Nat, c' ≠ c → jx_E D L s2 c' = jx_E D L s c') : (jx_w D L s).set c (D.2.1 c, e) = jx_w D L s2 := by
  apply List.ext_getElem?
  intro i
  rw [List.getElem?_set]
  by_cases hi : c = i
  · subst hi
    rw [if_pos rfl, jx_w_at hc, h1]
    simp [jx_w, hc]
  · rw [if_neg hi]
    by_cases hl : i < L.2
    · rw [jx_w_at hl, jx_w_at hl, h2 i (fun e => hi e.symm)]
    · simp [jx_w, hl]
theorem jx_E_obj {D : jx_Dt} {L : jx_Ly} {s : jx_St} {c k : Nat} (h : (L.1 c).1 = k) (hk : k ≤ 4) : jx_E D L s c = .inr (k, jx_F D s k c) := by
  unfold jx_E; rw [h, if_pos hk]
theorem jx_E_chr {D : jx_Dt} {L : jx_Ly} {s : jx_St} {c : Nat} (h : (L.1 c).1 = 5) : jx_E D L s c = .inl (D.2.2.1.1, (L.1 c).2, .inl (s.1 c)) := by
  unfold jx_E; rw [h]; rfl
theorem jx_E_int {D : jx_Dt} {L : jx_Ly} {s : jx_St} {c : Nat} (h : (L.1 c).1 = 6) : jx_E D L s c = .inl (D.2.2.1.2.1, (L.1 c).2, .inl (s.1 c)) := by
  unfold jx_E; rw [h]; rfl
theorem jx_E_grp {D : jx_Dt} {L : jx_Ly} {s : jx_St} {c : Nat} (h : (L.1 c).1 = 7) : jx_E D L s c = .inl (D.2.2.1.2.2, (L.1 c).2, .inr (.inr (.inr (.inr (fun i => some (D.2.1 (s.2 c i))))))) := by
  unfold jx_E; rw [h]; rfl
theorem jx_F_len {D : jx_Dt} {s : jx_St} {k c : Nat} : (jx_F D s k c).length = jx_nf k := by simp [jx_F]
theorem jx_F_int {D : jx_Dt} {s : jx_St} {k c f : Nat} (hf : f < jx_nf k) (hr : jx_isR k f = false) : (jx_F D s k c)[f]? = some (.int (s.1 c f)) := by
  simp [jx_F, hf, hr]
theorem jx_F_ref {D : jx_Dt} {s : jx_St} {k c f : Nat} (hf : f < jx_nf k) (hr : jx_isR k f = true) : (jx_F D s k c)[f]? = some (.ref (D.2.1 (s.2 c f))) := by
  simp [jx_F, hf, hr]
theorem jx_F_setI {D : jx_Dt} {s : jx_St} {k c f : Nat} {v : Int32} (hr : jx_isR k f = false) : (jx_F D s k c).set f (.int v) = jx_F D (jx_sI s c f v) k c := by
  apply List.ext_getElem?
  intro i
  rw [List.getElem?_set]
  by_cases hi : f = i
  · subst hi
    rw [if_pos rfl]
    by_cases hl : f < jx_nf k
    · rw [if_pos (by rw [jx_F_len]; exact hl), jx_F_int hl hr]
      simp [jx_sI, jx_u2]
    · rw [if_neg (by rw [jx_F_len]; exact hl)]
      simp [jx_F, hl]
  · rw [if_neg hi]
    have hi2 : ¬ i = f := fun e => hi e.symm
    by_cases hl : i < jx_nf k <;> simp [jx_F, jx_sI, jx_u2, hi2, hl]
theorem jx_F_setR {D : jx_Dt} {s : jx_St} {k c f v : Nat} (hr : jx_isR k f = true) : (jx_F D s k c).set f (.ref (D.2.1 v)) = jx_F D (jx_sR s c f v) k c := by
  apply List.ext_getElem?
  intro i
  rw [List.getElem?_set]
  by_cases hi : f = i
  · subst hi
    rw [if_pos rfl]
    by_cases hl : f < jx_nf k
    · rw [if_pos (by rw [jx_F_len]; exact hl), jx_F_ref hl hr]
      simp [jx_sR, jx_u2]
    · rw [if_neg (by rw [jx_F_len]; exact hl)]
      simp [jx_F, hl]
  · rw [if_neg hi]
    have hi2 : ¬ i = f := fun e => hi e.symm
    by_cases hl : i < jx_nf k <;> simp [jx_F, jx_sR, jx_u2, hi2, hl]
theorem jx_E_otherI {D : jx_Dt} {L : jx_Ly} {s : jx_St} {c f : Nat} {v : Int32} {c' : Nat} (h : c' ≠ c) : jx_E D L (jx_sI s c f v) c' = jx_E D L s c' := by
  have e1 : (jx_sI s c f v).1 c' = s.1 c' := by funext i; simp [jx_sI, jx_u2, h]
  have e2 : (jx_sI s c f v).2 = s.2 := rfl
  unfold jx_E jx_F
  rw [e1, e2]
theorem jx_E_otherR {D : jx_Dt} {L : jx_Ly} {s : jx_St} {c f v : Nat} {c' : Nat} (h : c' ≠ c) : jx_E D L (jx_sR s c f v) c' = jx_E D L s c' := by
  have e1 : (jx_sR s c f v).2 c' = s.2 c' := by funext i; simp [jx_sR, jx_u2, h]
  have e2 : (jx_sR s c f v).1 = s.1 := rfl
  unfold jx_E jx_F
  rw [e1, e2]
theorem jx_upd_row {s : jx_St} {c i : Nat} {v : Int32} : upd (s.1 c) i v = (jx_sI s c i v).1 c := by
  funext j; simp [jx_sI, jx_u2, upd]
