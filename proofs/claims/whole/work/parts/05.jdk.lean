/-! ===== THE JDK's OWN METHODS over the literals ===== -/
abbrev jx_r (f lo : Nat) : Room := { frames := f, cells := 0, slots := 0, locals := lo }
/-- char k of literal i -/
def jx_sch (i k : Nat) : Int32 := (((jx_sby.getD i []).getD k 0 &&& 255).toUInt32 % 65536).toInt32
theorem jx_lkd {ps : List (Int × Int)} {d x : Int} (h : ∀ q ∈ ps, q.1 ≠ x) : Op.lookupswitch.offset ps d x = d := by
  induction ps with
  | nil => rfl
  | cons q r ih =>
    obtain ⟨a, o⟩ := q
    rw [Op.lookupswitch.offset_cons, if_neg (h (a, o) List.mem_cons_self)]
    exact ih (fun q hq => h q (List.mem_cons_of_mem _ hq))
theorem jw_J979 : Cond.fieldLink RJ0 9 "java/lang/String" "value" "[B" ∈ jx_tb := jx_mem 983 (by decide +kernel) (by decide +kernel)
theorem jw_J980 : Cond.fieldLink RJ0 15 "java/lang/String" "coder" "B" ∈ jx_tb := jx_mem 984 (by decide +kernel) (by decide +kernel)
theorem jw_J316 : Cond.fieldLink RJ0 38 "java/lang/String" "COMPACT_STRINGS" "Z" ∈ jx_tb := jx_mem 316 (by decide +kernel) (by decide +kernel)
theorem jw_J336 : Cond.fieldLink RJ0 1053 "jdk/internal/util/Preconditions" "SIOOBE_FORMATTER" "Ljava/util/function/BiFunction;" ∈ jx_tb := jx_mem 336 (by decide +kernel) (by decide +kernel)
section JXJDK
variable {D : jx_Dt} {L : jx_Ly} {X : jx_X} {cc : ByteArray} {own : String} {nL : Nat} {ret : Option FieldType} {rm : Room} {Qc : Array Value → State → Outcome → State → Prop} {pc : Nat} {lv : List (Nat × Value)} {st : List Value} {u : jx_St}
theorem jx_gsv (pc' : Nat) (hX : jx_K D L X cc RJ0 nL ret rm Qc) {i : Nat} (hi : i < 19) (hd : decode cc pc = .ok (.getfield 9, 3)) (hp : pc + 3 = pc') (k : jx_J D L X pc' lv (.ref (D.2.2.2.2 i) :: st) u) : jx_J D L X pc lv (.ref (D.2.2.2.1 i) :: st) u := by
  subst hp
  exact fun H locs ls hP hS hl => vk_getf hX.1 hX.2.1 (hX.2.2.2.2.2.2.2.2.2.1.1.1 i hi).2.2.1 hS hX.2.2.2.1 (hX.2.2.2.2.1 _ jw_J979) (fun _ h => h) hd (k H locs ls hP hS hl)
theorem jx_gsc (pc' : Nat) (hX : jx_K D L X cc RJ0 nL ret rm Qc) {i : Nat} (hi : i < 19) (hd : decode cc pc = .ok (.getfield 15, 3)) (hp : pc + 3 = pc') (k : jx_J D L X pc' lv (.int 0 :: st) u) : jx_J D L X pc lv (.ref (D.2.2.2.1 i) :: st) u := by
  subst hp
  exact fun H locs ls hP hS hl => vk_getf hX.1 hX.2.1 (hX.2.2.2.2.2.2.2.2.2.1.1.1 i hi).2.1 hS hX.2.2.2.1 (hX.2.2.2.2.1 _ jw_J980) (fun _ h => h) hd (k H locs ls hP hS hl)
theorem jx_gst (pc' : Nat) (hX : jx_K D L X cc RJ0 nL ret rm Qc) (hd : decode cc pc = .ok (.getstatic 38, 3)) (hp : pc + 3 = pc') (k : jx_J D L X pc' lv (.int 1 :: st) u) : jx_J D L X pc lv st u := by
  subst hp
  exact fun H locs ls hP hS hl => va_gets hX.1 hX.2.1 hX.2.2.2.2.2.2.2.2.2.1.2.2.1 hS hX.2.2.2.1 (hX.2.2.2.2.1 _ jw_J316) (fun _ h => h) hd (k H locs ls hP hS hl)
theorem jx_tlen (pc' : Nat) (hX : jx_K D L X cc own nL ret rm Qc) {i : Nat} (hi : i < 19) (hd : decode cc pc = .ok (.arraylength, 1)) (hp : pc + 1 = pc') (k : jx_J D L X pc' lv (.int (nI (jx_sln.getD i 0)) :: st) u) : jx_J D L X pc lv (.ref (D.2.2.2.2 i) :: st) u := by
  subst hp
  exact fun H locs ls hP hS hl => va_tlen hX.1 hX.2.1 (hX.2.2.2.2.2.2.2.2.2.1.1.1 i hi).2.2.2 hS rfl hd (k H locs ls hP hS hl)
theorem jx_tbl (pc' : Nat) (hX : jx_K D L X cc own nL ret rm Qc) {i : Nat} {x : Int32} (hi : i < 19) (hx : vp_in x (jx_sln.getD i 0)) (hd : decode cc pc = .ok (.baload, 1)) (hp : pc + 1 = pc') (k : jx_J D L X pc' lv (.int ((jx_sby.getD i []).getD x.toNatClampNeg 0) :: st) u) : jx_J D L X pc lv (.int x :: .ref (D.2.2.2.2 i) :: st) u := by
  subst hp
  exact fun H locs ls hP hS hl => va_tb hX.1 hX.2.1 (hX.2.2.2.2.2.2.2.2.2.1.1.1 i hi).2.2.2 hS hx rfl hd (k H locs ls hP hS hl)
theorem jx_xret {ty : FieldType} {post : Int32 → jx_St → Prop} {v : Int32} (hX : jx_K D L X cc own nL (some ty) rm (jx_Qi D L post)) (hn : narrow ty (.int v) = .int v) (hd : decode cc pc = .ok (.ireturn, 1)) (h : post v u) : jx_J D L X pc lv [.int v] u := by
  intro H locs ls hP hS hl
  show W _ _ _ _ _ _ _ _ _ _ _ _ 0 0 (jx_Q X) _
  rw [hX.2.2.2.2.2.2.2.2.2.2.2.2]
  exact W.zret hX.1 hX.2.1 hX.2.2.2.2.2.2.1 hn (fun t ht hW => ⟨⟨v, u, rfl, h, jx_endB hX hP hS ht hW⟩, hS.F ht⟩) hS.2.2 hd hX.2.2.2.2.2.1
variable {y : MethodName} {bytes : ByteArray} {maxL' : Nat} {ret' : Option FieldType} {rm' : Room} {idx n ci c : Nat} {As st0 : List Value}
/-- a call on a literal -/
theorem jx_callTi (pc' : Nat) {i : Nat} {post : Int32 → jx_St → Prop} (hX : jx_K D L X cc own nL ret rm Qc) (hM : jx_Met X.2.1 y bytes maxL' ret' rm' D L (.ref (D.2.2.2.1 i) :: As) u (jx_Qi D L post)) (hw : jx_cv own idx y bytes maxL' ret' n) (hC : y.cls = "java/lang/String") (hi : i < 19) (hr : jx_rm rm rm' maxL') (hn : As.length = n) (hst : st0 = As.reverse ++ .ref (D.2.2.2.1 i) :: st) (hR : (st.map fun v => v.category).sum ≤ 8) (hd : decode cc pc = .ok (.invokevirtual idx, 3)) (hp : pc + 3 = pc')
    (k : ∀ (r : Int32) (u' : jx_St), post r u' → jx_J D L X pc' lv (.int r :: st) u') : jx_J D L X pc lv st0 u := by
  subst hp
  intro H locs ls hP hS hl
  obtain ⟨hw1, hw2, hw3, hw4, hw5⟩ := hw
  have hrun := va_runV (R := X.2.2.2.1) (As := As) (rest := st) (g := F0 (jx_m X) pc ls st0) (cells := 0) (slots := 0) (locs := locs) (e := X.2.2.1) (below := jx_be X) (meth := jx_me X) ⟨hX.1, hX.2.1, hX.2.2.1, hX.2.2.2.1, hX.2.2.2.2.1⟩ hM (cwV n hX.2.2.2.2.1 (jx_goodIn hw1 hw2) rfl hr.1 hr.2.1 ⟨rfl, hw3, hw4, hw5⟩ (by rw [hX.2.2.2.2.2.2.2.2.2.2.2.1]; exact hr.2.2))
    ⟨jx_blind, by rw [hC]; exact vk_recv hX.2.2.2.2.2.2.2.2.2.1.1 hi hS, fun U hU hW => ⟨rfl, jx_endB hX hP hS hU hW⟩⟩ rfl hn (hl.1.trans hX.2.2.2.2.2.2.2.2.2.2.1) hst (lv_room hR) hd ⟨Nat.zero_le _, Nat.zero_le _⟩
  refine va_calli hrun hS (fun q _ h => h) (fun q h => h) (fun r u' t H1 locs1 ht hvm hpost hB hz hk hS1 => ?_)
  exact k r u' hpost H1 locs1 ls (by rw [← ht]; exact hB.1) hS1 hl
theorem jx_callSv (pc' : Nat) {post : jx_St → Prop} (hX : jx_K D L X cc own nL ret rm Qc) (hM : jx_Met X.2.1 y bytes maxL' ret' rm' D L As u (jx_Qv D L post)) (hw : jx_cs own idx y bytes maxL' ret' n) (hr : jx_rm rm rm' maxL') (hn : As.length = n) (hst : st0 = As.reverse ++ st) (hR : (st.map fun v => v.category).sum ≤ 8) (hd : decode cc pc = .ok (.invokestatic idx, 3)) (hp : pc + 3 = pc')
    (k : ∀ (u' : jx_St), post u' → jx_J D L X pc' lv st u') : jx_J D L X pc lv st0 u := by
  subst hp
  intro H locs ls hP hS hl
  refine va_callv (jx_runS hX hP hS hl hM hw hr hn hst hR hd) hS (fun q _ h => h) (fun q h => h) (fun u' t H1 locs1 ht hvm hpost hB hz hk hS1 => ?_)
  exact k u' hpost H1 locs1 ls (by rw [← ht]; exact hB.1) hS1 hl
end JXJDK
theorem jv_J0_335 : jx_cv RJ0 335 yJ0_coder_7d493 cJ0_coder_7d493 1 (some .byte) 0 := ⟨List.forall_mem_cons.mpr ⟨jx_mem 312 (by decide +kernel) (by decide +kernel), List.forall_mem_cons.mpr ⟨jx_mem 313 (by decide +kernel) (by decide +kernel), List.forall_mem_cons.mpr ⟨jx_mem 314 (by decide +kernel) (by decide +kernel), List.forall_mem_cons.mpr ⟨jx_mem 71 (by decide +kernel) (by decide +kernel), fun _ h => absurd h List.not_mem_nil⟩⟩⟩⟩, jx_mem 315 (by decide +kernel) (by decide +kernel), by decide, by decide, by decide +kernel⟩
theorem jv_J0_492 : jx_cv RJ0 492 yJ0_isLatin1_aae02 cJ0_isLatin1_aae02 1 (some .boolean) 0 := ⟨List.forall_mem_cons.mpr ⟨jx_mem 326 (by decide +kernel) (by decide +kernel), List.forall_mem_cons.mpr ⟨jx_mem 327 (by decide +kernel) (by decide +kernel), List.forall_mem_cons.mpr ⟨jx_mem 328 (by decide +kernel) (by decide +kernel), List.forall_mem_cons.mpr ⟨jx_mem 71 (by decide +kernel) (by decide +kernel), fun _ h => absurd h List.not_mem_nil⟩⟩⟩⟩, jx_mem 329 (by decide +kernel) (by decide +kernel), by decide, by decide, by decide +kernel⟩
theorem js_J0_495 : jx_cs RJ0 495 yJ1_charAt_3b067 cJ1_charAt_3b067 2 (some .char) 2 := ⟨List.forall_mem_cons.mpr ⟨jx_mem 330 (by decide +kernel) (by decide +kernel), List.forall_mem_cons.mpr ⟨jx_mem 331 (by decide +kernel) (by decide +kernel), List.forall_mem_cons.mpr ⟨jx_mem 72 (by decide +kernel) (by decide +kernel), fun _ h => absurd h List.not_mem_nil⟩⟩⟩, jx_mem 332 (by decide +kernel) (by decide +kernel), by decide, by decide, by decide +kernel⟩
theorem js_J1_9 : jx_cs RJ1 9 yJ0_checkIndex_df160 cJ0_checkIndex_df160 2 none 2 := ⟨List.forall_mem_cons.mpr ⟨jx_mem 333 (by decide +kernel) (by decide +kernel), List.forall_mem_cons.mpr ⟨jx_mem 334 (by decide +kernel) (by decide +kernel), List.forall_mem_cons.mpr ⟨jx_mem 71 (by decide +kernel) (by decide +kernel), fun _ h => absurd h List.not_mem_nil⟩⟩⟩, jx_mem 335 (by decide +kernel) (by decide +kernel), by decide, by decide, by decide +kernel⟩
theorem js_J0_1059 : jx_cs RJ0 1059 yJ3_checkIndex_8e157 cJ3_checkIndex_8e157 3 (some .int) 3 := ⟨List.forall_mem_cons.mpr ⟨jx_mem 338 (by decide +kernel) (by decide +kernel), List.forall_mem_cons.mpr ⟨jx_mem 339 (by decide +kernel) (by decide +kernel), List.forall_mem_cons.mpr ⟨jx_mem 73 (by decide +kernel) (by decide +kernel), fun _ h => absurd h List.not_mem_nil⟩⟩⟩, jx_mem 340 (by decide +kernel) (by decide +kernel), by decide, by decide, by decide +kernel⟩
set_option maxRecDepth 100000 in
theorem mJ_coder (l : Launch) (D : jx_Dt) (L : jx_Ly) (i : Nat) (hi : i < 19) (u : jx_St) : jx_Met l yJ0_coder_7d493 cJ0_coder_7d493 1 (some .byte) (jx_r 0 0) D L [.ref (D.2.2.2.1 i)] u (jx_Qi D L (fun r u' => r = 0 ∧ u' = u)) := by
  refine jx_ofJ (by decide) (Nat.le_of_ble_eq_true rfl) (fun X hl hX => ?_)
  subst hl
  replace hX : jx_K D L X cJ0_coder_7d493 RJ0 1 (some .byte) (jx_r 0 0) (jx_Qi D L (fun r u' => r = 0 ∧ u' = u)) := hX
  show jx_J D L X 0 [(0, .ref (D.2.2.2.1 i))] [] u
  refine jx_gst 3 hX dJ0_coder_7d493_0 rfl ?_
  refine jx_if_eq 6 13 hX dJ0_coder_7d493_3 rfl (by decide) (fun h => absurd h (by decide)) (fun _ => ?_)
  refine jx_aload_n 7 hX 0 rfl rfl dJ0_coder_7d493_6 rfl (jx_gsc 10 hX hi dJ0_coder_7d493_7 rfl (jx_goto 14 hX dJ0_coder_7d493_10 (by decide) ?_))
  exact jx_xret hX (by decide) dJ0_coder_7d493_14 ⟨rfl, rfl⟩
set_option maxRecDepth 100000 in
theorem mJ_latin (l : Launch) (D : jx_Dt) (L : jx_Ly) (i : Nat) (hi : i < 19) (u : jx_St) : jx_Met l yJ0_isLatin1_aae02 cJ0_isLatin1_aae02 1 (some .boolean) (jx_r 0 0) D L [.ref (D.2.2.2.1 i)] u (jx_Qi D L (fun r u' => r = 1 ∧ u' = u)) := by
  refine jx_ofJ (by decide) (Nat.le_of_ble_eq_true rfl) (fun X hl hX => ?_)
  subst hl
  replace hX : jx_K D L X cJ0_isLatin1_aae02 RJ0 1 (some .boolean) (jx_r 0 0) (jx_Qi D L (fun r u' => r = 1 ∧ u' = u)) := hX
  show jx_J D L X 0 [(0, .ref (D.2.2.2.1 i))] [] u
  refine jx_gst 3 hX dJ0_isLatin1_aae02_0 rfl ?_
  refine jx_if_eq 6 17 hX dJ0_isLatin1_aae02_3 rfl (by decide) (fun h => absurd h (by decide)) (fun _ => ?_)
  refine jx_aload_n 7 hX 0 rfl rfl dJ0_isLatin1_aae02_6 rfl (jx_gsc 10 hX hi dJ0_isLatin1_aae02_7 rfl ?_)
  refine jx_if_ne 13 17 hX dJ0_isLatin1_aae02_10 rfl (by decide) (fun h => absurd rfl h) (fun _ => ?_)
  refine jx_iconst 14 hX 1 (by decide) dJ0_isLatin1_aae02_13 rfl (jx_goto 18 hX dJ0_isLatin1_aae02_14 (by decide) ?_)
  exact jx_xret hX (by decide) dJ0_isLatin1_aae02_18 ⟨rfl, rfl⟩
set_option maxRecDepth 100000 in
theorem jx_slnB : ∀ i, i < 19 → jx_sln.getD i 0 < 100 := by decide
set_option maxRecDepth 100000 in
theorem mJ_len (l : Launch) (D : jx_Dt) (L : jx_Ly) (i : Nat) (hi : i < 19) (u : jx_St) : jx_Met l yJ0_length_8abf5 cJ0_length_8abf5 1 (some .int) (jx_r 1 20) D L [.ref (D.2.2.2.1 i)] u (jx_Qi D L (fun r u' => r = nI (jx_sln.getD i 0) ∧ u' = u)) := by
  refine jx_ofJ (by decide) (Nat.le_of_ble_eq_true rfl) (fun X hl hX => ?_)
  subst hl
  replace hX : jx_K D L X cJ0_length_8abf5 RJ0 1 (some .int) (jx_r 1 20) (jx_Qi D L (fun r u' => r = nI (jx_sln.getD i 0) ∧ u' = u)) := hX
  show jx_J D L X 0 [(0, .ref (D.2.2.2.1 i))] [] u
  refine jx_aload_n 1 hX 0 rfl rfl dJ0_length_8abf5_0 rfl (jx_gsv 4 hX hi dJ0_length_8abf5_1 rfl (jx_tlen 5 hX hi dJ0_length_8abf5_4 rfl (jx_aload_n 6 hX 0 rfl rfl dJ0_length_8abf5_5 rfl ?_)))
  refine jx_callTi 9 hX (mJ_coder _ D L i hi u) jv_J0_335 rfl hi ⟨rfl, rfl, by decide, by decide⟩ rfl rfl (Nat.le_of_ble_eq_true rfl) dJ0_length_8abf5_6 rfl (fun r u' h => ?_)
  obtain ⟨rfl, rfl⟩ := h
  refine jx_ishr 10 hX dJ0_length_8abf5_9 rfl ?_
  exact jx_iret hX dJ0_length_8abf5_10 ⟨sc_shr0 (by have := jx_slnB i hi; omega), rfl⟩
set_option maxRecDepth 100000 in
theorem mJ_pre (l : Launch) (D : jx_Dt) (L : jx_Ly) (x z : Int32) (w : Value) (hw : w = .null ∨ ∃ t, w = .ref t) (h0 : ¬ x < 0) (h1 : x < z) (u : jx_St) : jx_Met l yJ3_checkIndex_8e157 cJ3_checkIndex_8e157 3 (some .int) (jx_r 0 0) D L [.int x, .int z, w] u (jx_Qi D L (fun r u' => u' = u)) := by
  rcases hw with rfl | ⟨t, rfl⟩
  · refine jx_ofJ (by decide) (Nat.le_of_ble_eq_true rfl) (fun X hl hX => ?_)
    subst hl
    replace hX : jx_K D L X cJ3_checkIndex_8e157 RJ3 3 (some .int) (jx_r 0 0) (jx_Qi D L (fun r u' => u' = u)) := hX
    show jx_J D L X 0 [(0, .int x), (1, .int z), (2, .null)] [] u
    refine jx_iload_n 1 hX 0 rfl rfl dJ3_checkIndex_8e157_0 rfl (jx_if_lt 4 9 hX dJ3_checkIndex_8e157_1 rfl (by decide) (fun h => absurd h h0) (fun _ => ?_))
    refine jx_iload_n 5 hX 0 rfl rfl dJ3_checkIndex_8e157_4 rfl (jx_iload_n 6 hX 1 rfl rfl dJ3_checkIndex_8e157_5 rfl (jx_icmp_lt 9 16 hX dJ3_checkIndex_8e157_6 rfl (by decide) (fun _ => ?_) (fun h => absurd h1 h)))
    exact jx_iload_n 17 hX 0 rfl rfl dJ3_checkIndex_8e157_16 rfl (jx_iret hX dJ3_checkIndex_8e157_17 rfl)
  · refine jx_ofJ (by decide) (Nat.le_of_ble_eq_true rfl) (fun X hl hX => ?_)
    subst hl
    replace hX : jx_K D L X cJ3_checkIndex_8e157 RJ3 3 (some .int) (jx_r 0 0) (jx_Qi D L (fun r u' => u' = u)) := hX
    show jx_J D L X 0 [(0, .int x), (1, .int z), (2, .ref t)] [] u
    refine jx_iload_n 1 hX 0 rfl rfl dJ3_checkIndex_8e157_0 rfl (jx_if_lt 4 9 hX dJ3_checkIndex_8e157_1 rfl (by decide) (fun h => absurd h h0) (fun _ => ?_))
    refine jx_iload_n 5 hX 0 rfl rfl dJ3_checkIndex_8e157_4 rfl (jx_iload_n 6 hX 1 rfl rfl dJ3_checkIndex_8e157_5 rfl (jx_icmp_lt 9 16 hX dJ3_checkIndex_8e157_6 rfl (by decide) (fun _ => ?_) (fun h => absurd h1 h)))
    exact jx_iload_n 17 hX 0 rfl rfl dJ3_checkIndex_8e157_16 rfl (jx_iret hX dJ3_checkIndex_8e157_17 rfl)
set_option maxRecDepth 100000 in
theorem mJ_ck (l : Launch) (D : jx_Dt) (L : jx_Ly) (x z : Int32) (h0 : ¬ x < 0) (h1 : x < z) (u : jx_St) : jx_Met l yJ0_checkIndex_df160 cJ0_checkIndex_df160 2 none (jx_r 1 22) D L [.int x, .int z] u (jx_Qv D L (fun u' => u' = u)) := by
  refine jx_ofJ (by decide) (Nat.le_of_ble_eq_true rfl) (fun X hl hX => ?_)
  subst hl
  replace hX : jx_K D L X cJ0_checkIndex_df160 RJ0 2 none (jx_r 1 22) (jx_Qv D L (fun u' => u' = u)) := hX
  show jx_J D L X 0 [(0, .int x), (1, .int z)] [] u
  refine jx_iload_n 1 hX 0 rfl rfl dJ0_checkIndex_df160_0 rfl (jx_iload_n 2 hX 1 rfl rfl dJ0_checkIndex_df160_1 rfl ?_)
  have key : ∀ w : Value, (w = .null ∨ ∃ t, w = .ref t) → jx_J D L X 5 [(0, .int x), (1, .int z)] [w, .int z, .int x] u := by
    intro w hw
    refine jx_callSi 8 hX (mJ_pre _ D L x z w hw h0 h1 u) js_J0_1059 ⟨rfl, rfl, by decide, by decide⟩ rfl rfl (Nat.le_of_ble_eq_true rfl) dJ0_checkIndex_df160_5 rfl (fun r u' h => ?_)
    subst h
    exact jx_pop 9 hX rfl dJ0_checkIndex_df160_8 rfl (jx_vret hX dJ0_checkIndex_df160_9 rfl)
  rcases hX.2.2.2.2.2.2.2.2.2.1.2.2.2 with hz | ⟨t, hz⟩
  · exact fun H locs ls hP hS hl => va_gets hX.1 hX.2.1 hz hS hX.2.2.2.1 (hX.2.2.2.2.1 _ jw_J336) (fun _ h => h) dJ0_checkIndex_df160_2 (key .null (Or.inl rfl) H locs ls hP hS hl)
  · exact fun H locs ls hP hS hl => va_gets hX.1 hX.2.1 hz hS hX.2.2.2.1 (hX.2.2.2.2.1 _ jw_J336) (fun _ h => h) dJ0_checkIndex_df160_2 (key (.ref t) (Or.inr ⟨t, rfl⟩) H locs ls hP hS hl)
theorem jx_vin {x : Int32} {n : Nat} (hn : n < 2 ^ 31) (h : vp_in x n) : ¬ x < 0 ∧ x < nI n := by
  obtain ⟨j, hj, rfl⟩ := vp_in_of h hn
  exact ⟨nI_pos (by omega), nI_lt hj hn⟩
set_option maxRecDepth 100000 in
theorem mJ_l1 (l : Launch) (D : jx_Dt) (L : jx_Ly) (i : Nat) (x : Int32) (hi : i < 19) (hx : vp_in x (jx_sln.getD i 0)) (u : jx_St) : jx_Met l yJ1_charAt_3b067 cJ1_charAt_3b067 2 (some .char) (jx_r 2 43) D L [.ref (D.2.2.2.2 i), .int x] u (jx_Qi D L (fun r u' => r = jx_sch i x.toNatClampNeg ∧ u' = u)) := by
  refine jx_ofJ (by decide) (Nat.le_of_ble_eq_true rfl) (fun X hl hX => ?_)
  subst hl
  replace hX : jx_K D L X cJ1_charAt_3b067 RJ1 2 (some .char) (jx_r 2 43) (jx_Qi D L (fun r u' => r = jx_sch i x.toNatClampNeg ∧ u' = u)) := hX
  show jx_J D L X 0 [(0, .ref (D.2.2.2.2 i)), (1, .int x)] [] u
  obtain ⟨h0, h1⟩ := jx_vin (by have := jx_slnB i hi; omega) hx
  refine jx_iload_n 1 hX 1 rfl rfl dJ1_charAt_3b067_0 rfl (jx_aload_n 2 hX 0 rfl rfl dJ1_charAt_3b067_1 rfl (jx_tlen 3 hX hi dJ1_charAt_3b067_2 rfl ?_))
  refine jx_callSv 6 hX (mJ_ck _ D L x _ h0 h1 u) js_J1_9 ⟨rfl, rfl, by decide, by decide⟩ rfl rfl (Nat.le_of_ble_eq_true rfl) dJ1_charAt_3b067_3 rfl (fun u' h => ?_)
  subst h
  refine jx_aload_n 7 hX 0 rfl rfl dJ1_charAt_3b067_6 rfl (jx_iload_n 8 hX 1 rfl rfl dJ1_charAt_3b067_7 rfl (jx_tbl 9 hX hi hx dJ1_charAt_3b067_8 rfl (jx_sipush 12 hX 255 (by decide) dJ1_charAt_3b067_9 rfl (jx_iand 13 hX dJ1_charAt_3b067_12 rfl (jx_i2c 14 hX dJ1_charAt_3b067_13 rfl ?_)))))
  exact jx_xret hX (pk_nc _) dJ1_charAt_3b067_14 ⟨rfl, rfl⟩
set_option maxRecDepth 100000 in
theorem mJ_chr (l : Launch) (D : jx_Dt) (L : jx_Ly) (i : Nat) (x : Int32) (hi : i < 19) (hx : vp_in x (jx_sln.getD i 0)) (u : jx_St) : jx_Met l yJ0_charAt_5068e cJ0_charAt_5068e 2 (some .char) (jx_r 4 120) D L [.ref (D.2.2.2.1 i), .int x] u (jx_Qi D L (fun r u' => r = jx_sch i x.toNatClampNeg ∧ u' = u)) := by
  refine jx_ofJ (by decide) (Nat.le_of_ble_eq_true rfl) (fun X hl hX => ?_)
  subst hl
  replace hX : jx_K D L X cJ0_charAt_5068e RJ0 2 (some .char) (jx_r 4 120) (jx_Qi D L (fun r u' => r = jx_sch i x.toNatClampNeg ∧ u' = u)) := hX
  show jx_J D L X 0 [(0, .ref (D.2.2.2.1 i)), (1, .int x)] [] u
  refine jx_aload_n 1 hX 0 rfl rfl dJ0_charAt_5068e_0 rfl ?_
  refine jx_callTi 4 hX (mJ_latin _ D L i hi u) jv_J0_492 rfl hi ⟨rfl, rfl, by decide, by decide⟩ rfl rfl (Nat.le_of_ble_eq_true rfl) dJ0_charAt_5068e_1 rfl (fun r u' h => ?_)
  obtain ⟨rfl, rfl⟩ := h
  refine jx_if_eq 7 16 hX dJ0_charAt_5068e_4 rfl (by decide) (fun h => absurd h (by decide)) (fun _ => ?_)
  refine jx_aload_n 8 hX 0 rfl rfl dJ0_charAt_5068e_7 rfl (jx_gsv 11 hX hi dJ0_charAt_5068e_8 rfl (jx_iload_n 12 hX 1 rfl rfl dJ0_charAt_5068e_11 rfl ?_))
  refine jx_callSi 15 hX (mJ_l1 _ D L i x hi hx u') js_J0_495 ⟨rfl, rfl, by decide, by decide⟩ rfl rfl (Nat.le_of_ble_eq_true rfl) dJ0_charAt_5068e_12 rfl (fun r u2 h => ?_)
  obtain ⟨rfl, rfl⟩ := h
  exact jx_xret hX (pk_nc _) dJ0_charAt_5068e_15 ⟨rfl, rfl⟩
section JXSTR
variable {D : jx_Dt} {L : jx_Ly} {X : jx_X} {cc : ByteArray} {own : String} {nL : Nat} {ret : Option FieldType} {rm : Room} {Qc : Array Value → State → Outcome → State → Prop} {pc : Nat} {lv : List (Nat × Value)} {st : List Value} {u : jx_St} {idx : Nat}
theorem jx_slen (pc' : Nat) (hX : jx_K D L X cc own nL ret rm Qc) {i : Nat} (hi : i < 19) (hw : jx_cv own idx yJ0_length_8abf5 cJ0_length_8abf5 1 (some .int) 0) (hr : 2 ≤ rm.frames ∧ 40 ≤ rm.locals) (hR : (st.map fun v => v.category).sum ≤ 8) (hd : decode cc pc = .ok (.invokevirtual idx, 3)) (hp : pc + 3 = pc') (k : jx_J D L X pc' lv (.int (nI (jx_sln.getD i 0)) :: st) u) : jx_J D L X pc lv (.ref (D.2.2.2.1 i) :: st) u :=
  jx_callTi pc' (As := []) hX (mJ_len _ D L i hi u) hw rfl hi ⟨rfl, rfl, hr.1, hr.2⟩ rfl rfl hR hd hp (fun r u' h => by obtain ⟨rfl, rfl⟩ := h; exact k)
theorem jx_scat (pc' : Nat) (hX : jx_K D L X cc own nL ret rm Qc) {i : Nat} {x : Int32} (hi : i < 19) (hx : vp_in x (jx_sln.getD i 0)) (hw : jx_cv own idx yJ0_charAt_5068e cJ0_charAt_5068e 2 (some .char) 1) (hr : 5 ≤ rm.frames ∧ 141 ≤ rm.locals) (hR : (st.map fun v => v.category).sum ≤ 8) (hd : decode cc pc = .ok (.invokevirtual idx, 3)) (hp : pc + 3 = pc') (k : jx_J D L X pc' lv (.int (jx_sch i x.toNatClampNeg) :: st) u) : jx_J D L X pc lv (.int x :: .ref (D.2.2.2.1 i) :: st) u :=
  jx_callTi pc' (As := [.int x]) hX (mJ_chr _ D L i x hi hx u) hw rfl hi ⟨rfl, rfl, hr.1, hr.2⟩ rfl rfl hR hd hp (fun r u' h => by obtain ⟨rfl, rfl⟩ := h; exact k)
end JXSTR
