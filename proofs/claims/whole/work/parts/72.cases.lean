/-! ===== the law: its cases, its loop ===== -/
/-- what is fixed over the law's run -/
def lw_F (p : Program) (s : State) (m : MethodId) (c : Code) (b L : Nat) (xs : Nat → Int32) (D D' : jx_Dt) : Prop :=
  p.tables.exec = Jvm.exec ∧ c.code = code ∧ c.maxLocals = 4 ∧ s.vm.findClass R_law = some m.cls ∧ (∀ w ∈ jx_tb, w.before #[Value.ref b] s = true) ∧ va_X b L xs s s.heap ∧ b < s.heap.size ∧ L ≤ 2048 ∧ lw_C D jx_LX s ∧ lw_C D' jx_LM s ∧ (∀ q : Nat, jx_A D' jx_LM q → ¬ jx_A D jx_LX q)
section LWL
variable {p : Program} {l : Launch} {e : Env} {s : State} {m : MethodId} {below : List Frame} {meth : Method} {c : Code} {H : Heap} {locs : List Loc} {Q : State → Prop} {b L i : Nat} {xs : Nat → Int32} {D D' : jx_Dt} {x um : jx_St} {ls : Array Slot}
set_option maxHeartbeats 1000000 in
theorem lc_type (C : lw_F p s m c b L xs D D') (hi : i + 4 ≤ L) (hq : Rl x um) (hP : va_P D.1 vwCl (jx_w D jx_LX x) H) (hP' : va_P D'.1 vwCl (jx_w D' jx_LM um) H) (hS : va_S (fun q : Nat => s.heap.size ≤ q) s.heap H locs) (hl : lv_has ls 4 [(3, .int (nI i)), (2, .ref (D'.2.1 0)), (1, .ref (D.2.1 0)), (0, .ref b)]) (k : ∀ (x' um' : jx_St) (H1 : Heap) (locs1 : List Loc), Rl x' um' → va_P D.1 vwCl (jx_w D jx_LX x') H1 → va_P D'.1 vwCl (jx_w D' jx_LM um') H1 → va_S (fun q : Nat => s.heap.size ≤ q) s.heap H1 locs1 → W p l e room_1 s m #[Value.ref b] below meth c H1 locs1 82 7768 Q (F0 m 533 ls [])) : W p l e room_1 s m #[Value.ref b] below meth c H locs 82 7768 Q (F0 m 108 ls []) := by
  obtain ⟨hx, hb, hml, hown, htb, hX, hbl, hL, hC, hC', hdis⟩ := C
  refine lv_aload_n hx hb dL_108 rfl (lv_at hl 2 rfl) ?_
  refine lw_ld (k := 1) hx hb hX hbl hS hl hL (by omega) rfl dL_109 dL_110 dL_111 dL_112 dL_113 ?_
  refine lv_i2l hx hb dL_114 rfl ?_
  refine lv_bipush (v := 32) hx hb dL_115 (by decide) ?_
  refine lv_lshl hx hb dL_117 rfl ?_
  refine lw_ld (k := 2) hx hb hX hbl hS hl hL (by omega) rfl dL_118 dL_119 dL_120 dL_121 dL_122 ?_
  refine lv_i2l hx hb dL_123 rfl ?_
  refine lv_ldc2 (v := 4294967295) hx hb hown (htb _ (jx_mem 982 (by decide +kernel) (by decide +kernel))) dL_124 ?_
  refine lv_land hx hb dL_127 ?_
  refine lv_lor hx hb dL_128 ?_
  refine lw_ld (k := 3) hx hb hX hbl hS hl hL (by omega) rfl dL_129 dL_130 dL_131 dL_132 dL_133 ?_
  refine lw_call (D := D) (L := jx_LX) (D' := D') (L' := jx_LM) (u := x) (u' := um) (c0 := 0) (ci := 3) (As := [.long _, .int (xs (i + 3))]) (st := []) hx hb hml hown htb hC hC'.2.1 hdis hP hP' hS hl (mX3_type l D _ 0 _ _ x (q_type hq _ _)) jv_L_15 ⟨by decide, _, _, rfl⟩ ⟨by decide, rfl⟩ ⟨rfl, rfl, by decide, by decide⟩ rfl rfl (Nat.le_of_ble_eq_true rfl) dL_134 (by decide) (by decide) (fun r x' H1 locs1 hpost hP hP' hS => ?_)
  refine lv_aload_n hx hb dL_137 rfl (lv_at hl 1 rfl) ?_
  refine lw_ld (k := 1) hx hb hX hbl hS hl hL (by omega) rfl dL_138 dL_139 dL_140 dL_141 dL_142 ?_
  refine lv_i2l hx hb dL_143 rfl ?_
  refine lv_bipush (v := 32) hx hb dL_144 (by decide) ?_
  refine lv_lshl hx hb dL_146 rfl ?_
  refine lw_ld (k := 2) hx hb hX hbl hS hl hL (by omega) rfl dL_147 dL_148 dL_149 dL_150 dL_151 ?_
  refine lv_i2l hx hb dL_152 rfl ?_
  refine lv_ldc2 (v := 4294967295) hx hb hown (htb _ (jx_mem 982 (by decide +kernel) (by decide +kernel))) dL_153 ?_
  refine lv_land hx hb dL_156 ?_
  refine lv_lor hx hb dL_157 ?_
  refine lw_ld (k := 3) hx hb hX hbl hS hl hL (by omega) rfl dL_158 dL_159 dL_160 dL_161 dL_162 ?_
  refine lw_call (D := D') (L := jx_LM) (D' := D) (L' := jx_LX) (u := um) (u' := x') (c0 := 0) (ci := 4) (As := [.long _, .int (xs (i + 3))]) (st := [.int r]) hx hb hml hown htb hC' hC.2.1 (fun q h1 h2 => hdis q h2 h1) hP' hP hS hl (mX4_type l D' _ 0 _ _ um hpost) jv_L_19 ⟨by decide, _, _, rfl⟩ ⟨by decide, rfl⟩ ⟨rfl, rfl, by decide, by decide⟩ rfl rfl (Nat.le_of_ble_eq_true rfl) dL_163 (by decide) (by decide) (fun r' um' H1 locs1 hpost hP' hP hS => ?_)
  obtain ⟨er, hR⟩ := hpost
  refine lv_icmp_eq (tgt := 533) hx hb dL_166 (by decide) (fun _ => k x' um' H1 locs1 hR hP hP' hS) (fun z => absurd er z)
set_option maxHeartbeats 1000000 in
theorem lc_read (C : lw_F p s m c b L xs D D') (hi : i + 4 ≤ L) (hq : Rl x um) (hP : va_P D.1 vwCl (jx_w D jx_LX x) H) (hP' : va_P D'.1 vwCl (jx_w D' jx_LM um) H) (hS : va_S (fun q : Nat => s.heap.size ≤ q) s.heap H locs) (hl : lv_has ls 4 [(3, .int (nI i)), (2, .ref (D'.2.1 0)), (1, .ref (D.2.1 0)), (0, .ref b)]) (k : ∀ (x' um' : jx_St) (H1 : Heap) (locs1 : List Loc), Rl x' um' → va_P D.1 vwCl (jx_w D jx_LX x') H1 → va_P D'.1 vwCl (jx_w D' jx_LM um') H1 → va_S (fun q : Nat => s.heap.size ≤ q) s.heap H1 locs1 → W p l e room_1 s m #[Value.ref b] below meth c H1 locs1 82 7768 Q (F0 m 533 ls [])) : W p l e room_1 s m #[Value.ref b] below meth c H locs 82 7768 Q (F0 m 171 ls []) := by
  obtain ⟨hx, hb, hml, hown, htb, hX, hbl, hL, hC, hC', hdis⟩ := C
  refine lv_aload_n hx hb dL_171 rfl (lv_at hl 2 rfl) ?_
  refine lw_ld (k := 1) hx hb hX hbl hS hl hL (by omega) rfl dL_172 dL_173 dL_174 dL_175 dL_176 ?_
  refine lw_call (D := D) (L := jx_LX) (D' := D') (L' := jx_LM) (u := x) (u' := um) (c0 := 0) (ci := 3) (As := [.int (xs (i + 1))]) (st := []) hx hb hml hown htb hC hC'.2.1 hdis hP hP' hS hl (mX3_read l D _ 0 (xs (i + 1)) x (q_read hq (xs (i + 1)))) jv_L_20 ⟨by decide, _, _, rfl⟩ ⟨by decide, rfl⟩ ⟨rfl, rfl, by decide, by decide⟩ rfl rfl (Nat.le_of_ble_eq_true rfl) dL_177 (by decide) (by decide) (fun r x' H1 locs1 hpost hP hP' hS => ?_)
  refine lv_aload_n hx hb dL_180 rfl (lv_at hl 1 rfl) ?_
  refine lw_ld (k := 1) hx hb hX hbl hS hl hL (by omega) rfl dL_181 dL_182 dL_183 dL_184 dL_185 ?_
  refine lw_call (D := D') (L := jx_LM) (D' := D) (L' := jx_LX) (u := um) (u' := x') (c0 := 0) (ci := 4) (As := [.int (xs (i + 1))]) (st := [.int r]) hx hb hml hown htb hC' hC.2.1 (fun q h1 h2 => hdis q h2 h1) hP' hP hS hl (mX4_read l D' _ 0 (xs (i + 1)) um hpost) jv_L_24 ⟨by decide, _, _, rfl⟩ ⟨by decide, rfl⟩ ⟨rfl, rfl, by decide, by decide⟩ rfl rfl (Nat.le_of_ble_eq_true rfl) dL_186 (by decide) (by decide) (fun r' um' H1 locs1 hpost hP' hP hS => ?_)
  obtain ⟨er, hR⟩ := hpost
  refine lv_icmp_eq (tgt := 533) hx hb dL_189 (by decide) (fun _ => k x' um' H1 locs1 hR hP hP' hS) (fun z => absurd er z)
set_option maxHeartbeats 1000000 in
theorem lc_told (C : lw_F p s m c b L xs D D') (hi : i + 4 ≤ L) (hq : Rl x um) (hP : va_P D.1 vwCl (jx_w D jx_LX x) H) (hP' : va_P D'.1 vwCl (jx_w D' jx_LM um) H) (hS : va_S (fun q : Nat => s.heap.size ≤ q) s.heap H locs) (hl : lv_has ls 4 [(3, .int (nI i)), (2, .ref (D'.2.1 0)), (1, .ref (D.2.1 0)), (0, .ref b)]) (k : ∀ (x' um' : jx_St) (H1 : Heap) (locs1 : List Loc), Rl x' um' → va_P D.1 vwCl (jx_w D jx_LX x') H1 → va_P D'.1 vwCl (jx_w D' jx_LM um') H1 → va_S (fun q : Nat => s.heap.size ≤ q) s.heap H1 locs1 → W p l e room_1 s m #[Value.ref b] below meth c H1 locs1 82 7768 Q (F0 m 533 ls [])) : W p l e room_1 s m #[Value.ref b] below meth c H locs 82 7768 Q (F0 m 194 ls []) := by
  obtain ⟨hx, hb, hml, hown, htb, hX, hbl, hL, hC, hC', hdis⟩ := C
  refine lv_aload_n hx hb dL_194 rfl (lv_at hl 2 rfl) ?_
  refine lw_ld (k := 1) hx hb hX hbl hS hl hL (by omega) rfl dL_195 dL_196 dL_197 dL_198 dL_199 ?_
  refine lw_call (D := D) (L := jx_LX) (D' := D') (L' := jx_LM) (u := x) (u' := um) (c0 := 0) (ci := 3) (As := [.int (xs (i + 1))]) (st := []) hx hb hml hown htb hC hC'.2.1 hdis hP hP' hS hl (mX3_told l D _ 0 (xs (i + 1)) x (q_told hq (xs (i + 1)))) jv_L_25 ⟨by decide, _, _, rfl⟩ ⟨by decide, rfl⟩ ⟨rfl, rfl, by decide, by decide⟩ rfl rfl (Nat.le_of_ble_eq_true rfl) dL_200 (by decide) (by decide) (fun r x' H1 locs1 hpost hP hP' hS => ?_)
  refine lv_aload_n hx hb dL_203 rfl (lv_at hl 1 rfl) ?_
  refine lw_ld (k := 1) hx hb hX hbl hS hl hL (by omega) rfl dL_204 dL_205 dL_206 dL_207 dL_208 ?_
  refine lw_call (D := D') (L := jx_LM) (D' := D) (L' := jx_LX) (u := um) (u' := x') (c0 := 0) (ci := 4) (As := [.int (xs (i + 1))]) (st := [.int r]) hx hb hml hown htb hC' hC.2.1 (fun q h1 h2 => hdis q h2 h1) hP' hP hS hl (mX4_told l D' _ 0 (xs (i + 1)) um hpost) jv_L_28 ⟨by decide, _, _, rfl⟩ ⟨by decide, rfl⟩ ⟨rfl, rfl, by decide, by decide⟩ rfl rfl (Nat.le_of_ble_eq_true rfl) dL_209 (by decide) (by decide) (fun r' um' H1 locs1 hpost hP' hP hS => ?_)
  obtain ⟨er, hR⟩ := hpost
  refine lv_icmp_eq (tgt := 533) hx hb dL_212 (by decide) (fun _ => k x' um' H1 locs1 hR hP hP' hS) (fun z => absurd er z)
set_option maxHeartbeats 1000000 in
theorem lc_group (C : lw_F p s m c b L xs D D') (hi : i + 4 ≤ L) (hq : Rl x um) (hP : va_P D.1 vwCl (jx_w D jx_LX x) H) (hP' : va_P D'.1 vwCl (jx_w D' jx_LM um) H) (hS : va_S (fun q : Nat => s.heap.size ≤ q) s.heap H locs) (hl : lv_has ls 4 [(3, .int (nI i)), (2, .ref (D'.2.1 0)), (1, .ref (D.2.1 0)), (0, .ref b)]) (k : ∀ (x' um' : jx_St) (H1 : Heap) (locs1 : List Loc), Rl x' um' → va_P D.1 vwCl (jx_w D jx_LX x') H1 → va_P D'.1 vwCl (jx_w D' jx_LM um') H1 → va_S (fun q : Nat => s.heap.size ≤ q) s.heap H1 locs1 → W p l e room_1 s m #[Value.ref b] below meth c H1 locs1 82 7768 Q (F0 m 533 ls [])) : W p l e room_1 s m #[Value.ref b] below meth c H locs 82 7768 Q (F0 m 217 ls []) := by
  obtain ⟨hx, hb, hml, hown, htb, hX, hbl, hL, hC, hC', hdis⟩ := C
  refine lv_aload_n hx hb dL_217 rfl (lv_at hl 2 rfl) ?_
  refine lw_ld (k := 1) hx hb hX hbl hS hl hL (by omega) rfl dL_218 dL_219 dL_220 dL_221 dL_222 ?_
  refine lw_ld (k := 2) hx hb hX hbl hS hl hL (by omega) rfl dL_223 dL_224 dL_225 dL_226 dL_227 ?_
  refine lw_call (D := D) (L := jx_LX) (D' := D') (L' := jx_LM) (u := x) (u' := um) (c0 := 0) (ci := 3) (As := [.int (xs (i + 1)), .int (xs (i + 2))]) (st := []) hx hb hml hown htb hC hC'.2.1 hdis hP hP' hS hl (mX3_group l D _ 0 (xs (i + 1)) (xs (i + 2)) x (q_group hq (xs (i + 1)) (xs (i + 2)))) jv_L_29 ⟨by decide, _, _, rfl⟩ ⟨by decide, rfl⟩ ⟨rfl, rfl, by decide, by decide⟩ rfl rfl (Nat.le_of_ble_eq_true rfl) dL_228 (by decide) (by decide) (fun r x' H1 locs1 hpost hP hP' hS => ?_)
  refine lv_aload_n hx hb dL_231 rfl (lv_at hl 1 rfl) ?_
  refine lw_ld (k := 1) hx hb hX hbl hS hl hL (by omega) rfl dL_232 dL_233 dL_234 dL_235 dL_236 ?_
  refine lw_ld (k := 2) hx hb hX hbl hS hl hL (by omega) rfl dL_237 dL_238 dL_239 dL_240 dL_241 ?_
  refine lw_call (D := D') (L := jx_LM) (D' := D) (L' := jx_LX) (u := um) (u' := x') (c0 := 0) (ci := 4) (As := [.int (xs (i + 1)), .int (xs (i + 2))]) (st := [.int r]) hx hb hml hown htb hC' hC.2.1 (fun q h1 h2 => hdis q h2 h1) hP' hP hS hl (mX4_group l D' _ 0 (xs (i + 1)) (xs (i + 2)) um hpost) jv_L_33 ⟨by decide, _, _, rfl⟩ ⟨by decide, rfl⟩ ⟨rfl, rfl, by decide, by decide⟩ rfl rfl (Nat.le_of_ble_eq_true rfl) dL_242 (by decide) (by decide) (fun r' um' H1 locs1 hpost hP' hP hS => ?_)
  obtain ⟨er, hR⟩ := hpost
  refine lv_icmp_eq (tgt := 533) hx hb dL_245 (by decide) (fun _ => k x' um' H1 locs1 hR hP hP' hS) (fun z => absurd er z)
set_option maxHeartbeats 1000000 in
theorem lc_weather (C : lw_F p s m c b L xs D D') (hi : i + 4 ≤ L) (hq : Rl x um) (hP : va_P D.1 vwCl (jx_w D jx_LX x) H) (hP' : va_P D'.1 vwCl (jx_w D' jx_LM um) H) (hS : va_S (fun q : Nat => s.heap.size ≤ q) s.heap H locs) (hl : lv_has ls 4 [(3, .int (nI i)), (2, .ref (D'.2.1 0)), (1, .ref (D.2.1 0)), (0, .ref b)]) (k : ∀ (x' um' : jx_St) (H1 : Heap) (locs1 : List Loc), Rl x' um' → va_P D.1 vwCl (jx_w D jx_LX x') H1 → va_P D'.1 vwCl (jx_w D' jx_LM um') H1 → va_S (fun q : Nat => s.heap.size ≤ q) s.heap H1 locs1 → W p l e room_1 s m #[Value.ref b] below meth c H1 locs1 82 7768 Q (F0 m 533 ls [])) : W p l e room_1 s m #[Value.ref b] below meth c H locs 82 7768 Q (F0 m 250 ls []) := by
  obtain ⟨hx, hb, hml, hown, htb, hX, hbl, hL, hC, hC', hdis⟩ := C
  refine lv_aload_n hx hb dL_250 rfl (lv_at hl 2 rfl) ?_
  refine lw_ld (k := 1) hx hb hX hbl hS hl hL (by omega) rfl dL_251 dL_252 dL_253 dL_254 dL_255 ?_
  refine lw_ld (k := 2) hx hb hX hbl hS hl hL (by omega) rfl dL_256 dL_257 dL_258 dL_259 dL_260 ?_
  refine lw_call (D := D) (L := jx_LX) (D' := D') (L' := jx_LM) (u := x) (u' := um) (c0 := 0) (ci := 3) (As := [.int (xs (i + 1)), .int (xs (i + 2))]) (st := []) hx hb hml hown htb hC hC'.2.1 hdis hP hP' hS hl (mX3_weather l D _ 0 (xs (i + 1)) (xs (i + 2)) x (q_weather hq (xs (i + 1)) (xs (i + 2)))) jv_L_34 ⟨by decide, _, _, rfl⟩ ⟨by decide, rfl⟩ ⟨rfl, rfl, by decide, by decide⟩ rfl rfl (Nat.le_of_ble_eq_true rfl) dL_261 (by decide) (by decide) (fun r x' H1 locs1 hpost hP hP' hS => ?_)
  refine lv_aload_n hx hb dL_264 rfl (lv_at hl 1 rfl) ?_
  refine lw_ld (k := 1) hx hb hX hbl hS hl hL (by omega) rfl dL_265 dL_266 dL_267 dL_268 dL_269 ?_
  refine lw_ld (k := 2) hx hb hX hbl hS hl hL (by omega) rfl dL_270 dL_271 dL_272 dL_273 dL_274 ?_
  refine lw_call (D := D') (L := jx_LM) (D' := D) (L' := jx_LX) (u := um) (u' := x') (c0 := 0) (ci := 4) (As := [.int (xs (i + 1)), .int (xs (i + 2))]) (st := [.int r]) hx hb hml hown htb hC' hC.2.1 (fun q h1 h2 => hdis q h2 h1) hP' hP hS hl (mX4_weather l D' _ 0 (xs (i + 1)) (xs (i + 2)) um hpost) jv_L_37 ⟨by decide, _, _, rfl⟩ ⟨by decide, rfl⟩ ⟨rfl, rfl, by decide, by decide⟩ rfl rfl (Nat.le_of_ble_eq_true rfl) dL_275 (by decide) (by decide) (fun r' um' H1 locs1 hpost hP' hP hS => ?_)
  obtain ⟨er, hR⟩ := hpost
  refine lv_icmp_eq (tgt := 533) hx hb dL_278 (by decide) (fun _ => k x' um' H1 locs1 hR hP hP' hS) (fun z => absurd er z)
set_option maxHeartbeats 1000000 in
theorem lc_cloud (C : lw_F p s m c b L xs D D') (hi : i + 4 ≤ L) (hq : Rl x um) (hP : va_P D.1 vwCl (jx_w D jx_LX x) H) (hP' : va_P D'.1 vwCl (jx_w D' jx_LM um) H) (hS : va_S (fun q : Nat => s.heap.size ≤ q) s.heap H locs) (hl : lv_has ls 4 [(3, .int (nI i)), (2, .ref (D'.2.1 0)), (1, .ref (D.2.1 0)), (0, .ref b)]) (k : ∀ (x' um' : jx_St) (H1 : Heap) (locs1 : List Loc), Rl x' um' → va_P D.1 vwCl (jx_w D jx_LX x') H1 → va_P D'.1 vwCl (jx_w D' jx_LM um') H1 → va_S (fun q : Nat => s.heap.size ≤ q) s.heap H1 locs1 → W p l e room_1 s m #[Value.ref b] below meth c H1 locs1 82 7768 Q (F0 m 533 ls [])) : W p l e room_1 s m #[Value.ref b] below meth c H locs 82 7768 Q (F0 m 283 ls []) := by
  obtain ⟨hx, hb, hml, hown, htb, hX, hbl, hL, hC, hC', hdis⟩ := C
  refine lv_aload_n hx hb dL_283 rfl (lv_at hl 2 rfl) ?_
  refine lw_ld (k := 1) hx hb hX hbl hS hl hL (by omega) rfl dL_284 dL_285 dL_286 dL_287 dL_288 ?_
  refine lw_ld (k := 2) hx hb hX hbl hS hl hL (by omega) rfl dL_289 dL_290 dL_291 dL_292 dL_293 ?_
  refine lw_call (D := D) (L := jx_LX) (D' := D') (L' := jx_LM) (u := x) (u' := um) (c0 := 0) (ci := 3) (As := [.int (xs (i + 1)), .int (xs (i + 2))]) (st := []) hx hb hml hown htb hC hC'.2.1 hdis hP hP' hS hl (mX3_cloud l D _ 0 (xs (i + 1)) (xs (i + 2)) x (q_cloud hq (xs (i + 1)) (xs (i + 2)))) jv_L_38 ⟨by decide, _, _, rfl⟩ ⟨by decide, rfl⟩ ⟨rfl, rfl, by decide, by decide⟩ rfl rfl (Nat.le_of_ble_eq_true rfl) dL_294 (by decide) (by decide) (fun r x' H1 locs1 hpost hP hP' hS => ?_)
  refine lv_aload_n hx hb dL_297 rfl (lv_at hl 1 rfl) ?_
  refine lw_ld (k := 1) hx hb hX hbl hS hl hL (by omega) rfl dL_298 dL_299 dL_300 dL_301 dL_302 ?_
  refine lw_ld (k := 2) hx hb hX hbl hS hl hL (by omega) rfl dL_303 dL_304 dL_305 dL_306 dL_307 ?_
  refine lw_call (D := D') (L := jx_LM) (D' := D) (L' := jx_LX) (u := um) (u' := x') (c0 := 0) (ci := 4) (As := [.int (xs (i + 1)), .int (xs (i + 2))]) (st := [.int r]) hx hb hml hown htb hC' hC.2.1 (fun q h1 h2 => hdis q h2 h1) hP' hP hS hl (mX4_cloud l D' _ 0 (xs (i + 1)) (xs (i + 2)) um hpost) jv_L_41 ⟨by decide, _, _, rfl⟩ ⟨by decide, rfl⟩ ⟨rfl, rfl, by decide, by decide⟩ rfl rfl (Nat.le_of_ble_eq_true rfl) dL_308 (by decide) (by decide) (fun r' um' H1 locs1 hpost hP' hP hS => ?_)
  obtain ⟨er, hR⟩ := hpost
  refine lv_icmp_eq (tgt := 533) hx hb dL_311 (by decide) (fun _ => k x' um' H1 locs1 hR hP hP' hS) (fun z => absurd er z)
set_option maxHeartbeats 1000000 in
theorem lc_from (C : lw_F p s m c b L xs D D') (hi : i + 4 ≤ L) (hq : Rl x um) (hP : va_P D.1 vwCl (jx_w D jx_LX x) H) (hP' : va_P D'.1 vwCl (jx_w D' jx_LM um) H) (hS : va_S (fun q : Nat => s.heap.size ≤ q) s.heap H locs) (hl : lv_has ls 4 [(3, .int (nI i)), (2, .ref (D'.2.1 0)), (1, .ref (D.2.1 0)), (0, .ref b)]) (k : ∀ (x' um' : jx_St) (H1 : Heap) (locs1 : List Loc), Rl x' um' → va_P D.1 vwCl (jx_w D jx_LX x') H1 → va_P D'.1 vwCl (jx_w D' jx_LM um') H1 → va_S (fun q : Nat => s.heap.size ≤ q) s.heap H1 locs1 → W p l e room_1 s m #[Value.ref b] below meth c H1 locs1 82 7768 Q (F0 m 533 ls [])) : W p l e room_1 s m #[Value.ref b] below meth c H locs 82 7768 Q (F0 m 316 ls []) := by
  obtain ⟨hx, hb, hml, hown, htb, hX, hbl, hL, hC, hC', hdis⟩ := C
  refine lv_aload_n hx hb dL_316 rfl (lv_at hl 2 rfl) ?_
  refine lw_ld (k := 1) hx hb hX hbl hS hl hL (by omega) rfl dL_317 dL_318 dL_319 dL_320 dL_321 ?_
  refine lw_ld (k := 2) hx hb hX hbl hS hl hL (by omega) rfl dL_322 dL_323 dL_324 dL_325 dL_326 ?_
  refine lw_call (D := D) (L := jx_LX) (D' := D') (L' := jx_LM) (u := x) (u' := um) (c0 := 0) (ci := 3) (As := [.int (xs (i + 1)), .int (xs (i + 2))]) (st := []) hx hb hml hown htb hC hC'.2.1 hdis hP hP' hS hl (mX3_from l D _ 0 (xs (i + 1)) (xs (i + 2)) x (q_from hq (xs (i + 1)) (xs (i + 2)))) jv_L_42 ⟨by decide, _, _, rfl⟩ ⟨by decide, rfl⟩ ⟨rfl, rfl, by decide, by decide⟩ rfl rfl (Nat.le_of_ble_eq_true rfl) dL_327 (by decide) (by decide) (fun r x' H1 locs1 hpost hP hP' hS => ?_)
  refine lv_aload_n hx hb dL_330 rfl (lv_at hl 1 rfl) ?_
  refine lw_ld (k := 1) hx hb hX hbl hS hl hL (by omega) rfl dL_331 dL_332 dL_333 dL_334 dL_335 ?_
  refine lw_ld (k := 2) hx hb hX hbl hS hl hL (by omega) rfl dL_336 dL_337 dL_338 dL_339 dL_340 ?_
  refine lw_call (D := D') (L := jx_LM) (D' := D) (L' := jx_LX) (u := um) (u' := x') (c0 := 0) (ci := 4) (As := [.int (xs (i + 1)), .int (xs (i + 2))]) (st := [.int r]) hx hb hml hown htb hC' hC.2.1 (fun q h1 h2 => hdis q h2 h1) hP' hP hS hl (mX4_from l D' _ 0 (xs (i + 1)) (xs (i + 2)) um hpost) jv_L_45 ⟨by decide, _, _, rfl⟩ ⟨by decide, rfl⟩ ⟨rfl, rfl, by decide, by decide⟩ rfl rfl (Nat.le_of_ble_eq_true rfl) dL_341 (by decide) (by decide) (fun r' um' H1 locs1 hpost hP' hP hS => ?_)
  obtain ⟨er, hR⟩ := hpost
  refine lv_icmp_eq (tgt := 533) hx hb dL_344 (by decide) (fun _ => k x' um' H1 locs1 hR hP hP' hS) (fun z => absurd er z)
set_option maxHeartbeats 1000000 in
theorem lc_active (C : lw_F p s m c b L xs D D') (hi : i + 4 ≤ L) (hq : Rl x um) (hP : va_P D.1 vwCl (jx_w D jx_LX x) H) (hP' : va_P D'.1 vwCl (jx_w D' jx_LM um) H) (hS : va_S (fun q : Nat => s.heap.size ≤ q) s.heap H locs) (hl : lv_has ls 4 [(3, .int (nI i)), (2, .ref (D'.2.1 0)), (1, .ref (D.2.1 0)), (0, .ref b)]) (k : ∀ (x' um' : jx_St) (H1 : Heap) (locs1 : List Loc), Rl x' um' → va_P D.1 vwCl (jx_w D jx_LX x') H1 → va_P D'.1 vwCl (jx_w D' jx_LM um') H1 → va_S (fun q : Nat => s.heap.size ≤ q) s.heap H1 locs1 → W p l e room_1 s m #[Value.ref b] below meth c H1 locs1 82 7768 Q (F0 m 533 ls [])) : W p l e room_1 s m #[Value.ref b] below meth c H locs 82 7768 Q (F0 m 349 ls []) := by
  obtain ⟨hx, hb, hml, hown, htb, hX, hbl, hL, hC, hC', hdis⟩ := C
  refine lv_aload_n hx hb dL_349 rfl (lv_at hl 2 rfl) ?_
  refine lw_ld (k := 1) hx hb hX hbl hS hl hL (by omega) rfl dL_350 dL_351 dL_352 dL_353 dL_354 ?_
  refine lw_call (D := D) (L := jx_LX) (D' := D') (L' := jx_LM) (u := x) (u' := um) (c0 := 0) (ci := 3) (As := [.int (xs (i + 1))]) (st := []) hx hb hml hown htb hC hC'.2.1 hdis hP hP' hS hl (mX3_active l D _ 0 (xs (i + 1)) x (q_active hq (xs (i + 1)))) jv_L_46 ⟨by decide, _, _, rfl⟩ ⟨by decide, rfl⟩ ⟨rfl, rfl, by decide, by decide⟩ rfl rfl (Nat.le_of_ble_eq_true rfl) dL_355 (by decide) (by decide) (fun r x' H1 locs1 hpost hP hP' hS => ?_)
  refine lv_aload_n hx hb dL_358 rfl (lv_at hl 1 rfl) ?_
  refine lw_ld (k := 1) hx hb hX hbl hS hl hL (by omega) rfl dL_359 dL_360 dL_361 dL_362 dL_363 ?_
  refine lw_call (D := D') (L := jx_LM) (D' := D) (L' := jx_LX) (u := um) (u' := x') (c0 := 0) (ci := 4) (As := [.int (xs (i + 1))]) (st := [.int r]) hx hb hml hown htb hC' hC.2.1 (fun q h1 h2 => hdis q h2 h1) hP' hP hS hl (mX4_active l D' _ 0 (xs (i + 1)) um hpost) jv_L_49 ⟨by decide, _, _, rfl⟩ ⟨by decide, rfl⟩ ⟨rfl, rfl, by decide, by decide⟩ rfl rfl (Nat.le_of_ble_eq_true rfl) dL_364 (by decide) (by decide) (fun r' um' H1 locs1 hpost hP' hP hS => ?_)
  obtain ⟨er, hR⟩ := hpost
  refine lv_icmp_eq (tgt := 533) hx hb dL_367 (by decide) (fun _ => k x' um' H1 locs1 hR hP hP' hS) (fun z => absurd er z)
set_option maxHeartbeats 1000000 in
theorem lc_activeOne (C : lw_F p s m c b L xs D D') (hi : i + 4 ≤ L) (hq : Rl x um) (hP : va_P D.1 vwCl (jx_w D jx_LX x) H) (hP' : va_P D'.1 vwCl (jx_w D' jx_LM um) H) (hS : va_S (fun q : Nat => s.heap.size ≤ q) s.heap H locs) (hl : lv_has ls 4 [(3, .int (nI i)), (2, .ref (D'.2.1 0)), (1, .ref (D.2.1 0)), (0, .ref b)]) (k : ∀ (x' um' : jx_St) (H1 : Heap) (locs1 : List Loc), Rl x' um' → va_P D.1 vwCl (jx_w D jx_LX x') H1 → va_P D'.1 vwCl (jx_w D' jx_LM um') H1 → va_S (fun q : Nat => s.heap.size ≤ q) s.heap H1 locs1 → W p l e room_1 s m #[Value.ref b] below meth c H1 locs1 82 7768 Q (F0 m 533 ls [])) : W p l e room_1 s m #[Value.ref b] below meth c H locs 82 7768 Q (F0 m 372 ls []) := by
  obtain ⟨hx, hb, hml, hown, htb, hX, hbl, hL, hC, hC', hdis⟩ := C
  refine lv_aload_n hx hb dL_372 rfl (lv_at hl 2 rfl) ?_
  refine lw_ld (k := 1) hx hb hX hbl hS hl hL (by omega) rfl dL_373 dL_374 dL_375 dL_376 dL_377 ?_
  refine lw_ld (k := 2) hx hb hX hbl hS hl hL (by omega) rfl dL_378 dL_379 dL_380 dL_381 dL_382 ?_
  refine lw_call (D := D) (L := jx_LX) (D' := D') (L' := jx_LM) (u := x) (u' := um) (c0 := 0) (ci := 3) (As := [.int (xs (i + 1)), .int (xs (i + 2))]) (st := []) hx hb hml hown htb hC hC'.2.1 hdis hP hP' hS hl (mX3_activeOne l D _ 0 (xs (i + 1)) (xs (i + 2)) x (q_activeOne hq (xs (i + 1)) (xs (i + 2)))) jv_L_50 ⟨by decide, _, _, rfl⟩ ⟨by decide, rfl⟩ ⟨rfl, rfl, by decide, by decide⟩ rfl rfl (Nat.le_of_ble_eq_true rfl) dL_383 (by decide) (by decide) (fun r x' H1 locs1 hpost hP hP' hS => ?_)
  refine lv_aload_n hx hb dL_386 rfl (lv_at hl 1 rfl) ?_
  refine lw_ld (k := 1) hx hb hX hbl hS hl hL (by omega) rfl dL_387 dL_388 dL_389 dL_390 dL_391 ?_
  refine lw_ld (k := 2) hx hb hX hbl hS hl hL (by omega) rfl dL_392 dL_393 dL_394 dL_395 dL_396 ?_
  refine lw_call (D := D') (L := jx_LM) (D' := D) (L' := jx_LX) (u := um) (u' := x') (c0 := 0) (ci := 4) (As := [.int (xs (i + 1)), .int (xs (i + 2))]) (st := [.int r]) hx hb hml hown htb hC' hC.2.1 (fun q h1 h2 => hdis q h2 h1) hP' hP hS hl (mX4_activeOne l D' _ 0 (xs (i + 1)) (xs (i + 2)) um hpost) jv_L_53 ⟨by decide, _, _, rfl⟩ ⟨by decide, rfl⟩ ⟨rfl, rfl, by decide, by decide⟩ rfl rfl (Nat.le_of_ble_eq_true rfl) dL_397 (by decide) (by decide) (fun r' um' H1 locs1 hpost hP' hP hS => ?_)
  obtain ⟨er, hR⟩ := hpost
  refine lv_icmp_eq (tgt := 533) hx hb dL_400 (by decide) (fun _ => k x' um' H1 locs1 hR hP hP' hS) (fun z => absurd er z)
set_option maxHeartbeats 1000000 in
theorem lc_least (C : lw_F p s m c b L xs D D') (hi : i + 4 ≤ L) (hq : Rl x um) (hP : va_P D.1 vwCl (jx_w D jx_LX x) H) (hP' : va_P D'.1 vwCl (jx_w D' jx_LM um) H) (hS : va_S (fun q : Nat => s.heap.size ≤ q) s.heap H locs) (hl : lv_has ls 4 [(3, .int (nI i)), (2, .ref (D'.2.1 0)), (1, .ref (D.2.1 0)), (0, .ref b)]) (k : ∀ (x' um' : jx_St) (H1 : Heap) (locs1 : List Loc), Rl x' um' → va_P D.1 vwCl (jx_w D jx_LX x') H1 → va_P D'.1 vwCl (jx_w D' jx_LM um') H1 → va_S (fun q : Nat => s.heap.size ≤ q) s.heap H1 locs1 → W p l e room_1 s m #[Value.ref b] below meth c H1 locs1 82 7768 Q (F0 m 533 ls [])) : W p l e room_1 s m #[Value.ref b] below meth c H locs 82 7768 Q (F0 m 405 ls []) := by
  obtain ⟨hx, hb, hml, hown, htb, hX, hbl, hL, hC, hC', hdis⟩ := C
  refine lv_aload_n hx hb dL_405 rfl (lv_at hl 2 rfl) ?_
  refine lw_ld (k := 1) hx hb hX hbl hS hl hL (by omega) rfl dL_406 dL_407 dL_408 dL_409 dL_410 ?_
  refine lw_call (D := D) (L := jx_LX) (D' := D') (L' := jx_LM) (u := x) (u' := um) (c0 := 0) (ci := 3) (As := [.int (xs (i + 1))]) (st := []) hx hb hml hown htb hC hC'.2.1 hdis hP hP' hS hl (mX3_least l D _ 0 (xs (i + 1)) x (q_least hq (xs (i + 1)))) jv_L_54 ⟨by decide, _, _, rfl⟩ ⟨by decide, rfl⟩ ⟨rfl, rfl, by decide, by decide⟩ rfl rfl (Nat.le_of_ble_eq_true rfl) dL_411 (by decide) (by decide) (fun r x' H1 locs1 hpost hP hP' hS => ?_)
  refine lv_aload_n hx hb dL_414 rfl (lv_at hl 1 rfl) ?_
  refine lw_ld (k := 1) hx hb hX hbl hS hl hL (by omega) rfl dL_415 dL_416 dL_417 dL_418 dL_419 ?_
  refine lw_call (D := D') (L := jx_LM) (D' := D) (L' := jx_LX) (u := um) (u' := x') (c0 := 0) (ci := 4) (As := [.int (xs (i + 1))]) (st := [.int r]) hx hb hml hown htb hC' hC.2.1 (fun q h1 h2 => hdis q h2 h1) hP' hP hS hl (mX4_least l D' _ 0 (xs (i + 1)) um hpost) jv_L_57 ⟨by decide, _, _, rfl⟩ ⟨by decide, rfl⟩ ⟨rfl, rfl, by decide, by decide⟩ rfl rfl (Nat.le_of_ble_eq_true rfl) dL_420 (by decide) (by decide) (fun r' um' H1 locs1 hpost hP' hP hS => ?_)
  obtain ⟨er, hR⟩ := hpost
  refine lv_icmp_eq (tgt := 533) hx hb dL_423 (by decide) (fun _ => k x' um' H1 locs1 hR hP hP' hS) (fun z => absurd er z)
set_option maxHeartbeats 1000000 in
theorem lc_ceiling (C : lw_F p s m c b L xs D D') (hi : i + 4 ≤ L) (hq : Rl x um) (hP : va_P D.1 vwCl (jx_w D jx_LX x) H) (hP' : va_P D'.1 vwCl (jx_w D' jx_LM um) H) (hS : va_S (fun q : Nat => s.heap.size ≤ q) s.heap H locs) (hl : lv_has ls 4 [(3, .int (nI i)), (2, .ref (D'.2.1 0)), (1, .ref (D.2.1 0)), (0, .ref b)]) (k : ∀ (x' um' : jx_St) (H1 : Heap) (locs1 : List Loc), Rl x' um' → va_P D.1 vwCl (jx_w D jx_LX x') H1 → va_P D'.1 vwCl (jx_w D' jx_LM um') H1 → va_S (fun q : Nat => s.heap.size ≤ q) s.heap H1 locs1 → W p l e room_1 s m #[Value.ref b] below meth c H1 locs1 82 7768 Q (F0 m 533 ls [])) : W p l e room_1 s m #[Value.ref b] below meth c H locs 82 7768 Q (F0 m 428 ls []) := by
  obtain ⟨hx, hb, hml, hown, htb, hX, hbl, hL, hC, hC', hdis⟩ := C
  refine lv_aload_n hx hb dL_428 rfl (lv_at hl 2 rfl) ?_
  refine lw_ld (k := 1) hx hb hX hbl hS hl hL (by omega) rfl dL_429 dL_430 dL_431 dL_432 dL_433 ?_
  refine lw_ld (k := 2) hx hb hX hbl hS hl hL (by omega) rfl dL_434 dL_435 dL_436 dL_437 dL_438 ?_
  refine lw_call (D := D) (L := jx_LX) (D' := D') (L' := jx_LM) (u := x) (u' := um) (c0 := 0) (ci := 3) (As := [.int (xs (i + 1)), .int (xs (i + 2))]) (st := []) hx hb hml hown htb hC hC'.2.1 hdis hP hP' hS hl (mX3_ceiling l D _ 0 (xs (i + 1)) (xs (i + 2)) x (q_ceiling hq (xs (i + 1)) (xs (i + 2)))) jv_L_58 ⟨by decide, _, _, rfl⟩ ⟨by decide, rfl⟩ ⟨rfl, rfl, by decide, by decide⟩ rfl rfl (Nat.le_of_ble_eq_true rfl) dL_439 (by decide) (by decide) (fun r x' H1 locs1 hpost hP hP' hS => ?_)
  refine lv_aload_n hx hb dL_442 rfl (lv_at hl 1 rfl) ?_
  refine lw_ld (k := 1) hx hb hX hbl hS hl hL (by omega) rfl dL_443 dL_444 dL_445 dL_446 dL_447 ?_
  refine lw_ld (k := 2) hx hb hX hbl hS hl hL (by omega) rfl dL_448 dL_449 dL_450 dL_451 dL_452 ?_
  refine lw_call (D := D') (L := jx_LM) (D' := D) (L' := jx_LX) (u := um) (u' := x') (c0 := 0) (ci := 4) (As := [.int (xs (i + 1)), .int (xs (i + 2))]) (st := [.int r]) hx hb hml hown htb hC' hC.2.1 (fun q h1 h2 => hdis q h2 h1) hP' hP hS hl (mX4_ceiling l D' _ 0 (xs (i + 1)) (xs (i + 2)) um hpost) jv_L_61 ⟨by decide, _, _, rfl⟩ ⟨by decide, rfl⟩ ⟨rfl, rfl, by decide, by decide⟩ rfl rfl (Nat.le_of_ble_eq_true rfl) dL_453 (by decide) (by decide) (fun r' um' H1 locs1 hpost hP' hP hS => ?_)
  obtain ⟨er, hR⟩ := hpost
  refine lv_icmp_eq (tgt := 533) hx hb dL_456 (by decide) (fun _ => k x' um' H1 locs1 hR hP hP' hS) (fun z => absurd er z)
set_option maxHeartbeats 1000000 in
theorem lc_next (C : lw_F p s m c b L xs D D') (hi : i + 4 ≤ L) (hq : Rl x um) (hP : va_P D.1 vwCl (jx_w D jx_LX x) H) (hP' : va_P D'.1 vwCl (jx_w D' jx_LM um) H) (hS : va_S (fun q : Nat => s.heap.size ≤ q) s.heap H locs) (hl : lv_has ls 4 [(3, .int (nI i)), (2, .ref (D'.2.1 0)), (1, .ref (D.2.1 0)), (0, .ref b)]) (k : ∀ (x' um' : jx_St) (H1 : Heap) (locs1 : List Loc), Rl x' um' → va_P D.1 vwCl (jx_w D jx_LX x') H1 → va_P D'.1 vwCl (jx_w D' jx_LM um') H1 → va_S (fun q : Nat => s.heap.size ≤ q) s.heap H1 locs1 → W p l e room_1 s m #[Value.ref b] below meth c H1 locs1 82 7768 Q (F0 m 533 ls [])) : W p l e room_1 s m #[Value.ref b] below meth c H locs 82 7768 Q (F0 m 461 ls []) := by
  obtain ⟨hx, hb, hml, hown, htb, hX, hbl, hL, hC, hC', hdis⟩ := C
  refine lv_aload_n hx hb dL_461 rfl (lv_at hl 2 rfl) ?_
  refine lw_ld (k := 1) hx hb hX hbl hS hl hL (by omega) rfl dL_462 dL_463 dL_464 dL_465 dL_466 ?_
  refine lw_call (D := D) (L := jx_LX) (D' := D') (L' := jx_LM) (u := x) (u' := um) (c0 := 0) (ci := 3) (As := [.int (xs (i + 1))]) (st := []) hx hb hml hown htb hC hC'.2.1 hdis hP hP' hS hl (mX3_next l D _ 0 (xs (i + 1)) x (q_next hq (xs (i + 1)))) jv_L_62 ⟨by decide, _, _, rfl⟩ ⟨by decide, rfl⟩ ⟨rfl, rfl, by decide, by decide⟩ rfl rfl (Nat.le_of_ble_eq_true rfl) dL_467 (by decide) (by decide) (fun r x' H1 locs1 hpost hP hP' hS => ?_)
  refine lv_aload_n hx hb dL_470 rfl (lv_at hl 1 rfl) ?_
  refine lw_ld (k := 1) hx hb hX hbl hS hl hL (by omega) rfl dL_471 dL_472 dL_473 dL_474 dL_475 ?_
  refine lw_call (D := D') (L := jx_LM) (D' := D) (L' := jx_LX) (u := um) (u' := x') (c0 := 0) (ci := 4) (As := [.int (xs (i + 1))]) (st := [.int r]) hx hb hml hown htb hC' hC.2.1 (fun q h1 h2 => hdis q h2 h1) hP' hP hS hl (mX4_next l D' _ 0 (xs (i + 1)) um hpost) jv_L_65 ⟨by decide, _, _, rfl⟩ ⟨by decide, rfl⟩ ⟨rfl, rfl, by decide, by decide⟩ rfl rfl (Nat.le_of_ble_eq_true rfl) dL_476 (by decide) (by decide) (fun r' um' H1 locs1 hpost hP' hP hS => ?_)
  obtain ⟨er, hR⟩ := hpost
  refine lv_icmp_eq (tgt := 533) hx hb dL_479 (by decide) (fun _ => k x' um' H1 locs1 hR hP hP' hS) (fun z => absurd er z)
set_option maxHeartbeats 1000000 in
theorem lc_print (C : lw_F p s m c b L xs D D') (hi : i + 4 ≤ L) (hq : Rl x um) (hP : va_P D.1 vwCl (jx_w D jx_LX x) H) (hP' : va_P D'.1 vwCl (jx_w D' jx_LM um) H) (hS : va_S (fun q : Nat => s.heap.size ≤ q) s.heap H locs) (hl : lv_has ls 4 [(3, .int (nI i)), (2, .ref (D'.2.1 0)), (1, .ref (D.2.1 0)), (0, .ref b)]) (k : ∀ (x' um' : jx_St) (H1 : Heap) (locs1 : List Loc), Rl x' um' → va_P D.1 vwCl (jx_w D jx_LX x') H1 → va_P D'.1 vwCl (jx_w D' jx_LM um') H1 → va_S (fun q : Nat => s.heap.size ≤ q) s.heap H1 locs1 → W p l e room_1 s m #[Value.ref b] below meth c H1 locs1 82 7768 Q (F0 m 533 ls [])) : W p l e room_1 s m #[Value.ref b] below meth c H locs 82 7768 Q (F0 m 484 ls []) := by
  obtain ⟨hx, hb, hml, hown, htb, hX, hbl, hL, hC, hC', hdis⟩ := C
  refine lv_aload_n hx hb dL_484 rfl (lv_at hl 2 rfl) ?_
  refine lw_call (D := D) (L := jx_LX) (D' := D') (L' := jx_LM) (u := x) (u' := um) (c0 := 0) (ci := 3) (As := []) (st := []) hx hb hml hown htb hC hC'.2.1 hdis hP hP' hS hl (mX3_print l D _ 0  x (q_print hq )) jv_L_66 ⟨by decide, _, _, rfl⟩ ⟨by decide, rfl⟩ ⟨rfl, rfl, by decide, by decide⟩ rfl rfl (Nat.le_of_ble_eq_true rfl) dL_485 (by decide) (by decide) (fun r x' H1 locs1 hpost hP hP' hS => ?_)
  refine lv_aload_n hx hb dL_488 rfl (lv_at hl 1 rfl) ?_
  refine lw_call (D := D') (L := jx_LM) (D' := D) (L' := jx_LX) (u := um) (u' := x') (c0 := 0) (ci := 4) (As := []) (st := [.int r]) hx hb hml hown htb hC' hC.2.1 (fun q h1 h2 => hdis q h2 h1) hP' hP hS hl (mX4_print l D' _ 0  um hpost) jv_L_70 ⟨by decide, _, _, rfl⟩ ⟨by decide, rfl⟩ ⟨rfl, rfl, by decide, by decide⟩ rfl rfl (Nat.le_of_ble_eq_true rfl) dL_489 (by decide) (by decide) (fun r' um' H1 locs1 hpost hP' hP hS => ?_)
  obtain ⟨er, hR⟩ := hpost
  refine lv_icmp_eq (tgt := 533) hx hb dL_492 (by decide) (fun _ => k x' um' H1 locs1 hR hP hP' hS) (fun z => absurd er z)
set_option maxHeartbeats 1000000 in
theorem lc_character (C : lw_F p s m c b L xs D D') (hi : i + 4 ≤ L) (hq : Rl x um) (hP : va_P D.1 vwCl (jx_w D jx_LX x) H) (hP' : va_P D'.1 vwCl (jx_w D' jx_LM um) H) (hS : va_S (fun q : Nat => s.heap.size ≤ q) s.heap H locs) (hl : lv_has ls 4 [(3, .int (nI i)), (2, .ref (D'.2.1 0)), (1, .ref (D.2.1 0)), (0, .ref b)]) (k : ∀ (x' um' : jx_St) (H1 : Heap) (locs1 : List Loc), Rl x' um' → va_P D.1 vwCl (jx_w D jx_LX x') H1 → va_P D'.1 vwCl (jx_w D' jx_LM um') H1 → va_S (fun q : Nat => s.heap.size ≤ q) s.heap H1 locs1 → W p l e room_1 s m #[Value.ref b] below meth c H1 locs1 82 7768 Q (F0 m 533 ls [])) : W p l e room_1 s m #[Value.ref b] below meth c H locs 82 7768 Q (F0 m 497 ls []) := by
  obtain ⟨hx, hb, hml, hown, htb, hX, hbl, hL, hC, hC', hdis⟩ := C
  refine lv_aload_n hx hb dL_497 rfl (lv_at hl 2 rfl) ?_
  refine lw_ld (k := 1) hx hb hX hbl hS hl hL (by omega) rfl dL_498 dL_499 dL_500 dL_501 dL_502 ?_
  refine lw_call (D := D) (L := jx_LX) (D' := D') (L' := jx_LM) (u := x) (u' := um) (c0 := 0) (ci := 3) (As := [.int (xs (i + 1))]) (st := []) hx hb hml hown htb hC hC'.2.1 hdis hP hP' hS hl (mX3_character l D _ 0 (xs (i + 1)) x (q_character hq (xs (i + 1)))) jv_L_71 ⟨by decide, _, _, rfl⟩ ⟨by decide, rfl⟩ ⟨rfl, rfl, by decide, by decide⟩ rfl rfl (Nat.le_of_ble_eq_true rfl) dL_503 (by decide) (by decide) (fun r x' H1 locs1 hpost hP hP' hS => ?_)
  refine lv_aload_n hx hb dL_506 rfl (lv_at hl 1 rfl) ?_
  refine lw_ld (k := 1) hx hb hX hbl hS hl hL (by omega) rfl dL_507 dL_508 dL_509 dL_510 dL_511 ?_
  refine lw_call (D := D') (L := jx_LM) (D' := D) (L' := jx_LX) (u := um) (u' := x') (c0 := 0) (ci := 4) (As := [.int (xs (i + 1))]) (st := [.int r]) hx hb hml hown htb hC' hC.2.1 (fun q h1 h2 => hdis q h2 h1) hP' hP hS hl (mX4_character l D' _ 0 (xs (i + 1)) um hpost) jv_L_74 ⟨by decide, _, _, rfl⟩ ⟨by decide, rfl⟩ ⟨rfl, rfl, by decide, by decide⟩ rfl rfl (Nat.le_of_ble_eq_true rfl) dL_512 (by decide) (by decide) (fun r' um' H1 locs1 hpost hP' hP hS => ?_)
  obtain ⟨er, hR⟩ := hpost
  refine lv_icmp_eq (tgt := 533) hx hb dL_515 (by decide) (fun _ => k x' um' H1 locs1 hR hP hP' hS) (fun z => absurd er z)
set_option maxHeartbeats 1000000 in
theorem lc_check (C : lw_F p s m c b L xs D D') (hi : i + 4 ≤ L) (hq : Rl x um) (hP : va_P D.1 vwCl (jx_w D jx_LX x) H) (hP' : va_P D'.1 vwCl (jx_w D' jx_LM um) H) (hS : va_S (fun q : Nat => s.heap.size ≤ q) s.heap H locs) (hl : lv_has ls 4 [(3, .int (nI i)), (2, .ref (D'.2.1 0)), (1, .ref (D.2.1 0)), (0, .ref b)]) (k : ∀ (x' um' : jx_St) (H1 : Heap) (locs1 : List Loc), Rl x' um' → va_P D.1 vwCl (jx_w D jx_LX x') H1 → va_P D'.1 vwCl (jx_w D' jx_LM um') H1 → va_S (fun q : Nat => s.heap.size ≤ q) s.heap H1 locs1 → W p l e room_1 s m #[Value.ref b] below meth c H1 locs1 82 7768 Q (F0 m 533 ls [])) : W p l e room_1 s m #[Value.ref b] below meth c H locs 82 7768 Q (F0 m 520 ls []) := by
  obtain ⟨hx, hb, hml, hown, htb, hX, hbl, hL, hC, hC', hdis⟩ := C
  refine lv_aload_n hx hb dL_520 rfl (lv_at hl 2 rfl) ?_
  refine lw_call (D := D) (L := jx_LX) (D' := D') (L' := jx_LM) (u := x) (u' := um) (c0 := 0) (ci := 3) (As := []) (st := []) hx hb hml hown htb hC hC'.2.1 hdis hP hP' hS hl (mX3_check l D _ 0  x (q_check hq )) jv_L_75 ⟨by decide, _, _, rfl⟩ ⟨by decide, rfl⟩ ⟨rfl, rfl, by decide, by decide⟩ rfl rfl (Nat.le_of_ble_eq_true rfl) dL_521 (by decide) (by decide) (fun r x' H1 locs1 hpost hP hP' hS => ?_)
  refine lv_aload_n hx hb dL_524 rfl (lv_at hl 1 rfl) ?_
  refine lw_call (D := D') (L := jx_LM) (D' := D) (L' := jx_LX) (u := um) (u' := x') (c0 := 0) (ci := 4) (As := []) (st := [.int r]) hx hb hml hown htb hC' hC.2.1 (fun q h1 h2 => hdis q h2 h1) hP' hP hS hl (mX4_check l D' _ 0  um hpost) jv_L_78 ⟨by decide, _, _, rfl⟩ ⟨by decide, rfl⟩ ⟨rfl, rfl, by decide, by decide⟩ rfl rfl (Nat.le_of_ble_eq_true rfl) dL_525 (by decide) (by decide) (fun r' um' H1 locs1 hpost hP' hP hS => ?_)
  obtain ⟨er, hR⟩ := hpost
  refine lv_icmp_eq (tgt := 533) hx hb dL_528 (by decide) (fun _ => k x' um' H1 locs1 hR hP hP' hS) (fun z => absurd er z)
end LWL
