/-! ===== what the start gives: the literals ===== -/
def jx_ps : List Nat := [9, 18, 26, 35, 44, 57, 82, 130, 144, 158, 173, 190, 217, 234, 253, 276, 300, 326, 353]
def st_fl : List Cond := flatC (Jvm.Cond.and given_1 narrow_1)
def st_tm (i : Nat) : Term := Term.string RX2 (jx_six.getD i 0)
set_option maxRecDepth 100000 in
theorem st_ex : ∀ i, i < 19 → st_fl[jx_ps.getD i 0]? = some (Cond.exactly (st_tm i) "java/lang/String") := by decide +kernel
set_option maxRecDepth 100000 in
theorem st_co : ∀ i, i < 19 → st_fl[jx_ps.getD i 0 + 1]? = some (Cond.eq (.field (st_tm i) "java/lang/String" "coder" "B") (.int 0)) := by decide +kernel
set_option maxRecDepth 100000 in
theorem st_ar : ∀ i, i < 19 → st_fl[jx_ps.getD i 0 + 2]? = some (Cond.arrayOf (.field (st_tm i) "java/lang/String" "value" "[B") .byte) := by decide +kernel
set_option maxRecDepth 100000 in
theorem st_le : ∀ i, i < 19 → st_fl[jx_ps.getD i 0 + 3]? = some (Cond.eq (.length (.field (st_tm i) "java/lang/String" "value" "[B")) (.int (Int32.ofNat (jx_sln.getD i 0)))) := by decide +kernel

set_option maxRecDepth 100000 in
theorem st_el : ∀ i, i < 19 → ∀ j, j < jx_sln.getD i 0 → st_fl[jx_ps.getD i 0 + 4 + j]? = some (Cond.eq (.elem (.field (st_tm i) "java/lang/String" "value" "[B") (.int (Int32.ofNat j))) (.int ((jx_sby.getD i []).getD j 0))) := by decide +kernel
set_option maxRecDepth 100000 in
theorem st_ne : ∀ j, j < 19 → ∀ i, i < j → st_fl[jx_ps.getD j 0 + 4 + jx_sln.getD j 0 + i]? = some (Cond.not (Cond.eq (st_tm i) (st_tm j))) := by decide +kernel
def jx_sp : List Nat := [303, 360, 393, 394, 399, 416, 421, 433, 434, 443, 444, 445, 457, 479, 484, 485, 486, 487, 496]
set_option maxRecDepth 100000 in
theorem st_rf : ∀ i, i < 19 → lw_tbl[jx_sp.getD i 0]? = some (Cond.stringRef RX2 (jx_six.getD i 0) (jx_stx.getD i "")) := by decide +kernel
theorem st_sm : ∀ i, i < 19 → jx_sln.getD i 0 < 2 ^ 31 := by decide +kernel
set_option maxRecDepth 100000 in
theorem st_sr {args : Array Value} {s : State} (hg : (Jvm.Cond.and given_1 narrow_1).before args s = true) (hts : ∀ w ∈ lw_tbl, w.before args s = true) : ∃ adK adV : Nat → Nat, ∀ A : Nat → Prop, (∀ q, A q → s.heap.size ≤ q) → vk_S 19 jx_sln jx_sby adK adV A s s.heap ∧ (∀ i : Nat, i < 19 → vk_R RX2 (jx_six.getD i 0) (jx_stx.getD i "") (adK i) s) ∧ va_Z "java/lang/String" "COMPACT_STRINGS" "Z" (.int 1) A s s.heap ∧ va_Zq "jdk/internal/util/Preconditions" "SIOOBE_FORMATTER" "Ljava/util/function/BiFunction;" A s s.heap := by
  have hf : ∀ c ∈ st_fl, c.before args s = true := flat_of_before _ hg
  have at_ : ∀ (k : Nat) (c : Cond), st_fl[k]? = some c → c.before args s = true := fun k c h => hf c (List.mem_of_getElem? h)
  have hA0 : ∀ a : Nat, a < s.heap.size → ¬ (fun q : Nat => s.heap.size ≤ q) a := fun a h => Nat.not_le.mpr h
  obtain ⟨adK, adV, hS, hT⟩ := vk_Sof (args := args) (s := s) (N := 19) (tm := st_tm) (len := jx_sln) (byt := jx_sby) (A := fun q : Nat => s.heap.size ≤ q) st_sm (fun i hi => at_ _ _ (st_ex i hi)) (fun i hi => at_ _ _ (st_co i hi)) (fun i hi => at_ _ _ (st_ar i hi)) (fun i hi => at_ _ _ (st_le i hi)) (fun i hi j hj => at_ _ _ (st_el i hi j hj)) (fun i j hi hj hij => by
    rcases Nat.lt_or_gt_of_ne hij with z | z
    · exact Or.inl (at_ _ _ (st_ne j hj i z))
    · exact Or.inr (at_ _ _ (st_ne i hi j z))) hA0
  have hZ : va_Z "java/lang/String" "COMPACT_STRINGS" "Z" (.int 1) (fun q : Nat => s.heap.size ≤ q) s s.heap := va_Zof (args := args) (hts _ (List.mem_of_getElem? (i := 317) (by decide +kernel))) (hts _ (List.mem_of_getElem? (i := 71) (by decide +kernel))) (va_eqt (at_ 4 _ (by decide +kernel))) hA0
  have hQ : va_Zq "jdk/internal/util/Preconditions" "SIOOBE_FORMATTER" "Ljava/util/function/BiFunction;" (fun q : Nat => s.heap.size ≤ q) s s.heap := va_Zqof (args := args) (hts _ (List.mem_of_getElem? (i := 337) (by decide +kernel))) (hts _ (List.mem_of_getElem? (i := 73) (by decide +kernel))) (at_ 5 _ (by decide +kernel)) hA0
  exact ⟨adK, adV, fun A hA => ⟨hS.narrow hA, fun i hi => vk_R.of (hts _ (List.mem_of_getElem? (st_rf i hi))) (hT i hi), hZ.narrow hA, hQ.narrow hA⟩⟩

theorem st_ca {ty : FieldType} {args : Array Value} {s : State} (h : (Cond.arrayClass ty).before args s = true) : ∃ cA : ClassId, ArrOfT s cA ty ∧ s.vm.findClass ("[" ++ ty.toString) = some cA := by
  obtain ⟨cA, kA, comp, h1, h2, h3⟩ := Cond.arrayClass_spec h
  exact ⟨cA, fun n z => ⟨fun k h => (by cases h), kA, h2, comp, h3⟩, h1⟩
set_option maxRecDepth 100000 in
theorem st_K {args : Array Value} {s : State} (htb : ∀ w ∈ jx_tb, w.before args s = true) (hao : va_AO RX1 s) : ∃ (G : va_G) (ca ci cg : ClassId), va_K G vwCl [(ca, .char), (ci, .int), (cg, .object RX1)] s := by
  obtain ⟨c0, i0, hk0⟩ := u_known (C := RX0) (T := TX0) (N := 11) (n := 11) htb inlX0 (htb (.instantiable RX0 11) (jx_mem 84 (by decide +kernel) (by decide +kernel)))
  obtain ⟨c1, i1, hk1⟩ := u_known (C := RX1) (T := TX1) (N := 12) (n := 12) htb inlX1 (htb (.instantiable RX1 12) (jx_mem 91 (by decide +kernel) (by decide +kernel)))
  obtain ⟨c2, i2, hk2⟩ := u_known (C := RX2) (T := TX2) (N := 8) (n := 8) htb inlX2 (htb (.instantiable RX2 8) (jx_mem 213 (by decide +kernel) (by decide +kernel)))
  obtain ⟨c3, i3, hk3⟩ := u_known (C := RX3) (T := TX3) (N := 6) (n := 6) htb inlX3 (htb (.instantiable RX3 6) (jx_mem 76 (by decide +kernel) (by decide +kernel)))
  obtain ⟨c4, i4, hk4⟩ := u_known (C := RX4) (T := TX4) (N := 32) (n := 32) htb inlX4 (htb (.instantiable RX4 32) (jx_mem 656 (by decide +kernel) (by decide +kernel)))
  obtain ⟨ca, a1, a2⟩ := st_ca (htb (.arrayClass .char) (jx_mem 158 (by decide +kernel) (by decide +kernel)))
  obtain ⟨ci, b1, b2⟩ := st_ca (htb (.arrayClass .int) (jx_mem 159 (by decide +kernel) (by decide +kernel)))
  obtain ⟨comp, cg, kg, g1, g2, g3, g4, g5⟩ := Cond.arrayOver_spec hao
  refine ⟨(fun k => [c0, c1, c2, c3, c4].getD k 0, fun k => if k = 0 then i0 else if k = 1 then i1 else if k = 2 then i2 else if k = 3 then i3 else i4), ca, ci, cg, fun k q hq => ?_, fun k q hq => ?_⟩
  · match k, hq with
    | 0, hq => cases hq; exact hk0
    | 1, hq => cases hq; exact hk1
    | 2, hq => cases hq; exact hk2
    | 3, hq => cases hq; exact hk3
    | 4, hq => cases hq; exact hk4
    | k + 5, hq => simp [vwCl] at hq
  · match k, hq with
    | 0, hq => cases hq; exact ⟨a1, a2⟩
    | 1, hq => cases hq; exact ⟨b1, b2⟩
    | 2, hq => cases hq; exact ⟨fun n z => ⟨fun k h => (by cases h), kg, g3, comp, g4⟩, kg, comp, g3, g4, g1, g5⟩
    | k + 3, hq => simp at hq
