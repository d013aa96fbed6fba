/-! ===== CALLS over a fixed world ===== -/
theorem jx_goodIn {ws : List Cond} {y : MethodName} {c : ByteArray} {n : Nat} {r : Option FieldType} (h : ∀ w ∈ ws, w ∈ jx_tb) (hy : Cond.code y c n r ∈ jx_tb) : GoodIn jx_tb (ws ++ (Cond.code y c n r :: jx_tb)) := by
  have key : ∀ w ∈ (ws ++ (Cond.code y c n r :: jx_tb)), w ∈ jx_tb := by
    intro w hw
    rcases List.mem_append.mp hw with h1 | h1
    · exact h w h1
    · rcases List.mem_cons.mp h1 with rfl | h2
      · exact hy
      · exact h2
  exact fun w hw => ⟨key w hw, good_of_word (jx_tb_good w (key w hw))⟩
/-- the words of a call of an instance method; of a static one -/
def jx_cv (own : String) (idx : Nat) (y : MethodName) (bytes : ByteArray) (maxL : Nat) (ret : Option FieldType) (n : Nat) : Prop :=
  (∀ w ∈ ([.methodLink own idx y, .instanceMethod y, .selects y.cls y y, .initialized y.cls] : List Cond), w ∈ jx_tb) ∧ Cond.code y bytes maxL ret ∈ jx_tb ∧ y.cls ≠ "java/lang/invoke/MethodHandle" ∧ y.cls ≠ "java/lang/invoke/VarHandle" ∧ (parseMethodDescriptor y.desc).map (fun d => d.parameters.length) = some n
def jx_cs (own : String) (idx : Nat) (y : MethodName) (bytes : ByteArray) (maxL : Nat) (ret : Option FieldType) (n : Nat) : Prop :=
  (∀ w ∈ ([.methodLink own idx y, .static y, .initialized y.cls] : List Cond), w ∈ jx_tb) ∧ Cond.code y bytes maxL ret ∈ jx_tb ∧ y.cls ≠ "java/lang/invoke/MethodHandle" ∧ y.cls ≠ "java/lang/invoke/VarHandle" ∧ (parseMethodDescriptor y.desc).map (fun d => d.parameters.length) = some n
/-- the callee's room fits into the caller's -/
def jx_rm (rm rm' : Room) (maxL' : Nat) : Prop := rm'.cells = 0 ∧ rm'.slots = 0 ∧ rm'.frames + 1 ≤ rm.frames ∧ 8 + (maxL' + 11) + rm'.locals ≤ rm.locals
def jx_cn (ci : Nat) (C : String) : Prop := ci ≤ 4 ∧ ∃ (T : u_T) (N : Nat), vwCl[ci]? = some (C, T, N)
section JXCALLS
variable {D : jx_Dt} {L : jx_Ly} {X : jx_X} {cc : ByteArray} {own : String} {nL : Nat} {ret : Option FieldType} {rm : Room} {Qc : Array Value → State → Outcome → State → Prop} {pc : Nat} {lv : List (Nat × Value)} {st : List Value} {u : jx_St}
variable {y : MethodName} {bytes : ByteArray} {maxL' : Nat} {ret' : Option FieldType} {rm' : Room} {idx n ci c : Nat} {As st0 : List Value}
theorem jx_blind {av : List Value} : FrameBlind (va_Pc av (fun U => jx_B D L u U)) := fun _ _ _ _ q => ⟨q.1, jx_B_same rfl rfl q.2⟩
theorem jx_runV {H : Heap} {locs : List Loc} {ls : Array Slot} {Qa : Array Value → State → Outcome → State → Prop} (hX : jx_K D L X cc own nL ret rm Qc) (hP : va_P D.1 vwCl (jx_w D L u) H) (hS : va_S (jx_A D L) (jx_s X).heap H locs) (hl : lv_has ls (jx_nL X) lv)
    (hM : jx_Met X.2.1 y bytes maxL' ret' rm' D L (.ref (D.2.1 c) :: As) u Qa) (hw : jx_cv own idx y bytes maxL' ret' n) (hC : jx_cn ci y.cls) (hc : jx_ok L ci c) (hr : jx_rm rm rm' maxL') (hn : As.length = n) (hst : st0 = As.reverse ++ .ref (D.2.1 c) :: st) (hR : (st.map fun v => v.category).sum ≤ 8) (hd : decode cc pc = .ok (.invokevirtual idx, 3)) :
    va_Run X.1 X.2.1 X.2.2.1 X.2.2.2.1 (jx_s X) (jx_m X) (jx_ar X) (jx_be X) (jx_me X) (jx_co X) H locs 0 0 0 0 (F0 (jx_m X) pc ls st0) st (Qa (Value.ref (D.2.1 c) :: As).toArray) (jx_A D L) := by
  obtain ⟨hw1, hw2, hw3, hw4, hw5⟩ := hw
  obtain ⟨h4, T, N, hT⟩ := hC
  exact va_runV (As := As) (rest := st) ⟨hX.1, hX.2.1, hX.2.2.1, hX.2.2.2.1, hX.2.2.2.2.1⟩ hM (cwV n hX.2.2.2.2.1 (jx_goodIn hw1 hw2) rfl hr.1 hr.2.1 ⟨rfl, hw3, hw4, hw5⟩ (by rw [hX.2.2.2.2.2.2.2.2.2.2.2.1]; exact hr.2.2))
    ⟨jx_blind, va_recv hX.2.2.2.2.2.2.2.1 hP (ci := ci) (q0 := c) hT (by rw [jx_w_at hc.1, jx_E_obj hc.2 h4]), fun U hU hW => ⟨rfl, jx_endB hX hP hS hU hW⟩⟩ rfl hn (hl.1.trans hX.2.2.2.2.2.2.2.2.2.2.1) hst (lv_room hR) hd ⟨Nat.zero_le _, Nat.zero_le _⟩
theorem jx_runS {H : Heap} {locs : List Loc} {ls : Array Slot} {Qa : Array Value → State → Outcome → State → Prop} (hX : jx_K D L X cc own nL ret rm Qc) (hP : va_P D.1 vwCl (jx_w D L u) H) (hS : va_S (jx_A D L) (jx_s X).heap H locs) (hl : lv_has ls (jx_nL X) lv)
    (hM : jx_Met X.2.1 y bytes maxL' ret' rm' D L As u Qa) (hw : jx_cs own idx y bytes maxL' ret' n) (hr : jx_rm rm rm' maxL') (hn : As.length = n) (hst : st0 = As.reverse ++ st) (hR : (st.map fun v => v.category).sum ≤ 8) (hd : decode cc pc = .ok (.invokestatic idx, 3)) :
    va_Run X.1 X.2.1 X.2.2.1 X.2.2.2.1 (jx_s X) (jx_m X) (jx_ar X) (jx_be X) (jx_me X) (jx_co X) H locs 0 0 0 0 (F0 (jx_m X) pc ls st0) st (Qa As.toArray) (jx_A D L) := by
  obtain ⟨hw1, hw2, hw3, hw4, hw5⟩ := hw
  exact va_runS (As := As) (rest := st) ⟨hX.1, hX.2.1, hX.2.2.1, hX.2.2.2.1, hX.2.2.2.2.1⟩ hM (va_cwS n hX.2.2.2.2.1 (jx_goodIn hw1 hw2) rfl hr.1 hr.2.1 ⟨hw3, hw4, hw5⟩ (by rw [hX.2.2.2.2.2.2.2.2.2.2.2.1]; exact hr.2.2))
    ⟨jx_blind, fun U hU hW => ⟨rfl, jx_endB hX hP hS hU hW⟩⟩ rfl hn (hl.1.trans hX.2.2.2.2.2.2.2.2.2.2.1) hst (lv_room hR) hd ⟨Nat.zero_le _, Nat.zero_le _⟩
theorem jx_callVi (pc' : Nat) {post : Int32 → jx_St → Prop} (hX : jx_K D L X cc own nL ret rm Qc) (hM : jx_Met X.2.1 y bytes maxL' ret' rm' D L (.ref (D.2.1 c) :: As) u (jx_Qi D L post)) (hw : jx_cv own idx y bytes maxL' ret' n) (hC : jx_cn ci y.cls) (hc : jx_ok L ci c) (hr : jx_rm rm rm' maxL') (hn : As.length = n) (hst : st0 = As.reverse ++ .ref (D.2.1 c) :: st) (hR : (st.map fun v => v.category).sum ≤ 8) (hd : decode cc pc = .ok (.invokevirtual idx, 3)) (hp : pc + 3 = pc')
    (k : ∀ (r : Int32) (u' : jx_St), post r u' → jx_J D L X pc' lv (.int r :: st) u') : jx_J D L X pc lv st0 u := by
  subst hp
  intro H locs ls hP hS hl
  refine va_calli (jx_runV hX hP hS hl hM hw hC hc hr hn hst hR hd) hS (fun q _ h => h) (fun q h => h) (fun r u' t H1 locs1 ht hvm hpost hB hz hk hS1 => ?_)
  exact k r u' hpost H1 locs1 ls (by rw [← ht]; exact hB.1) hS1 hl
theorem jx_callVl (pc' : Nat) {post : Int64 → jx_St → Prop} (hX : jx_K D L X cc own nL ret rm Qc) (hM : jx_Met X.2.1 y bytes maxL' ret' rm' D L (.ref (D.2.1 c) :: As) u (jx_Ql D L post)) (hw : jx_cv own idx y bytes maxL' ret' n) (hC : jx_cn ci y.cls) (hc : jx_ok L ci c) (hr : jx_rm rm rm' maxL') (hn : As.length = n) (hst : st0 = As.reverse ++ .ref (D.2.1 c) :: st) (hR : (st.map fun v => v.category).sum ≤ 8) (hd : decode cc pc = .ok (.invokevirtual idx, 3)) (hp : pc + 3 = pc')
    (k : ∀ (r : Int64) (u' : jx_St), post r u' → jx_J D L X pc' lv (.long r :: st) u') : jx_J D L X pc lv st0 u := by
  subst hp
  intro H locs ls hP hS hl
  refine va_calll (jx_runV hX hP hS hl hM hw hC hc hr hn hst hR hd) hS (fun q _ h => h) (fun q h => h) (fun r u' t H1 locs1 ht hvm hpost hB hz hk hS1 => ?_)
  exact k r u' hpost H1 locs1 ls (by rw [← ht]; exact hB.1) hS1 hl
theorem jx_callVv (pc' : Nat) {post : jx_St → Prop} (hX : jx_K D L X cc own nL ret rm Qc) (hM : jx_Met X.2.1 y bytes maxL' ret' rm' D L (.ref (D.2.1 c) :: As) u (jx_Qv D L post)) (hw : jx_cv own idx y bytes maxL' ret' n) (hC : jx_cn ci y.cls) (hc : jx_ok L ci c) (hr : jx_rm rm rm' maxL') (hn : As.length = n) (hst : st0 = As.reverse ++ .ref (D.2.1 c) :: st) (hR : (st.map fun v => v.category).sum ≤ 8) (hd : decode cc pc = .ok (.invokevirtual idx, 3)) (hp : pc + 3 = pc')
    (k : ∀ (u' : jx_St), post u' → jx_J D L X pc' lv st u') : jx_J D L X pc lv st0 u := by
  subst hp
  intro H locs ls hP hS hl
  refine va_callv (jx_runV hX hP hS hl hM hw hC hc hr hn hst hR hd) hS (fun q _ h => h) (fun q h => h) (fun u' t H1 locs1 ht hvm hpost hB hz hk hS1 => ?_)
  exact k u' hpost H1 locs1 ls (by rw [← ht]; exact hB.1) hS1 hl
theorem jx_callVc (pc' : Nat) {post : Nat → jx_St → Prop} (hX : jx_K D L X cc own nL ret rm Qc) (hM : jx_Met X.2.1 y bytes maxL' ret' rm' D L (.ref (D.2.1 c) :: As) u (jx_Qc D L post)) (hw : jx_cv own idx y bytes maxL' ret' n) (hC : jx_cn ci y.cls) (hc : jx_ok L ci c) (hr : jx_rm rm rm' maxL') (hn : As.length = n) (hst : st0 = As.reverse ++ .ref (D.2.1 c) :: st) (hR : (st.map fun v => v.category).sum ≤ 8) (hd : decode cc pc = .ok (.invokevirtual idx, 3)) (hp : pc + 3 = pc')
    (k : ∀ (r : Nat) (u' : jx_St), post r u' → jx_J D L X pc' lv (.ref (D.2.1 r) :: st) u') : jx_J D L X pc lv st0 u := by
  subst hp
  intro H locs ls hP hS hl
  refine va_callr (jx_runV hX hP hS hl hM hw hC hc hr hn hst hR hd) hS (fun q _ h => h) (fun q h => h) (fun z ra t H1 locs1 ht hvm hpost hB hz hk hS1 => ?_)
  obtain ⟨ha, hB⟩ := hB
  subst ha
  exact k z.1 z.2 hpost H1 locs1 ls (by rw [← ht]; exact hB.1) hS1 hl
theorem jx_callSi (pc' : Nat) {post : Int32 → jx_St → Prop} (hX : jx_K D L X cc own nL ret rm Qc) (hM : jx_Met X.2.1 y bytes maxL' ret' rm' D L As u (jx_Qi D L post)) (hw : jx_cs own idx y bytes maxL' ret' n) (hr : jx_rm rm rm' maxL') (hn : As.length = n) (hst : st0 = As.reverse ++ st) (hR : (st.map fun v => v.category).sum ≤ 8) (hd : decode cc pc = .ok (.invokestatic idx, 3)) (hp : pc + 3 = pc')
    (k : ∀ (r : Int32) (u' : jx_St), post r u' → jx_J D L X pc' lv (.int r :: st) u') : jx_J D L X pc lv st0 u := by
  subst hp
  intro H locs ls hP hS hl
  refine va_calli (jx_runS hX hP hS hl hM hw hr hn hst hR hd) hS (fun q _ h => h) (fun q h => h) (fun r u' t H1 locs1 ht hvm hpost hB hz hk hS1 => ?_)
  exact k r u' hpost H1 locs1 ls (by rw [← ht]; exact hB.1) hS1 hl
theorem jx_mmax (pc' : Nat) (hX : jx_K D L X cc own nL ret rm Qc) {x z : Int32} (hw : ∀ w ∈ ([.methodLink own idx Lib.Math.max.name, .static Lib.Math.max.name, .initialized "java/lang/Math", .code Lib.Math.max.name Lib.Math.max.code 2 (some .int)] : List Cond), w ∈ jx_tb) (hr : 1 ≤ rm.frames ∧ 21 ≤ rm.locals) (hR : (st.map fun v => v.category).sum ≤ 8) (hd : decode cc pc = .ok (.invokestatic idx, 3)) (hp : pc + 3 = pc') (k : jx_J D L X pc' lv (.int (if x < z then z else x) :: st) u) : jx_J D L X pc lv (.int z :: .int x :: st) u := by
  subst hp
  intro H locs ls hP hS hl
  have hR2 : X.2.2.2.1 = rm := hX.2.2.2.2.2.2.2.2.2.2.2.1
  exact va_mmax hX.1 hX.2.1 (hX.2.2.1.trans (hl.1.trans hX.2.2.2.2.2.2.2.2.2.2.1).symm) hX.2.2.2.1 (hX.2.2.2.2.1 _ (hw _ (by simp))) (hX.2.2.2.2.1 _ (hw _ (by simp))) (hX.2.2.2.2.1 _ (hw _ (by simp))) (hX.2.2.2.2.1 _ (hw _ (by simp))) (by rw [hR2]; exact hr.1) (by rw [hR2]; omega) (Nat.zero_le _) (Nat.zero_le _) hd (k H locs ls hP hS hl)
theorem jx_mmin (pc' : Nat) (hX : jx_K D L X cc own nL ret rm Qc) {x z : Int32} (hw : ∀ w ∈ ([.methodLink own idx Lib.Math.min.name, .static Lib.Math.min.name, .initialized "java/lang/Math", .code Lib.Math.min.name Lib.Math.min.code 2 (some .int)] : List Cond), w ∈ jx_tb) (hr : 1 ≤ rm.frames ∧ 21 ≤ rm.locals) (hR : (st.map fun v => v.category).sum ≤ 8) (hd : decode cc pc = .ok (.invokestatic idx, 3)) (hp : pc + 3 = pc') (k : jx_J D L X pc' lv (.int (if z < x then z else x) :: st) u) : jx_J D L X pc lv (.int z :: .int x :: st) u := by
  subst hp
  intro H locs ls hP hS hl
  have hR2 : X.2.2.2.1 = rm := hX.2.2.2.2.2.2.2.2.2.2.2.1
  exact va_mmin hX.1 hX.2.1 (hX.2.2.1.trans (hl.1.trans hX.2.2.2.2.2.2.2.2.2.2.1).symm) hX.2.2.2.1 (hX.2.2.2.2.1 _ (hw _ (by simp))) (hX.2.2.2.2.1 _ (hw _ (by simp))) (hX.2.2.2.2.1 _ (hw _ (by simp))) (hX.2.2.2.2.1 _ (hw _ (by simp))) (by rw [hR2]; exact hr.1) (by rw [hR2]; omega) (Nat.zero_le _) (Nat.zero_le _) hd (k H locs ls hP hS hl)
end JXCALLS
