/-! ===== THE JUDGEMENT: a method's body over a fixed world, and a row an instruction ===== -/
/-- program, launch, environment, room, start, method, arguments, frames below, its row, its code, its locals, what is to be reached -/
abbrev jx_X : Type := Program × Launch × Env × Room × State × MethodId × Array Value × List Frame × Method × Code × Nat × (State → Prop)
abbrev jx_W (X : jx_X) (H : Heap) (locs : List Loc) (g : JFrame) : Prop := W X.1 X.2.1 X.2.2.1 X.2.2.2.1 X.2.2.2.2.1 X.2.2.2.2.2.1 X.2.2.2.2.2.2.1 X.2.2.2.2.2.2.2.1 X.2.2.2.2.2.2.2.2.1 X.2.2.2.2.2.2.2.2.2.1 H locs 0 0 X.2.2.2.2.2.2.2.2.2.2.2 g
abbrev jx_s (X : jx_X) : State := X.2.2.2.2.1
abbrev jx_m (X : jx_X) : MethodId := X.2.2.2.2.2.1
abbrev jx_ar (X : jx_X) : Array Value := X.2.2.2.2.2.2.1
abbrev jx_be (X : jx_X) : List Frame := X.2.2.2.2.2.2.2.1
abbrev jx_me (X : jx_X) : Method := X.2.2.2.2.2.2.2.2.1
abbrev jx_co (X : jx_X) : Code := X.2.2.2.2.2.2.2.2.2.1
abbrev jx_nL (X : jx_X) : Nat := X.2.2.2.2.2.2.2.2.2.2.1
abbrev jx_Q (X : jx_X) : State → Prop := X.2.2.2.2.2.2.2.2.2.2.2
def jx_J (D : jx_Dt) (L : jx_Ly) (X : jx_X) (pc : Nat) (lv : List (Nat × Value)) (st : List Value) (u : jx_St) : Prop :=
  ∀ (H : Heap) (locs : List Loc) (ls : Array Slot), va_P D.1 vwCl (jx_w D L u) H → va_S (jx_A D L) (jx_s X).heap H locs → lv_has ls (jx_nL X) lv → jx_W X H locs (F0 (jx_m X) pc ls st)
/-- what is known in a body: its code cc, its class own, its answer's type, its room, what it owes -/
def jx_K (D : jx_Dt) (L : jx_Ly) (X : jx_X) (cc : ByteArray) (own : String) (nL : Nat) (ret : Option FieldType) (rm : Room) (Qc : Array Value → State → Outcome → State → Prop) : Prop :=
  X.1.tables.exec = Jvm.exec ∧ (jx_co X).code = cc ∧ (jx_co X).maxLocals = nL ∧ (jx_s X).vm.findClass own = some (jx_m X).cls ∧ (∀ w ∈ jx_tb, w.before (jx_ar X) (jx_s X) = true) ∧ (jx_me X).locks = false ∧ (jx_me X).sig.returnType = ret ∧ va_K D.1 vwCl (jx_tys D) (jx_s X) ∧ jx_In D L ∧ jx_Sr D L (jx_s X) (jx_s X).heap ∧ jx_nL X = nL ∧ X.2.2.2.1 = rm ∧ jx_Q X = MQ (jx_be X) Qc (jx_ar X) (jx_s X) 0 0 (jx_A D L)
def jx_Met (l : Launch) (y : MethodName) (cc : ByteArray) (maxL : Nat) (ret : Option FieldType) (rm : Room) (D : jx_Dt) (L : jx_Ly) (args : List Value) (u : jx_St) (Qc : Array Value → State → Outcome → State → Prop) : Prop :=
  Met l y (.code y cc maxL ret :: jx_tb) rm (va_Pc args (fun U => jx_B D L u U)) Qc 0 0 (jx_A D L)
abbrev jx_Qi (D : jx_Dt) (L : jx_Ly) (post : Int32 → jx_St → Prop) : Array Value → State → Outcome → State → Prop := va_Qi post (jx_B D L) (jx_A D L)
abbrev jx_Ql (D : jx_Dt) (L : jx_Ly) (post : Int64 → jx_St → Prop) : Array Value → State → Outcome → State → Prop := va_Ql post (jx_B D L) (jx_A D L)
/-- an answer that is a cell -/
abbrev jx_Qc (D : jx_Dt) (L : jx_Ly) (post : Nat → jx_St → Prop) : Array Value → State → Outcome → State → Prop := va_Qr (S := Nat × jx_St) (fun z => post z.1 z.2) (fun z a t => a = D.2.1 z.1 ∧ jx_B D L z.2 t) (jx_A D L)
abbrev jx_Qv (D : jx_Dt) (L : jx_Ly) (post : jx_St → Prop) : Array Value → State → Outcome → State → Prop := va_Qv post (jx_B D L) (jx_A D L)
theorem jx_ofJ {l : Launch} {y : MethodName} {cc : ByteArray} {maxL : Nat} {ret : Option FieldType} {rm : Room} {D : jx_Dt} {L : jx_Ly} {args : List Value} {u : jx_St} {Qc : Array Value → State → Outcome → State → Prop}
    (hy : plainName y.cls = true) (hn : (lg_sl args).length ≤ maxL) (hJ : ∀ X : jx_X, X.2.1 = l → jx_K D L X cc y.cls maxL ret rm Qc → jx_J D L X 0 (lv_args 0 args) [] u) : jx_Met l y cc maxL ret rm D L args u Qc := by
  refine Met.ofW (cc := cc) (maxL := maxL) (ret := ret) hy rfl ?_
  intro p e s m av below meth c s₁ B hml hv
  obtain ⟨rfl, hP, hK, hI, hR⟩ := hv
  have hts := atoms_spec (ws := Cond.code y cc maxL ret :: jx_tb) B.pre
  have hown : s.vm.findClass y.cls = some m.cls := findClass_of_methodNamed B.named
  have hl := lv_entry args (n := maxL) hn
  rw [lg_entry_eq]
  exact hJ (p, l, e, (headSpec (Cond.code y cc maxL ret :: jx_tb) rm).room, s, m, args.toArray, below, meth, c, maxL, MQ below Qc args.toArray s 0 0 (jx_A D L)) rfl
    ⟨B.exec, B.bytes, hml, hown, fun w hw => hts w (List.mem_cons_of_mem _ hw), B.notSynchronized, B.returns, hK, hI, hR, rfl, rfl, rfl⟩ s.heap [] _ hP va_S.rf hl
section JXROWS
variable {D : jx_Dt} {L : jx_Ly} {X : jx_X} {cc : ByteArray} {own : String} {nL : Nat} {ret : Option FieldType} {rm : Room} {Qc : Array Value → State → Outcome → State → Prop} {pc : Nat} {lv : List (Nat × Value)} {st : List Value} {u : jx_St}
theorem jx_sub {lv' : List (Nat × Value)} (ks : List Nat) (h : lv_pick lv ks = lv') (k : jx_J D L X pc lv' st u) : jx_J D L X pc lv st u :=
  fun H locs ls hP hS hl => k H locs ls hP hS (lv_sub hl ks h)
/-- a computed number gets a name -/
theorem jx_eqs {st' : List Value} (h : st = st') (k : jx_J D L X pc lv st' u) : jx_J D L X pc lv st u := h ▸ k
theorem jx_equ {u' : jx_St} (h : u = u') (k : jx_J D L X pc lv st u') : jx_J D L X pc lv st u := h ▸ k
theorem jx_iconst (pc' : Nat) (hX : jx_K D L X cc own nL ret rm Qc) {n : Int} (v : Int32) (hv : Int32.ofInt n = v) (hd : decode cc pc = .ok (.iconst n, 1)) (hp : pc + 1 = pc') (k : jx_J D L X pc' lv (.int v :: st) u) : jx_J D L X pc lv (st) u := by
  subst hp
  exact fun H locs ls hP hS hl => lv_iconst hX.1 hX.2.1 hd hv (k H locs ls hP hS hl)
theorem jx_bipush (pc' : Nat) (hX : jx_K D L X cc own nL ret rm Qc) {n : Int} (v : Int32) (hv : (Int8.ofInt n).toInt32 = v) (hd : decode cc pc = .ok (.bipush n, 2)) (hp : pc + 2 = pc') (k : jx_J D L X pc' lv (.int v :: st) u) : jx_J D L X pc lv (st) u := by
  subst hp
  exact fun H locs ls hP hS hl => lv_bipush hX.1 hX.2.1 hd hv (k H locs ls hP hS hl)
theorem jx_sipush (pc' : Nat) (hX : jx_K D L X cc own nL ret rm Qc) {n : Int} (v : Int32) (hv : (Int16.ofInt n).toInt32 = v) (hd : decode cc pc = .ok (.sipush n, 3)) (hp : pc + 3 = pc') (k : jx_J D L X pc' lv (.int v :: st) u) : jx_J D L X pc lv (st) u := by
  subst hp
  exact fun H locs ls hP hS hl => lv_sipush hX.1 hX.2.1 hd hv (k H locs ls hP hS hl)
theorem jx_lconst (pc' : Nat) (hX : jx_K D L X cc own nL ret rm Qc) {n : Fin 2} (v : Int64) (hv : Int64.ofNat (n : Nat) = v) (hd : decode cc pc = .ok (.lconst n, 1)) (hp : pc + 1 = pc') (k : jx_J D L X pc' lv (.long v :: st) u) : jx_J D L X pc lv (st) u := by
  subst hp
  exact fun H locs ls hP hS hl => lv_lconst hX.1 hX.2.1 hd hv (k H locs ls hP hS hl)
theorem jx_iload_n (pc' : Nat) (hX : jx_K D L X cc own nL ret rm Qc) (q : Nat) {k : Fin 4} {i : Nat} {x : Int32} (hq : lv[q]? = some (i, .int x)) (hi : (k : Nat) = i) (hd : decode cc pc = .ok (.iload_n k, 1)) (hp : pc + 1 = pc') (k : jx_J D L X pc' lv (.int x :: st) u) : jx_J D L X pc lv st u := by
  subst hp
  exact fun H locs ls hP hS hl => lv_iload_n hX.1 hX.2.1 hd hi (lv_at hl q hq) (k H locs ls hP hS hl)
theorem jx_iload (pc' : Nat) (hX : jx_K D L X cc own nL ret rm Qc) (q : Nat) {i : Nat} {x : Int32} (hq : lv[q]? = some (i, .int x)) (hd : decode cc pc = .ok (.iload i, 2)) (hp : pc + 2 = pc') (k : jx_J D L X pc' lv (.int x :: st) u) : jx_J D L X pc lv st u := by
  subst hp
  exact fun H locs ls hP hS hl => lv_iload hX.1 hX.2.1 hd (lv_at hl q hq) (k H locs ls hP hS hl)
theorem jx_istore_n (pc' : Nat) (hX : jx_K D L X cc own nL ret rm Qc) {k : Fin 4} {i : Nat} {x : Int32} (lv' : List (Nat × Value)) (hi : (k : Nat) = i) (hn : i < nL) (hl' : (i, Value.int x) :: lv.filter (fun q => !(q.1 == i) && !(q.1 + 1 == i && q.2.category == 2)) = lv') (hd : decode cc pc = .ok (.istore_n k, 1)) (hp : pc + 1 = pc') (k : jx_J D L X pc' lv' st u) : jx_J D L X pc lv (.int x :: st) u := by
  subst hp
  exact fun H locs ls hP hS hl => lv_istore_n hX.1 hX.2.1 hd hi hl (by rw [hX.2.2.2.2.2.2.2.2.2.2.1]; exact hn) hl' (fun ls' hl2 => k H locs ls' hP hS hl2)
theorem jx_istore (pc' : Nat) (hX : jx_K D L X cc own nL ret rm Qc) {i : Nat} {x : Int32} (lv' : List (Nat × Value)) (hn : i < nL) (hl' : (i, Value.int x) :: lv.filter (fun q => !(q.1 == i) && !(q.1 + 1 == i && q.2.category == 2)) = lv') (hd : decode cc pc = .ok (.istore i, 2)) (hp : pc + 2 = pc') (k : jx_J D L X pc' lv' st u) : jx_J D L X pc lv (.int x :: st) u := by
  subst hp
  exact fun H locs ls hP hS hl => lv_istore hX.1 hX.2.1 hd hl (by rw [hX.2.2.2.2.2.2.2.2.2.2.1]; exact hn) hl' (fun ls' hl2 => k H locs ls' hP hS hl2)
theorem jx_lload_n (pc' : Nat) (hX : jx_K D L X cc own nL ret rm Qc) (q : Nat) {k : Fin 4} {i : Nat} {x : Int64} (hq : lv[q]? = some (i, .long x)) (hi : (k : Nat) = i) (hd : decode cc pc = .ok (.lload_n k, 1)) (hp : pc + 1 = pc') (k : jx_J D L X pc' lv (.long x :: st) u) : jx_J D L X pc lv st u := by
  subst hp
  exact fun H locs ls hP hS hl => lv_lload_n hX.1 hX.2.1 hd hi (lv_at hl q hq) (k H locs ls hP hS hl)
theorem jx_lload (pc' : Nat) (hX : jx_K D L X cc own nL ret rm Qc) (q : Nat) {i : Nat} {x : Int64} (hq : lv[q]? = some (i, .long x)) (hd : decode cc pc = .ok (.lload i, 2)) (hp : pc + 2 = pc') (k : jx_J D L X pc' lv (.long x :: st) u) : jx_J D L X pc lv st u := by
  subst hp
  exact fun H locs ls hP hS hl => lv_lload hX.1 hX.2.1 hd (lv_at hl q hq) (k H locs ls hP hS hl)
theorem jx_lstore_n (pc' : Nat) (hX : jx_K D L X cc own nL ret rm Qc) {k : Fin 4} {i : Nat} {x : Int64} (lv' : List (Nat × Value)) (hi : (k : Nat) = i) (hn : i + 1 < nL) (hl' : (i, Value.long x) :: lv.filter (fun q => !(q.1 == i) && (!(q.1 == i + 1) && !(q.1 + 1 == i && q.2.category == 2))) = lv') (hd : decode cc pc = .ok (.lstore_n k, 1)) (hp : pc + 1 = pc') (k : jx_J D L X pc' lv' st u) : jx_J D L X pc lv (.long x :: st) u := by
  subst hp
  exact fun H locs ls hP hS hl => lv_lstore_n hX.1 hX.2.1 hd hi hl (by rw [hX.2.2.2.2.2.2.2.2.2.2.1]; exact hn) hl' (fun ls' hl2 => k H locs ls' hP hS hl2)
theorem jx_lstore (pc' : Nat) (hX : jx_K D L X cc own nL ret rm Qc) {i : Nat} {x : Int64} (lv' : List (Nat × Value)) (hn : i + 1 < nL) (hl' : (i, Value.long x) :: lv.filter (fun q => !(q.1 == i) && (!(q.1 == i + 1) && !(q.1 + 1 == i && q.2.category == 2))) = lv') (hd : decode cc pc = .ok (.lstore i, 2)) (hp : pc + 2 = pc') (k : jx_J D L X pc' lv' st u) : jx_J D L X pc lv (.long x :: st) u := by
  subst hp
  exact fun H locs ls hP hS hl => lv_lstore hX.1 hX.2.1 hd hl (by rw [hX.2.2.2.2.2.2.2.2.2.2.1]; exact hn) hl' (fun ls' hl2 => k H locs ls' hP hS hl2)
theorem jx_aload_n (pc' : Nat) (hX : jx_K D L X cc own nL ret rm Qc) (q : Nat) {k : Fin 4} {i : Nat} {x : Nat} (hq : lv[q]? = some (i, .ref x)) (hi : (k : Nat) = i) (hd : decode cc pc = .ok (.aload_n k, 1)) (hp : pc + 1 = pc') (k : jx_J D L X pc' lv (.ref x :: st) u) : jx_J D L X pc lv st u := by
  subst hp
  exact fun H locs ls hP hS hl => lv_aload_n hX.1 hX.2.1 hd hi (lv_at hl q hq) (k H locs ls hP hS hl)
theorem jx_aload (pc' : Nat) (hX : jx_K D L X cc own nL ret rm Qc) (q : Nat) {i : Nat} {x : Nat} (hq : lv[q]? = some (i, .ref x)) (hd : decode cc pc = .ok (.aload i, 2)) (hp : pc + 2 = pc') (k : jx_J D L X pc' lv (.ref x :: st) u) : jx_J D L X pc lv st u := by
  subst hp
  exact fun H locs ls hP hS hl => lv_aload hX.1 hX.2.1 hd (lv_at hl q hq) (k H locs ls hP hS hl)
theorem jx_astore_n (pc' : Nat) (hX : jx_K D L X cc own nL ret rm Qc) {k : Fin 4} {i : Nat} {x : Nat} (lv' : List (Nat × Value)) (hi : (k : Nat) = i) (hn : i < nL) (hl' : (i, Value.ref x) :: lv.filter (fun q => !(q.1 == i) && !(q.1 + 1 == i && q.2.category == 2)) = lv') (hd : decode cc pc = .ok (.astore_n k, 1)) (hp : pc + 1 = pc') (k : jx_J D L X pc' lv' st u) : jx_J D L X pc lv (.ref x :: st) u := by
  subst hp
  exact fun H locs ls hP hS hl => lv_astore_n hX.1 hX.2.1 hd hi hl (by rw [hX.2.2.2.2.2.2.2.2.2.2.1]; exact hn) hl' (fun ls' hl2 => k H locs ls' hP hS hl2)
theorem jx_astore (pc' : Nat) (hX : jx_K D L X cc own nL ret rm Qc) {i : Nat} {x : Nat} (lv' : List (Nat × Value)) (hn : i < nL) (hl' : (i, Value.ref x) :: lv.filter (fun q => !(q.1 == i) && !(q.1 + 1 == i && q.2.category == 2)) = lv') (hd : decode cc pc = .ok (.astore i, 2)) (hp : pc + 2 = pc') (k : jx_J D L X pc' lv' st u) : jx_J D L X pc lv (.ref x :: st) u := by
  subst hp
  exact fun H locs ls hP hS hl => lv_astore hX.1 hX.2.1 hd hl (by rw [hX.2.2.2.2.2.2.2.2.2.2.1]; exact hn) hl' (fun ls' hl2 => k H locs ls' hP hS hl2)
theorem jx_iinc (pc' : Nat) (hX : jx_K D L X cc own nL ret rm Qc) (q : Nat) {i : Nat} {n : Int} {x : Int32} (v : Int32) (lv' : List (Nat × Value)) (hq : lv[q]? = some (i, .int x)) (hv : x + Int32.ofInt n = v) (hn : i < nL) (hl' : (i, Value.int v) :: lv.filter (fun q => !(q.1 == i) && !(q.1 + 1 == i && q.2.category == 2)) = lv') (hd : decode cc pc = .ok (.iinc i n, 3)) (hp : pc + 3 = pc') (k : jx_J D L X pc' lv' st u) : jx_J D L X pc lv st u := by
  subst hp
  exact fun H locs ls hP hS hl => lv_iinc hX.1 hX.2.1 hd hl hq hv (by rw [hX.2.2.2.2.2.2.2.2.2.2.1]; exact hn) hl' (fun ls' hl2 => k H locs ls' hP hS hl2)
theorem jx_iadd (pc' : Nat) (hX : jx_K D L X cc own nL ret rm Qc) {x y : Int32} (hd : decode cc pc = .ok (.iadd, 1)) (hp : pc + 1 = pc') (k : jx_J D L X pc' lv (.int (x + y) :: st) u) : jx_J D L X pc lv (.int y :: .int x :: st) u := by
  subst hp
  exact fun H locs ls hP hS hl => lv_iadd hX.1 hX.2.1 hd  (k H locs ls hP hS hl)
theorem jx_isub (pc' : Nat) (hX : jx_K D L X cc own nL ret rm Qc) {x y : Int32} (hd : decode cc pc = .ok (.isub, 1)) (hp : pc + 1 = pc') (k : jx_J D L X pc' lv (.int (x - y) :: st) u) : jx_J D L X pc lv (.int y :: .int x :: st) u := by
  subst hp
  exact fun H locs ls hP hS hl => lv_isub hX.1 hX.2.1 hd  (k H locs ls hP hS hl)
theorem jx_imul (pc' : Nat) (hX : jx_K D L X cc own nL ret rm Qc) {x y : Int32} (hd : decode cc pc = .ok (.imul, 1)) (hp : pc + 1 = pc') (k : jx_J D L X pc' lv (.int (x * y) :: st) u) : jx_J D L X pc lv (.int y :: .int x :: st) u := by
  subst hp
  exact fun H locs ls hP hS hl => lv_imul hX.1 hX.2.1 hd  (k H locs ls hP hS hl)
theorem jx_iand (pc' : Nat) (hX : jx_K D L X cc own nL ret rm Qc) {x y : Int32} (hd : decode cc pc = .ok (.iand, 1)) (hp : pc + 1 = pc') (k : jx_J D L X pc' lv (.int (x &&& y) :: st) u) : jx_J D L X pc lv (.int y :: .int x :: st) u := by
  subst hp
  exact fun H locs ls hP hS hl => lv_iand hX.1 hX.2.1 hd  (k H locs ls hP hS hl)
theorem jx_ior (pc' : Nat) (hX : jx_K D L X cc own nL ret rm Qc) {x y : Int32} (hd : decode cc pc = .ok (.ior, 1)) (hp : pc + 1 = pc') (k : jx_J D L X pc' lv (.int (x ||| y) :: st) u) : jx_J D L X pc lv (.int y :: .int x :: st) u := by
  subst hp
  exact fun H locs ls hP hS hl => lv_ior hX.1 hX.2.1 hd  (k H locs ls hP hS hl)
theorem jx_ixor (pc' : Nat) (hX : jx_K D L X cc own nL ret rm Qc) {x y : Int32} (hd : decode cc pc = .ok (.ixor, 1)) (hp : pc + 1 = pc') (k : jx_J D L X pc' lv (.int (x ^^^ y) :: st) u) : jx_J D L X pc lv (.int y :: .int x :: st) u := by
  subst hp
  exact fun H locs ls hP hS hl => lv_ixor hX.1 hX.2.1 hd  (k H locs ls hP hS hl)
theorem jx_ishl (pc' : Nat) (hX : jx_K D L X cc own nL ret rm Qc) {x y : Int32} (hd : decode cc pc = .ok (.ishl, 1)) (hp : pc + 1 = pc') (k : jx_J D L X pc' lv (.int (x <<< (y &&& 31)) :: st) u) : jx_J D L X pc lv (.int y :: .int x :: st) u := by
  subst hp
  exact fun H locs ls hP hS hl => lv_ishl hX.1 hX.2.1 hd  (k H locs ls hP hS hl)
theorem jx_ishr (pc' : Nat) (hX : jx_K D L X cc own nL ret rm Qc) {x y : Int32} (hd : decode cc pc = .ok (.ishr, 1)) (hp : pc + 1 = pc') (k : jx_J D L X pc' lv (.int (x >>> (y &&& 31)) :: st) u) : jx_J D L X pc lv (.int y :: .int x :: st) u := by
  subst hp
  exact fun H locs ls hP hS hl => lv_ishr hX.1 hX.2.1 hd  (k H locs ls hP hS hl)
theorem jx_idiv (pc' : Nat) (hX : jx_K D L X cc own nL ret rm Qc) {x y : Int32} (hne : ¬ y = 0) (hd : decode cc pc = .ok (.idiv, 1)) (hp : pc + 1 = pc') (k : jx_J D L X pc' lv (.int (x / y) :: st) u) : jx_J D L X pc lv (.int y :: .int x :: st) u := by
  subst hp
  exact fun H locs ls hP hS hl => lv_idiv hX.1 hX.2.1 hd hne (k H locs ls hP hS hl)
theorem jx_irem (pc' : Nat) (hX : jx_K D L X cc own nL ret rm Qc) {x y : Int32} (hne : ¬ y = 0) (hd : decode cc pc = .ok (.irem, 1)) (hp : pc + 1 = pc') (k : jx_J D L X pc' lv (.int (x - x / y * y) :: st) u) : jx_J D L X pc lv (.int y :: .int x :: st) u := by
  subst hp
  exact fun H locs ls hP hS hl => lv_irem hX.1 hX.2.1 hd hne (k H locs ls hP hS hl)
theorem jx_ineg (pc' : Nat) (hX : jx_K D L X cc own nL ret rm Qc) {x : Int32} (hd : decode cc pc = .ok (.ineg, 1)) (hp : pc + 1 = pc') (k : jx_J D L X pc' lv (.int (-x) :: st) u) : jx_J D L X pc lv (.int x :: st) u := by
  subst hp
  exact fun H locs ls hP hS hl => lv_ineg hX.1 hX.2.1 hd  (k H locs ls hP hS hl)
theorem jx_ladd (pc' : Nat) (hX : jx_K D L X cc own nL ret rm Qc) {x y : Int64} (hd : decode cc pc = .ok (.ladd, 1)) (hp : pc + 1 = pc') (k : jx_J D L X pc' lv (.long (x + y) :: st) u) : jx_J D L X pc lv (.long y :: .long x :: st) u := by
  subst hp
  exact fun H locs ls hP hS hl => lv_ladd hX.1 hX.2.1 hd  (k H locs ls hP hS hl)
theorem jx_lsub (pc' : Nat) (hX : jx_K D L X cc own nL ret rm Qc) {x y : Int64} (hd : decode cc pc = .ok (.lsub, 1)) (hp : pc + 1 = pc') (k : jx_J D L X pc' lv (.long (x - y) :: st) u) : jx_J D L X pc lv (.long y :: .long x :: st) u := by
  subst hp
  exact fun H locs ls hP hS hl => lv_lsub hX.1 hX.2.1 hd  (k H locs ls hP hS hl)
theorem jx_lmul (pc' : Nat) (hX : jx_K D L X cc own nL ret rm Qc) {x y : Int64} (hd : decode cc pc = .ok (.lmul, 1)) (hp : pc + 1 = pc') (k : jx_J D L X pc' lv (.long (x * y) :: st) u) : jx_J D L X pc lv (.long y :: .long x :: st) u := by
  subst hp
  exact fun H locs ls hP hS hl => lv_lmul hX.1 hX.2.1 hd  (k H locs ls hP hS hl)
theorem jx_land (pc' : Nat) (hX : jx_K D L X cc own nL ret rm Qc) {x y : Int64} (hd : decode cc pc = .ok (.land, 1)) (hp : pc + 1 = pc') (k : jx_J D L X pc' lv (.long (x &&& y) :: st) u) : jx_J D L X pc lv (.long y :: .long x :: st) u := by
  subst hp
  exact fun H locs ls hP hS hl => lv_land hX.1 hX.2.1 hd  (k H locs ls hP hS hl)
theorem jx_lor (pc' : Nat) (hX : jx_K D L X cc own nL ret rm Qc) {x y : Int64} (hd : decode cc pc = .ok (.lor, 1)) (hp : pc + 1 = pc') (k : jx_J D L X pc' lv (.long (x ||| y) :: st) u) : jx_J D L X pc lv (.long y :: .long x :: st) u := by
  subst hp
  exact fun H locs ls hP hS hl => lv_lor hX.1 hX.2.1 hd  (k H locs ls hP hS hl)
theorem jx_lshl (pc' : Nat) (hX : jx_K D L X cc own nL ret rm Qc) {x : Int64} {y : Int32} (hd : decode cc pc = .ok (.lshl, 1)) (hp : pc + 1 = pc') (k : jx_J D L X pc' lv (.long (x <<< (y.toInt64 &&& 63)) :: st) u) : jx_J D L X pc lv (.int y :: .long x :: st) u := by
  subst hp
  exact fun H locs ls hP hS hl => lv_lshl hX.1 hX.2.1 hd rfl (k H locs ls hP hS hl)
theorem jx_lshr (pc' : Nat) (hX : jx_K D L X cc own nL ret rm Qc) {x : Int64} {y : Int32} (hd : decode cc pc = .ok (.lshr, 1)) (hp : pc + 1 = pc') (k : jx_J D L X pc' lv (.long (x >>> (y.toInt64 &&& 63)) :: st) u) : jx_J D L X pc lv (.int y :: .long x :: st) u := by
  subst hp
  exact fun H locs ls hP hS hl => lv_lshr hX.1 hX.2.1 hd rfl (k H locs ls hP hS hl)
theorem jx_lcmp (pc' : Nat) (hX : jx_K D L X cc own nL ret rm Qc) {x y : Int64} (hd : decode cc pc = .ok (.lcmp, 1)) (hp : pc + 1 = pc') (k : jx_J D L X pc' lv (.int (lg_cmp x y) :: st) u) : jx_J D L X pc lv (.long y :: .long x :: st) u := by
  subst hp
  exact fun H locs ls hP hS hl => W.lcmp hX.1 hX.2.1 hd  (k H locs ls hP hS hl)
theorem jx_i2l (pc' : Nat) (hX : jx_K D L X cc own nL ret rm Qc) {x : Int32} (hd : decode cc pc = .ok (.i2l, 1)) (hp : pc + 1 = pc') (k : jx_J D L X pc' lv (.long x.toInt64 :: st) u) : jx_J D L X pc lv (.int x :: st) u := by
  subst hp
  exact fun H locs ls hP hS hl => lv_i2l hX.1 hX.2.1 hd rfl (k H locs ls hP hS hl)
theorem jx_l2i (pc' : Nat) (hX : jx_K D L X cc own nL ret rm Qc) {x : Int64} (hd : decode cc pc = .ok (.l2i, 1)) (hp : pc + 1 = pc') (k : jx_J D L X pc' lv (.int x.toInt32 :: st) u) : jx_J D L X pc lv (.long x :: st) u := by
  subst hp
  exact fun H locs ls hP hS hl => lv_l2i hX.1 hX.2.1 hd rfl (k H locs ls hP hS hl)
theorem jx_i2c (pc' : Nat) (hX : jx_K D L X cc own nL ret rm Qc) {x : Int32} (hd : decode cc pc = .ok (.i2c, 1)) (hp : pc + 1 = pc') (k : jx_J D L X pc' lv (.int (x.toUInt32 % 65536).toInt32 :: st) u) : jx_J D L X pc lv (.int x :: st) u := by
  subst hp
  exact fun H locs ls hP hS hl => lv_i2c hX.1 hX.2.1 hd rfl (k H locs ls hP hS hl)
theorem jx_dup (pc' : Nat) (hX : jx_K D L X cc own nL ret rm Qc) {va : Value} (hva : va.category = 1) (hd : decode cc pc = .ok (.dup, 1)) (hp : pc + 1 = pc') (k : jx_J D L X pc' lv (va :: va :: st) u) : jx_J D L X pc lv (va :: st) u := by
  subst hp
  exact fun H locs ls hP hS hl => lv_dup hX.1 hX.2.1 hd hva (k H locs ls hP hS hl)
theorem jx_pop (pc' : Nat) (hX : jx_K D L X cc own nL ret rm Qc) {va : Value} (hva : va.category = 1) (hd : decode cc pc = .ok (.pop, 1)) (hp : pc + 1 = pc') (k : jx_J D L X pc' lv (st) u) : jx_J D L X pc lv (va :: st) u := by
  subst hp
  exact fun H locs ls hP hS hl => lv_pop hX.1 hX.2.1 hd hva (k H locs ls hP hS hl)
theorem jx_dup_x1 (pc' : Nat) (hX : jx_K D L X cc own nL ret rm Qc) {va vb : Value} (hva : va.category = 1) (hvb : vb.category = 1) (hd : decode cc pc = .ok (.dup_x1, 1)) (hp : pc + 1 = pc') (k : jx_J D L X pc' lv (va :: vb :: va :: st) u) : jx_J D L X pc lv (va :: vb :: st) u := by
  subst hp
  exact fun H locs ls hP hS hl => lv_dup_x1 hX.1 hX.2.1 hd hva hvb (k H locs ls hP hS hl)
theorem jx_dup2_11 (pc' : Nat) (hX : jx_K D L X cc own nL ret rm Qc) {va vb : Value} (hva : va.category = 1) (hvb : vb.category = 1) (hd : decode cc pc = .ok (.dup2, 1)) (hp : pc + 1 = pc') (k : jx_J D L X pc' lv (va :: vb :: va :: vb :: st) u) : jx_J D L X pc lv (va :: vb :: st) u := by
  subst hp
  exact fun H locs ls hP hS hl => lv_dup2_11 hX.1 hX.2.1 hd hva hvb (k H locs ls hP hS hl)
theorem jx_dup_x2 (pc' : Nat) (hX : jx_K D L X cc own nL ret rm Qc) {va vb vd : Value} (hva : va.category = 1) (hvb : vb.category = 1) (hvd : vd.category = 1) (hd : decode cc pc = .ok (.dup_x2, 1)) (hp : pc + 1 = pc') (k : jx_J D L X pc' lv (va :: vb :: vd :: va :: st) u) : jx_J D L X pc lv (va :: vb :: vd :: st) u := by
  subst hp
  exact fun H locs ls hP hS hl => lv_dup_x2 hX.1 hX.2.1 hd hva hvb hvd (k H locs ls hP hS hl)
theorem jx_ldc (pc' : Nat) (hX : jx_K D L X cc own nL ret rm Qc) {index : Nat} {v : Int32} (hw : Cond.constant own index v ∈ jx_tb) (hd : decode cc pc = .ok (.ldc index, 2)) (hp : pc + 2 = pc') (k : jx_J D L X pc' lv (.int v :: st) u) : jx_J D L X pc lv (st) u := by
  subst hp
  exact fun H locs ls hP hS hl => lv_ldc hX.1 hX.2.1 hX.2.2.2.1 (hX.2.2.2.2.1 _ hw) hd (k H locs ls hP hS hl)
theorem jx_ldc2 (pc' : Nat) (hX : jx_K D L X cc own nL ret rm Qc) {index : Nat} {v : Int64} (hw : Cond.constantLong own index v ∈ jx_tb) (hd : decode cc pc = .ok (.ldc2_w index, 3)) (hp : pc + 3 = pc') (k : jx_J D L X pc' lv (.long v :: st) u) : jx_J D L X pc lv (st) u := by
  subst hp
  exact fun H locs ls hP hS hl => lv_ldc2 hX.1 hX.2.1 hX.2.2.2.1 (hX.2.2.2.2.1 _ hw) hd (k H locs ls hP hS hl)
theorem jx_if_eq (pc' tgt : Nat) (hX : jx_K D L X cc own nL ret rm Qc) {x : Int32} {off : Int} (hd : decode cc pc = .ok (.ifCond .eq off, 3)) (hp : pc + 3 = pc') (ht : (pc : Int) + off = (tgt : Int)) (kt : (x = 0) → jx_J D L X tgt lv st u) (kf : (¬ x = 0) → jx_J D L X pc' lv st u) : jx_J D L X pc lv (.int x :: st) u := by
  subst hp
  exact fun H locs ls hP hS hl => lv_if_eq hX.1 hX.2.1 hd ht (fun h => kt h H locs ls hP hS hl) (fun h => kf h H locs ls hP hS hl)
theorem jx_icmp_eq (pc' tgt : Nat) (hX : jx_K D L X cc own nL ret rm Qc) {x y : Int32} {off : Int} (hd : decode cc pc = .ok (.if_icmp .eq off, 3)) (hp : pc + 3 = pc') (ht : (pc : Int) + off = (tgt : Int)) (kt : (x = y) → jx_J D L X tgt lv st u) (kf : (¬ x = y) → jx_J D L X pc' lv st u) : jx_J D L X pc lv (.int y :: .int x :: st) u := by
  subst hp
  exact fun H locs ls hP hS hl => lv_icmp_eq hX.1 hX.2.1 hd ht (fun h => kt h H locs ls hP hS hl) (fun h => kf h H locs ls hP hS hl)
theorem jx_if_ne (pc' tgt : Nat) (hX : jx_K D L X cc own nL ret rm Qc) {x : Int32} {off : Int} (hd : decode cc pc = .ok (.ifCond .ne off, 3)) (hp : pc + 3 = pc') (ht : (pc : Int) + off = (tgt : Int)) (kt : (¬ x = 0) → jx_J D L X tgt lv st u) (kf : (x = 0) → jx_J D L X pc' lv st u) : jx_J D L X pc lv (.int x :: st) u := by
  subst hp
  exact fun H locs ls hP hS hl => lv_if_ne hX.1 hX.2.1 hd ht (fun h => kt h H locs ls hP hS hl) (fun h => kf h H locs ls hP hS hl)
theorem jx_icmp_ne (pc' tgt : Nat) (hX : jx_K D L X cc own nL ret rm Qc) {x y : Int32} {off : Int} (hd : decode cc pc = .ok (.if_icmp .ne off, 3)) (hp : pc + 3 = pc') (ht : (pc : Int) + off = (tgt : Int)) (kt : (¬ x = y) → jx_J D L X tgt lv st u) (kf : (x = y) → jx_J D L X pc' lv st u) : jx_J D L X pc lv (.int y :: .int x :: st) u := by
  subst hp
  exact fun H locs ls hP hS hl => lv_icmp_ne hX.1 hX.2.1 hd ht (fun h => kt h H locs ls hP hS hl) (fun h => kf h H locs ls hP hS hl)
theorem jx_if_lt (pc' tgt : Nat) (hX : jx_K D L X cc own nL ret rm Qc) {x : Int32} {off : Int} (hd : decode cc pc = .ok (.ifCond .lt off, 3)) (hp : pc + 3 = pc') (ht : (pc : Int) + off = (tgt : Int)) (kt : (x < 0) → jx_J D L X tgt lv st u) (kf : (¬ x < 0) → jx_J D L X pc' lv st u) : jx_J D L X pc lv (.int x :: st) u := by
  subst hp
  exact fun H locs ls hP hS hl => lv_if_lt hX.1 hX.2.1 hd ht (fun h => kt h H locs ls hP hS hl) (fun h => kf h H locs ls hP hS hl)
theorem jx_icmp_lt (pc' tgt : Nat) (hX : jx_K D L X cc own nL ret rm Qc) {x y : Int32} {off : Int} (hd : decode cc pc = .ok (.if_icmp .lt off, 3)) (hp : pc + 3 = pc') (ht : (pc : Int) + off = (tgt : Int)) (kt : (x < y) → jx_J D L X tgt lv st u) (kf : (¬ x < y) → jx_J D L X pc' lv st u) : jx_J D L X pc lv (.int y :: .int x :: st) u := by
  subst hp
  exact fun H locs ls hP hS hl => lv_icmp_lt hX.1 hX.2.1 hd ht (fun h => kt h H locs ls hP hS hl) (fun h => kf h H locs ls hP hS hl)
theorem jx_if_ge (pc' tgt : Nat) (hX : jx_K D L X cc own nL ret rm Qc) {x : Int32} {off : Int} (hd : decode cc pc = .ok (.ifCond .ge off, 3)) (hp : pc + 3 = pc') (ht : (pc : Int) + off = (tgt : Int)) (kt : (0 ≤ x) → jx_J D L X tgt lv st u) (kf : (¬ 0 ≤ x) → jx_J D L X pc' lv st u) : jx_J D L X pc lv (.int x :: st) u := by
  subst hp
  exact fun H locs ls hP hS hl => lv_if_ge hX.1 hX.2.1 hd ht (fun h => kt h H locs ls hP hS hl) (fun h => kf h H locs ls hP hS hl)
theorem jx_icmp_ge (pc' tgt : Nat) (hX : jx_K D L X cc own nL ret rm Qc) {x y : Int32} {off : Int} (hd : decode cc pc = .ok (.if_icmp .ge off, 3)) (hp : pc + 3 = pc') (ht : (pc : Int) + off = (tgt : Int)) (kt : (y ≤ x) → jx_J D L X tgt lv st u) (kf : (¬ y ≤ x) → jx_J D L X pc' lv st u) : jx_J D L X pc lv (.int y :: .int x :: st) u := by
  subst hp
  exact fun H locs ls hP hS hl => lv_icmp_ge hX.1 hX.2.1 hd ht (fun h => kt h H locs ls hP hS hl) (fun h => kf h H locs ls hP hS hl)
theorem jx_if_gt (pc' tgt : Nat) (hX : jx_K D L X cc own nL ret rm Qc) {x : Int32} {off : Int} (hd : decode cc pc = .ok (.ifCond .gt off, 3)) (hp : pc + 3 = pc') (ht : (pc : Int) + off = (tgt : Int)) (kt : (0 < x) → jx_J D L X tgt lv st u) (kf : (¬ 0 < x) → jx_J D L X pc' lv st u) : jx_J D L X pc lv (.int x :: st) u := by
  subst hp
  exact fun H locs ls hP hS hl => lv_if_gt hX.1 hX.2.1 hd ht (fun h => kt h H locs ls hP hS hl) (fun h => kf h H locs ls hP hS hl)
theorem jx_icmp_gt (pc' tgt : Nat) (hX : jx_K D L X cc own nL ret rm Qc) {x y : Int32} {off : Int} (hd : decode cc pc = .ok (.if_icmp .gt off, 3)) (hp : pc + 3 = pc') (ht : (pc : Int) + off = (tgt : Int)) (kt : (y < x) → jx_J D L X tgt lv st u) (kf : (¬ y < x) → jx_J D L X pc' lv st u) : jx_J D L X pc lv (.int y :: .int x :: st) u := by
  subst hp
  exact fun H locs ls hP hS hl => lv_icmp_gt hX.1 hX.2.1 hd ht (fun h => kt h H locs ls hP hS hl) (fun h => kf h H locs ls hP hS hl)
theorem jx_if_le (pc' tgt : Nat) (hX : jx_K D L X cc own nL ret rm Qc) {x : Int32} {off : Int} (hd : decode cc pc = .ok (.ifCond .le off, 3)) (hp : pc + 3 = pc') (ht : (pc : Int) + off = (tgt : Int)) (kt : (x ≤ 0) → jx_J D L X tgt lv st u) (kf : (¬ x ≤ 0) → jx_J D L X pc' lv st u) : jx_J D L X pc lv (.int x :: st) u := by
  subst hp
  exact fun H locs ls hP hS hl => lv_if_le hX.1 hX.2.1 hd ht (fun h => kt h H locs ls hP hS hl) (fun h => kf h H locs ls hP hS hl)
theorem jx_icmp_le (pc' tgt : Nat) (hX : jx_K D L X cc own nL ret rm Qc) {x y : Int32} {off : Int} (hd : decode cc pc = .ok (.if_icmp .le off, 3)) (hp : pc + 3 = pc') (ht : (pc : Int) + off = (tgt : Int)) (kt : (x ≤ y) → jx_J D L X tgt lv st u) (kf : (¬ x ≤ y) → jx_J D L X pc' lv st u) : jx_J D L X pc lv (.int y :: .int x :: st) u := by
  subst hp
  exact fun H locs ls hP hS hl => lv_icmp_le hX.1 hX.2.1 hd ht (fun h => kt h H locs ls hP hS hl) (fun h => kf h H locs ls hP hS hl)
theorem jx_goto (tgt : Nat) (hX : jx_K D L X cc own nL ret rm Qc) {off : Int} (hd : decode cc pc = .ok (.goto off, 3)) (ht : (pc : Int) + off = (tgt : Int)) (k : jx_J D L X tgt lv st u) : jx_J D L X pc lv st u :=
  fun H locs ls hP hS hl => lv_goto hX.1 hX.2.1 hd ht (k H locs ls hP hS hl)
theorem jx_lookup (tgt : Nat) (hX : jx_K D L X cc own nL ret rm Qc) {dflt : Int} {ps : Array (Int × Int)} {len : Nat} {x : Int32} {off : Int} (hd : decode cc pc = .ok (.lookupswitch dflt ps, len)) (hs : (ps.toList.zip (ps.toList.drop 1)).all (fun (a, next) => a.1 < next.1) = true) (ho : Op.lookupswitch.offset ps.toList dflt x.toInt = off) (ht : (pc : Int) + off = (tgt : Int)) (k : jx_J D L X tgt lv st u) : jx_J D L X pc lv (.int x :: st) u :=
  fun H locs ls hP hS hl => lv_lookup hX.1 hX.2.1 hd hs ho ht (k H locs ls hP hS hl)
theorem jx_tabOut (tgt : Nat) (hX : jx_K D L X cc own nL ret rm Qc) {dflt lo hi : Int} {offs : Array Int} {len : Nat} {x : Int32} (hd : decode cc pc = .ok (.tableswitch dflt lo hi offs, len)) (h : x.toInt < lo ∨ hi < x.toInt) (ht : (pc : Int) + dflt = (tgt : Int)) (k : jx_J D L X tgt lv st u) : jx_J D L X pc lv (.int x :: st) u :=
  fun H locs ls hP hS hl => lv_tableOut hX.1 hX.2.1 hd h ht (k H locs ls hP hS hl)
theorem jx_tabIn (tgt : Nat) (hX : jx_K D L X cc own nL ret rm Qc) {dflt lo hi : Int} {offs : Array Int} {len : Nat} {x : Int32} {off : Int} (hd : decode cc pc = .ok (.tableswitch dflt lo hi offs, len)) (h1 : ¬ x.toInt < lo) (h2 : ¬ hi < x.toInt) (ho : offs[(x.toInt - lo).toNat]? = some off) (ht : (pc : Int) + off = (tgt : Int)) (k : jx_J D L X tgt lv st u) : jx_J D L X pc lv (.int x :: st) u :=
  fun H locs ls hP hS hl => lv_tableIn hX.1 hX.2.1 hd h1 h2 ho ht (k H locs ls hP hS hl)
/-- cell c is there, and is an object of class ci (or an array of kind ci) -/
def jx_ok (L : jx_Ly) (ci c : Nat) : Prop := c < L.2 ∧ (L.1 c).1 = ci
/-- field f of class ci under the entry idx of own's pool; it may be written -/
def jx_fg (own : String) (idx ci f : Nat) : Prop := ci ≤ 4 ∧ ∃ (C : String) (T : u_T), vwCl[ci]? = some (C, T, jx_nf ci) ∧ f < jx_nf ci ∧ (∀ w ∈ u_ws C T (jx_nf ci), w ∈ jx_tb) ∧ Cond.fieldLink own idx (T f).1 (T f).2.1 (T f).2.2.1 ∈ jx_tb
def jx_fp (own : String) (idx ci f : Nat) (ty : FieldType) : Prop := ci ≤ 4 ∧ ∃ (C : String) (T : u_T) (ty0 : Nat → FieldType), vwCl[ci]? = some (C, T, jx_nf ci) ∧ f < jx_nf ci ∧ (∀ w ∈ u_ws C T (jx_nf ci), w ∈ jx_tb) ∧ Cond.fieldLink own idx (T f).1 (T f).2.1 (T f).2.2.1 ∈ jx_tb ∧ (∀ k, k < jx_nf ci → parseFieldDescriptor (T k).2.2.1 = some (ty0 k)) ∧ (∀ a, a < jx_nf ci → ∀ b, b < jx_nf ci → a ≠ b → (T a).2.1 ≠ (T b).2.1) ∧ (T f).2.2.2 = false ∧ parseFieldDescriptor (T f).2.2.1 = some ty
theorem jx_getI (pc' : Nat) (hX : jx_K D L X cc own nL ret rm Qc) {idx ci f c : Nat} (hf : jx_fg own idx ci f) (hr : jx_isR ci f = false) (hc : jx_ok L ci c) (hd : decode cc pc = .ok (.getfield idx, 3)) (hp : pc + 3 = pc') (k : jx_J D L X pc' lv (.int (u.1 c f) :: st) u) : jx_J D L X pc lv (.ref (D.2.1 c) :: st) u := by
  subst hp
  obtain ⟨h4, C, T, h1, h2, h3, h5⟩ := hf
  exact fun H locs ls hP hS hl => va_get (ci := ci) (fs := jx_F D u ci c) hX.1 hX.2.1 hX.2.2.2.2.1 h3 hX.2.2.2.1 hX.2.2.2.2.2.2.2.1 hP c (by rw [jx_w_at hc.1, jx_E_obj hc.2 h4]) h1 f h2 (hX.2.2.2.2.1 _ h5) (fun _ h => h) (jx_F_int h2 hr) hd (k H locs ls hP hS hl)
theorem jx_getR (pc' : Nat) (hX : jx_K D L X cc own nL ret rm Qc) {idx ci f c : Nat} (hf : jx_fg own idx ci f) (hr : jx_isR ci f = true) (hc : jx_ok L ci c) (hd : decode cc pc = .ok (.getfield idx, 3)) (hp : pc + 3 = pc') (k : jx_J D L X pc' lv (.ref (D.2.1 (u.2 c f)) :: st) u) : jx_J D L X pc lv (.ref (D.2.1 c) :: st) u := by
  subst hp
  obtain ⟨h4, C, T, h1, h2, h3, h5⟩ := hf
  exact fun H locs ls hP hS hl => va_get (ci := ci) (fs := jx_F D u ci c) hX.1 hX.2.1 hX.2.2.2.2.1 h3 hX.2.2.2.1 hX.2.2.2.2.2.2.2.1 hP c (by rw [jx_w_at hc.1, jx_E_obj hc.2 h4]) h1 f h2 (hX.2.2.2.2.1 _ h5) (fun _ h => h) (jx_F_ref h2 hr) hd (k H locs ls hP hS hl)
theorem jx_putI (pc' : Nat) (hX : jx_K D L X cc own nL ret rm Qc) {idx ci f c : Nat} {v : Int32} (hf : jx_fp own idx ci f .int) (hr : jx_isR ci f = false) (hc : jx_ok L ci c) (hd : decode cc pc = .ok (.putfield idx, 3)) (hp : pc + 3 = pc') (k : jx_J D L X pc' lv st (jx_sI u c f v)) : jx_J D L X pc lv (.int v :: .ref (D.2.1 c) :: st) u := by
  subst hp
  obtain ⟨h4, C, T, ty0, h1, h2, h3, h5, h6, h7, h8, h9⟩ := hf
  intro H locs ls hP hS hl
  refine va_put (ci := ci) (fs := jx_F D u ci c) (v := .int v) (ty := .int) hX.1 hX.2.1 hX.2.2.2.2.1 h3 ty0 h6 h7 hX.2.2.2.1 hX.2.2.2.2.2.2.2.1 hP (jx_D_of hX.2.2.2.2.2.2.2.2.1) hS c (by rw [jx_w_at hc.1, jx_E_obj hc.2 h4]) h1 f h2 (hX.2.2.2.2.1 _ h5) (fun _ h => h) h8 h9 rfl rfl (by rw [jx_F_len]; exact h2) hd (fun H1 locs1 hP1 _ hS1 => ?_)
  rw [jx_F_setI hr, jx_w_set (s2 := jx_sI u c f v) hc.1 (jx_E_obj hc.2 h4) (fun c' h => jx_E_otherI h)] at hP1
  exact k H1 locs1 ls hP1 hS1 hl
theorem jx_putR (pc' : Nat) (hX : jx_K D L X cc own nL ret rm Qc) {idx ci f c v : Nat} {ty : FieldType} (hf : jx_fp own idx ci f ty) (hn : ∀ z : Nat, narrow ty (.ref z) = .ref z) (hfit : ∀ z : Nat, fits ty (.ref z) = true) (hr : jx_isR ci f = true) (hc : jx_ok L ci c) (hd : decode cc pc = .ok (.putfield idx, 3)) (hp : pc + 3 = pc') (k : jx_J D L X pc' lv st (jx_sR u c f v)) : jx_J D L X pc lv (.ref (D.2.1 v) :: .ref (D.2.1 c) :: st) u := by
  subst hp
  obtain ⟨h4, C, T, ty0, h1, h2, h3, h5, h6, h7, h8, h9⟩ := hf
  intro H locs ls hP hS hl
  refine va_put (ci := ci) (fs := jx_F D u ci c) (v := .ref (D.2.1 v)) (ty := ty) hX.1 hX.2.1 hX.2.2.2.2.1 h3 ty0 h6 h7 hX.2.2.2.1 hX.2.2.2.2.2.2.2.1 hP (jx_D_of hX.2.2.2.2.2.2.2.2.1) hS c (by rw [jx_w_at hc.1, jx_E_obj hc.2 h4]) h1 f h2 (hX.2.2.2.2.1 _ h5) (fun _ h => h) h8 h9 (hn _) (hfit _) (by rw [jx_F_len]; exact h2) hd (fun H1 locs1 hP1 _ hS1 => ?_)
  rw [jx_F_setR hr, jx_w_set (s2 := jx_sR u c f v) hc.1 (jx_E_obj hc.2 h4) (fun c' h => jx_E_otherR h)] at hP1
  exact k H1 locs1 ls hP1 hS1 hl
/-- place i of array c -/
def jx_ix (L : jx_Ly) (ci c : Nat) (i : Int32) : Prop := jx_ok L ci c ∧ vp_in i (L.1 c).2
theorem jx_caload (pc' : Nat) (hX : jx_K D L X cc own nL ret rm Qc) {c : Nat} {i : Int32} (hc : jx_ix L 5 c i) (hd : decode cc pc = .ok (.caload, 1)) (hp : pc + 1 = pc') (k : jx_J D L X pc' lv (.int (u.1 c i.toNatClampNeg) :: st) u) : jx_J D L X pc lv (.int i :: .ref (D.2.1 c) :: st) u := by
  subst hp
  exact fun H locs ls hP hS hl => va_cald hX.1 hX.2.1 hX.2.2.2.2.2.2.2.1 hP c 0 (by rw [jx_w_at hc.1.1, jx_E_chr hc.1.2]) rfl hc.2 hd (k H locs ls hP hS hl)
theorem jx_iaload (pc' : Nat) (hX : jx_K D L X cc own nL ret rm Qc) {c : Nat} {i : Int32} (hc : jx_ix L 6 c i) (hd : decode cc pc = .ok (.iaload, 1)) (hp : pc + 1 = pc') (k : jx_J D L X pc' lv (.int (u.1 c i.toNatClampNeg) :: st) u) : jx_J D L X pc lv (.int i :: .ref (D.2.1 c) :: st) u := by
  subst hp
  exact fun H locs ls hP hS hl => va_iald hX.1 hX.2.1 hX.2.2.2.2.2.2.2.1 hP c 1 (by rw [jx_w_at hc.1.1, jx_E_int hc.1.2]) rfl hc.2 hd (k H locs ls hP hS hl)
theorem jx_aaload (pc' : Nat) (hX : jx_K D L X cc own nL ret rm Qc) {c : Nat} {i : Int32} (hc : jx_ix L 7 c i) (hd : decode cc pc = .ok (.aaload, 1)) (hp : pc + 1 = pc') (k : jx_J D L X pc' lv (.ref (D.2.1 (u.2 c i.toNatClampNeg)) :: st) u) : jx_J D L X pc lv (.int i :: .ref (D.2.1 c) :: st) u := by
  subst hp
  exact fun H locs ls hP hS hl => va_aldq (f := fun i => some (D.2.1 (u.2 c i))) hX.1 hX.2.1 hX.2.2.2.2.2.2.2.1 hP c 2 (by rw [jx_w_at hc.1.1, jx_E_grp hc.1.2]) rfl hc.2 hd (k H locs ls hP hS hl)
theorem jx_castore (pc' : Nat) (hX : jx_K D L X cc own nL ret rm Qc) {c : Nat} {i v : Int32} (hc : jx_ix L 5 c i) (hd : decode cc pc = .ok (.castore, 1)) (hp : pc + 1 = pc') (k : jx_J D L X pc' lv st (jx_sI u c i.toNatClampNeg (vp_nar .char v))) : jx_J D L X pc lv (.int v :: .int i :: .ref (D.2.1 c) :: st) u := by
  subst hp
  intro H locs ls hP hS hl
  refine va_cast hX.1 hX.2.1 hX.2.2.2.2.2.2.2.1 hP (jx_D_of hX.2.2.2.2.2.2.2.2.1) hS c 0 (by rw [jx_w_at hc.1.1, jx_E_chr hc.1.2]) rfl hc.2 hd (fun H1 locs1 hP1 _ hS1 => ?_)
  rw [jx_upd_row, jx_w_set (s2 := jx_sI u c i.toNatClampNeg (vp_nar .char v)) hc.1.1 (jx_E_chr hc.1.2) (fun c' h => jx_E_otherI h)] at hP1
  exact k H1 locs1 ls hP1 hS1 hl
theorem jx_iastore (pc' : Nat) (hX : jx_K D L X cc own nL ret rm Qc) {c : Nat} {i v : Int32} (hc : jx_ix L 6 c i) (hd : decode cc pc = .ok (.iastore, 1)) (hp : pc + 1 = pc') (k : jx_J D L X pc' lv st (jx_sI u c i.toNatClampNeg v)) : jx_J D L X pc lv (.int v :: .int i :: .ref (D.2.1 c) :: st) u := by
  subst hp
  intro H locs ls hP hS hl
  refine va_iast hX.1 hX.2.1 hX.2.2.2.2.2.2.2.1 hP (jx_D_of hX.2.2.2.2.2.2.2.2.1) hS c 1 (by rw [jx_w_at hc.1.1, jx_E_int hc.1.2]) rfl hc.2 hd (fun H1 locs1 hP1 _ hS1 => ?_)
  rw [jx_upd_row, jx_w_set (s2 := jx_sI u c i.toNatClampNeg v) hc.1.1 (jx_E_int hc.1.2) (fun c' h => jx_E_otherI h)] at hP1
  exact k H1 locs1 ls hP1 hS1 hl
theorem jx_alenC (pc' : Nat) (hX : jx_K D L X cc own nL ret rm Qc) {c : Nat} (hc : jx_ok L 5 c) (hd : decode cc pc = .ok (.arraylength, 1)) (hp : pc + 1 = pc') (k : jx_J D L X pc' lv (.int (nI (L.1 c).2) :: st) u) : jx_J D L X pc lv (.ref (D.2.1 c) :: st) u := by
  subst hp
  exact fun H locs ls hP hS hl => va_alen (x := ((L.1 c).2, .inl (u.1 c))) hX.1 hX.2.1 hX.2.2.2.2.2.2.2.1 hP c 0 (by rw [jx_w_at hc.1, jx_E_chr hc.2]) rfl rfl hd (k H locs ls hP hS hl)
theorem jx_alenI (pc' : Nat) (hX : jx_K D L X cc own nL ret rm Qc) {c : Nat} (hc : jx_ok L 6 c) (hd : decode cc pc = .ok (.arraylength, 1)) (hp : pc + 1 = pc') (k : jx_J D L X pc' lv (.int (nI (L.1 c).2) :: st) u) : jx_J D L X pc lv (.ref (D.2.1 c) :: st) u := by
  subst hp
  exact fun H locs ls hP hS hl => va_alen (x := ((L.1 c).2, .inl (u.1 c))) hX.1 hX.2.1 hX.2.2.2.2.2.2.2.1 hP c 1 (by rw [jx_w_at hc.1, jx_E_int hc.2]) rfl rfl hd (k H locs ls hP hS hl)
theorem jx_ldcS (pc' : Nat) (hX : jx_K D L X cc RX2 nL ret rm Qc) (i : Nat) {idx : Nat} (hi : i < 19) (he : jx_six.getD i 0 = idx) (hd : decode cc pc = .ok (.ldc idx, 2)) (hp : pc + 2 = pc') (k : jx_J D L X pc' lv (.ref (D.2.2.2.1 i) :: st) u) : jx_J D L X pc lv st u := by
  subst hp
  subst he
  exact fun H locs ls hP hS hl => va_ldcS hX.1 hX.2.1 hX.2.2.2.1 (hX.2.2.2.2.2.2.2.2.2.1.2.1 i hi) hd (k H locs ls hP hS hl)
theorem jx_Wldcw {p : Program} {l : Launch} {e : Env} {R : Room} {s : State} {m : MethodId} {args : Array Value} {below : List Frame} {meth : Method} {c : Code} {H : Heap} {locs : List Loc} {cells slots : Nat} {Q : State → Prop} {cc : ByteArray} {pc : Nat} {ls : Array Slot} {rest : List Value} (hexec : p.tables.exec = Jvm.exec) (hb : c.code = cc) {own tx : String} {index q : Nat} (hown : s.vm.findClass own = some m.cls) (hZ : vk_R own index tx q s) (hdg : decode cc pc = .ok (.ldc_w index, 3))
    (k : W p l e R s m args below meth c H locs cells slots Q (F0 m (pc + 3) ls (.ref q :: rest))) : W p l e R s m args below meth c H locs cells slots Q (F0 m pc ls rest) := by
  intro T hT X
  obtain ⟨t, a1, b1⟩ := k T hT X
  refine ⟨t, ?_, b1⟩
  obtain ⟨k, cf, i, a', hk, hcf, hcp, -, hr, hev'⟩ := Cond.stringRef_spec hown hZ.1
  cases hZ.2.symm.trans hev'
  obtain ⟨k', hk', he⟩ := X.warmed.alike.2.2 _ _ hk
  have hr' : k'.resolved[index]? = some (some (.string q)) := by
    rcases X.warmed.entry hk hk' index with h | ⟨h, -⟩
    · rw [h]; exact hr
    · rw [hr] at h; cases h
  have hdg' : decode c.code (F0 m pc ls rest).pc = .ok (.ldc_w index, 3) := by rw [hb]; exact hdg
  jvm_step X.here [hexec, hdg', ldc_w.wp_string (e := e) (s := T) (f := F0 m pc ls rest) X.here.top hk' (by rw [he]; exact hcf) hcp hr']
  exact a1
theorem jx_ldcW (pc' : Nat) (hX : jx_K D L X cc RX2 nL ret rm Qc) (i : Nat) {idx : Nat} (hi : i < 19) (he : jx_six.getD i 0 = idx) (hd : decode cc pc = .ok (.ldc_w idx, 3)) (hp : pc + 3 = pc') (k : jx_J D L X pc' lv (.ref (D.2.2.2.1 i) :: st) u) : jx_J D L X pc lv st u := by
  subst hp
  subst he
  exact fun H locs ls hP hS hl => jx_Wldcw hX.1 hX.2.1 hX.2.2.2.1 (hX.2.2.2.2.2.2.2.2.2.1.2.1 i hi) hd (k H locs ls hP hS hl)
theorem jx_topi {e : Int32} (k : ∀ x : Int32, x = e → jx_J D L X pc lv (.int x :: st) u) : jx_J D L X pc lv (.int e :: st) u := k e rfl
theorem jx_topl {e : Int64} (k : ∀ x : Int64, x = e → jx_J D L X pc lv (.long x :: st) u) : jx_J D L X pc lv (.long e :: st) u := k e rfl
theorem jx_topc {e : Nat} (k : ∀ x : Nat, x = e → jx_J D L X pc lv (.ref (D.2.1 x) :: st) u) : jx_J D L X pc lv (.ref (D.2.1 e) :: st) u := k e rfl
theorem jx_namu {e : jx_St} (k : ∀ x : jx_St, x = e → jx_J D L X pc lv st x) : jx_J D L X pc lv st e := k e rfl
theorem jx_endB {H : Heap} {locs : List Loc} {t : State} (hX : jx_K D L X cc own nL ret rm Qc) (hP : va_P D.1 vwCl (jx_w D L u) H) (hS : va_S (jx_A D L) (jx_s X).heap H locs) (ht : t.heap = H) (hW : (jx_s X).WarmedH t.vm) : jx_B D L u t :=
  ⟨by rw [ht]; exact hP, va_K.moved hW.alike hX.2.2.2.2.2.2.2.1, hX.2.2.2.2.2.2.2.2.1, by rw [ht]; exact jx_Sr_kept (jx_Sr_warm hW hX.2.2.2.2.2.2.2.2.2.1) hS.2.1⟩
theorem jx_iret {post : Int32 → jx_St → Prop} {v : Int32} (hX : jx_K D L X cc own nL (some .int) rm (jx_Qi D L post)) (hd : decode cc pc = .ok (.ireturn, 1)) (h : post v u) : jx_J D L X pc lv [.int v] u := by
  intro H locs ls hP hS hl
  show W _ _ _ _ _ _ _ _ _ _ _ _ 0 0 (jx_Q X) _
  rw [hX.2.2.2.2.2.2.2.2.2.2.2.2]
  exact W.iret hX.1 hX.2.1 hX.2.2.2.2.2.2.1 (fun t ht hW => ⟨⟨v, u, rfl, h, jx_endB hX hP hS ht hW⟩, hS.F ht⟩) hS.2.2 hd hX.2.2.2.2.2.1
theorem jx_nb {v : Int32} (h : v = 0 ∨ v = 1) : narrow .boolean (.int v) = .int v := by rcases h with rfl | rfl <;> decide
theorem jx_zret {post : Int32 → jx_St → Prop} {v : Int32} (hX : jx_K D L X cc own nL (some .boolean) rm (jx_Qi D L (fun r u => (r = 0 ∨ r = 1) ∧ post r u))) (hd : decode cc pc = .ok (.ireturn, 1)) (hv : v = 0 ∨ v = 1) (h : post v u) : jx_J D L X pc lv [.int v] u := by
  intro H locs ls hP hS hl
  show W _ _ _ _ _ _ _ _ _ _ _ _ 0 0 (jx_Q X) _
  rw [hX.2.2.2.2.2.2.2.2.2.2.2.2]
  exact W.zret hX.1 hX.2.1 hX.2.2.2.2.2.2.1 (jx_nb hv) (fun t ht hW => ⟨⟨v, u, rfl, ⟨hv, h⟩, jx_endB hX hP hS ht hW⟩, hS.F ht⟩) hS.2.2 hd hX.2.2.2.2.2.1
theorem jx_lret {post : Int64 → jx_St → Prop} {v : Int64} (hX : jx_K D L X cc own nL (some .long) rm (jx_Ql D L post)) (hd : decode cc pc = .ok (.lreturn, 1)) (h : post v u) : jx_J D L X pc lv [.long v] u := by
  intro H locs ls hP hS hl
  show W _ _ _ _ _ _ _ _ _ _ _ _ 0 0 (jx_Q X) _
  rw [hX.2.2.2.2.2.2.2.2.2.2.2.2]
  exact W.lret hX.1 hX.2.1 hX.2.2.2.2.2.2.1 (fun t ht hW => ⟨⟨v, u, rfl, h, jx_endB hX hP hS ht hW⟩, hS.F ht⟩) hS.2.2 hd hX.2.2.2.2.2.1
theorem jx_aret {post : Nat → jx_St → Prop} {v : Nat} {C : String} (hX : jx_K D L X cc own nL (some (.object C)) rm (jx_Qc D L post)) (hd : decode cc pc = .ok (.areturn, 1)) (h : post v u) : jx_J D L X pc lv [.ref (D.2.1 v)] u := by
  intro H locs ls hP hS hl
  show W _ _ _ _ _ _ _ _ _ _ _ _ 0 0 (jx_Q X) _
  rw [hX.2.2.2.2.2.2.2.2.2.2.2.2]
  exact W.aret hX.1 hX.2.1 hX.2.2.2.2.2.2.1 (Or.inl ⟨C, rfl⟩) (Or.inr ⟨_, rfl⟩) (fun t ht hW => ⟨⟨(v, u), D.2.1 v, rfl, h, rfl, jx_endB hX hP hS ht hW⟩, hS.F ht⟩) hS.2.2 hd hX.2.2.2.2.2.1
theorem jx_vret {post : jx_St → Prop} (hX : jx_K D L X cc own nL none rm (jx_Qv D L post)) (hd : decode cc pc = .ok (.return_, 1)) (h : post u) : jx_J D L X pc lv [] u := by
  intro H locs ls hP hS hl
  show W _ _ _ _ _ _ _ _ _ _ _ _ 0 0 (jx_Q X) _
  rw [hX.2.2.2.2.2.2.2.2.2.2.2.2]
  exact W.vret hX.1 hX.2.1 hX.2.2.2.2.2.2.1 (fun t ht hW => ⟨⟨u, rfl, h, jx_endB hX hP hS ht hW⟩, hS.F ht⟩) hS.2.2 hd hX.2.2.2.2.2.1
end JXROWS
