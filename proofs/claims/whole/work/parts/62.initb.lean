/-! ===== the constructor of Bulletin ===== -/
def gw_c (D : jx_Dt) (u : Nat → Nat) (g : Nat) : va_W := [(u (4 + 3 * g), .inr (1, [.int 0, .int 0, .int 0, .int 0, .int 0, .int 0, .int 0, .int 0, .int 0, .int 0, .ref (u (5 + 3 * g)), .ref (u (6 + 3 * g))])), (u (5 + 3 * g), .inl (D.2.2.1.2.1, 3, .inl (fun _ => 0))), (u (6 + 3 * g), .inl (D.2.2.1.2.1, 4, .inl (fun _ => 0)))]
def gw_n (D : jx_Dt) (u : Nat → Nat) : Nat → va_W
  | 0 => []
  | g + 1 => gw_n D u g ++ gw_c D u g
def bw_f (u : Nat → Nat) (g : Nat) : Nat → Option Nat := fun i => if i < g then some (u (4 + 3 * i)) else none
def bw_4 (D : jx_Dt) (u : Nat → Nat) (f : Nat → Option Nat) : va_W := [(u 0, .inr (0, [.int 0, .int 0, .int 0, .int 0, .int 0, .int 0, .ref (u 1), .int 0, .ref (u 2), .ref (u 3), .int 0])), (u 1, .inl (D.2.2.1.2.1, 4, .inl (fun _ => 0))), (u 2, .inl (D.2.2.1.2.2, 9, .inr (.inr (.inr (.inr (f)))))), (u 3, .inl (D.2.2.1.1, 700, .inl (fun _ => 0)))]
def bw (D : jx_Dt) (u : Nat → Nat) (g : Nat) : va_W := bw_4 D u (bw_f u g) ++ gw_n D u g
theorem gw_n_eq {D : jx_Dt} {u v : Nat → Nat} : ∀ g : Nat, (∀ k, k < 4 + 3 * g → u k = v k) → gw_n D u g = gw_n D v g
  | 0, _ => rfl
  | g + 1, h => by
    unfold gw_n
    rw [gw_n_eq g (fun k hk => h k (by omega))]
    unfold gw_c
    rw [h (4 + 3 * g) (by omega), h (5 + 3 * g) (by omega), h (6 + 3 * g) (by omega)]
def bw_x (u : Nat → Nat) (g q a b : Nat) : Nat → Nat := fun k => if k < 4 + 3 * g then u k else if k = 4 + 3 * g then q else if k = 5 + 3 * g then a else b
theorem bw_x_lo {u : Nat → Nat} {g q a b k : Nat} (h : k < 4 + 3 * g) : bw_x u g q a b k = u k := by unfold bw_x; rw [if_pos h]
theorem bw_x_4 {u : Nat → Nat} {g q a b : Nat} : bw_x u g q a b (4 + 3 * g) = q := by unfold bw_x; rw [if_neg (by omega), if_pos rfl]
theorem bw_x_5 {u : Nat → Nat} {g q a b : Nat} : bw_x u g q a b (5 + 3 * g) = a := by unfold bw_x; rw [if_neg (by omega), if_neg (by omega), if_pos rfl]
theorem bw_x_6 {u : Nat → Nat} {g q a b : Nat} : bw_x u g q a b (6 + 3 * g) = b := by unfold bw_x; rw [if_neg (by omega), if_neg (by omega), if_neg (by omega)]
theorem bw_f_x {u : Nat → Nat} {g q a b : Nat} : va_up (bw_f u g) g (some q) = bw_f (bw_x u g q a b) (g + 1) := by
  funext i
  unfold va_up bw_f
  by_cases h : i = g
  · subst h
    rw [if_pos rfl, if_pos (by omega), bw_x_4]
  · rw [if_neg h]
    by_cases h2 : i < g
    · rw [if_pos h2, if_pos (by omega), bw_x_lo (by omega)]
    · rw [if_neg h2, if_neg (by omega)]
theorem bw_step {D : jx_Dt} {u : Nat → Nat} {g q a b : Nat} : (bw D u g ++ ([(q, .inr (1, [.int 0, .int 0, .int 0, .int 0, .int 0, .int 0, .int 0, .int 0, .int 0, .int 0, .ref a, .ref b])), (a, .inl (D.2.2.1.2.1, 3, .inl (fun _ => 0))), (b, .inl (D.2.2.1.2.1, 4, .inl (fun _ => 0)))] : va_W)).set 2 (u 2, .inl (D.2.2.1.2.2, 9, .inr (.inr (.inr (.inr (va_up (bw_f u g) g (some q))))))) = bw D (bw_x u g q a b) (g + 1) := by
  have e1 : gw_n D (bw_x u g q a b) g = gw_n D u g := gw_n_eq g (fun k hk => bw_x_lo hk)
  unfold bw
  rw [show gw_n D (bw_x u g q a b) (g + 1) = gw_n D (bw_x u g q a b) g ++ gw_c D (bw_x u g q a b) g from rfl, e1]
  unfold gw_c bw_4
  rw [bw_x_4, bw_x_5, bw_x_6, bw_x_lo (k := 0) (by omega), bw_x_lo (k := 1) (by omega), bw_x_lo (k := 2) (by omega), bw_x_lo (k := 3) (by omega), ← bw_f_x]
  rw [List.append_assoc]
  rfl
theorem bw_last {D : jx_Dt} {u : Nat → Nat} {g : Nat} {x : Nat × va_E} {w : va_W} : (bw D u g ++ x :: w)[(bw D u g).length]? = some x := by
  rw [List.getElem?_append_right (Nat.le_refl _), Nat.sub_self]
  rfl

set_option maxHeartbeats 400000 in
set_option maxRecDepth 100000 in
theorem nX0_loop {p : Program} {l : Launch} {e : Env} {s : State} {m : MethodId} {args : Array Value} {below : List Frame} {meth : Method} {c : Code} {R : Room} {D : jx_Dt} {A : Nat → Prop} {H0 : Heap} {Q : State → Prop} {h0 : Nat} (hx : p.tables.exec = Jvm.exec) (hb : c.code = cX0_init) (hml : c.maxLocals = 2) (hown : s.vm.findClass RX0 = some m.cls) (htb : ∀ w ∈ jx_tb, w.before args s = true) (hK : va_K D.1 vwCl (jx_tys D) s) (hNw : va_Nw (.methodLinkNest RX0 25 yX1_init "SkyBulletin") s) (hR : R = { frames := 2, cells := 30, slots := 884, locals := 32 }) (hA : ∀ q, H0.size ≤ q → A q)
    (kk : ∀ (u : Nat → Nat) (H : Heap) (locs : List Loc) (ls : Array Slot), u 0 = h0 → va_P D.1 vwCl (bw D u 9) H → va_D A (bw D u 9) → va_S A H0 H locs → W p l e R s m args below meth c H locs 30 884 Q (F0 m 56 ls [])) :
    ∀ (n g : Nat), g + n = 9 → ∀ (u : Nat → Nat) (H : Heap) (locs : List Loc) (ls : Array Slot), u 0 = h0 → va_P D.1 vwCl (bw D u g) H → va_D A (bw D u g) → va_S A H0 H locs → lv_has ls 2 [(1, .int (nI g)), (0, .ref h0)] → W p l e R s m args below meth c H locs (3 + 3 * g) (713 + 19 * g) Q (F0 m 31 ls []) := by
  subst hR
  intro n
  induction n with
  | zero =>
    intro g hg u H locs ls hu hP hD hS hl
    obtain rfl : g = 9 := by omega
    refine lv_iload_n hx hb dX0_init_31 rfl (lv_at hl 0 rfl) ?_
    refine lv_bipush (v := 9) hx hb dX0_init_32 (by decide) ?_
    refine lv_icmp_ge (tgt := 56) hx hb dX0_init_34 (by decide) (fun _ => ?_) (fun z => absurd (by decide) z)
    exact kk u H locs ls hu hP hD hS
  | succ n ih =>
    intro g hg u H locs ls hu hP hD hS hl
    have g9 : g < 9 := by omega
    refine lv_iload_n hx hb dX0_init_31 rfl (lv_at hl 0 rfl) ?_
    refine lv_bipush (v := 9) hx hb dX0_init_32 (by decide) ?_
    refine lv_icmp_ge (tgt := 56) hx hb dX0_init_34 (by decide) (fun z => absurd (pz_lew (a := 9) (by decide) z) (by omega)) (fun _ => ?_)
    refine lv_aload_n hx hb dX0_init_37 rfl (lv_at hl 1 rfl) ?_
    refine va_get (D := D.1) (a := h0) (ci := 0) (fs := [.int 0, .int 0, .int 0, .int 0, .int 0, .int 0, .ref (u 1), .int 0, .ref (u 2), .ref (u 3), .int 0]) (v := .ref (u 2)) (C := RX0) (T := TX0) (N := 11) hx hb htb inlX0 hown hK hP 0 (by rw [← hu]; rfl) rfl 8 (by decide) (htb (.fieldLink RX0 17 "SkyBulletin$Bulletin" "groups" "[LSkyBulletin$Group;") (jx_mem 182 (by decide +kernel) (by decide +kernel))) (fun _ h9 => h9) rfl dX0_init_38 ?_
    refine lv_iload_n hx hb dX0_init_41 rfl (lv_at hl 0 rfl) ?_
    refine va_new (D := D.1) (ci := 1) (fs := [.int 0, .int 0, .int 0, .int 0, .int 0, .int 0, .int 0, .int 0, .int 0, .int 0, .null, .null]) (C := RX1) (T := TX1) (N := 12) hx hb htb inlX1 tyX1 tyX1_ok hown (htb (.classLink RX0 15 RX1) (jx_mem 89 (by decide +kernel) (by decide +kernel))) (htb (.instantiable RX1 12) (jx_mem 91 (by decide +kernel) (by decide +kernel))) (htb (.initialized RX1) (jx_mem 67 (by decide +kernel) (by decide +kernel))) hK hP hD hS hA rfl (fun j hj => by match j, hj with | 0, _ => rfl | 1, _ => rfl | 2, _ => rfl | 3, _ => rfl | 4, _ => rfl | 5, _ => rfl | 6, _ => rfl | 7, _ => rfl | 8, _ => rfl | 9, _ => rfl | 10, _ => rfl | 11, _ => rfl) (by show _ ≤ 30; omega) (by show _ ≤ 884; omega) dX0_init_42 (fun q H hP hD hS => ?_)
    refine lv_dup hx hb dX0_init_45 rfl ?_
    have hFc := F_right hD hS hA
    refine va_callv (va_runIN (host := "SkyBulletin") (As := []) (rest := [.ref q, .int (nI g), .ref (u 2)]) ⟨hx, hb, hml, hown, htb⟩ (nX1_init l D q H.size) ⟨va_cnB 0 htb (jx_goodIn (ws := []) (by simp) (jx_mem 94 (by decide +kernel) (by decide +kernel))) rfl rfl rfl hNw (htb (.initialized RX1) (jx_mem 67 (by decide +kernel) (by decide +kernel))) (by decide +kernel) ⟨Nat.le_of_ble_eq_true rfl, Nat.le_of_ble_eq_true rfl⟩, rfl, htb (.instanceMethod yX1_init) (jx_mem 93 (by decide +kernel) (by decide +kernel))⟩ ⟨fun a U g mk q => by obtain ⟨q0, q1, qP, qK, qD⟩ := q; exact ⟨q0, q1, qP, va_K.moved (u := U) (U := U.calling g mk a) (Vm.Alike.refl U.vm) qK, qD⟩, fun U hU hW => ⟨rfl, by rw [hU], by rw [hU]; exact P_right hP, va_K.moved hW.alike hK, (D_right hD).weaken (fun _ _ _ _ => trivial)⟩⟩ rfl rfl hl.1 rfl (lv_room (Nat.le_of_ble_eq_true rfl)) dX0_init_46 ⟨by show _ ≤ 30; omega, by show _ ≤ 884; omega⟩) hS (fun q _ h => hFc q h) hFc (fun z t H1 locs ht hvm hw hB hz1 hk1 hS => ?_)
    obtain ⟨z1, z2⟩ := z
    obtain ⟨hP1, hK1, hD1⟩ := hB
    rw [ht] at hP1
    obtain ⟨hP, hD⟩ := J_right hP hD hk1 hFc hP1 hD1
    clear hP1 hD1 hK1 hk1 hFc
    have hcl : (nI g).toNatClampNeg = g := pz_cl (by omega)
    refine va_astq (D := D.1) hx hb hK hP hD hS 2 2 (bw D u g).length 1 (cA := D.2.2.1.2.2) (r := (RX1, TX1, 12)) (n := 9) (f := bw_f u g) rfl rfl bw_last rfl (vp_in_nI g9 (by decide)) dX0_init_49 (fun H locs hP hD hS => ?_)
    rw [hcl, bw_step] at hP hD
    refine lv_iinc (v := nI (g + 1)) (lv' := [(1, .int (nI (g + 1))), (0, .ref h0)]) hx hb dX0_init_50 hl (k := 0) rfl (nI_1 g) (by decide) rfl (fun ls hl => ?_)
    refine lv_goto (tgt := 31) hx hb dX0_init_53 (by decide) ?_
    refine W.widen (k := 3 + 3 * (g + 1)) (n := 713 + 19 * (g + 1)) (by omega) (by omega) ?_
    exact ih (g + 1) (by omega) _ H locs ls (by rw [bw_x_lo (by omega)]; exact hu) hP hD hS hl

set_option maxHeartbeats 400000 in
set_option maxRecDepth 100000 in
theorem nX0_init (l : Launch) (D : jx_Dt) (h0 sz : Nat) : Met l yX0_init (.code yX0_init cX0_init 2 none :: jx_tb) ({ frames := 2, cells := 30, slots := 884, locals := 32 }) (va_Pc [.ref h0] (fun U => U.heap.size = sz ∧ va_P D.1 vwCl ([(h0, .inr (0, [.int 0, .int 0, .int 0, .int 0, .int 0, .int 0, .null, .int 0, .null, .null, .int 0]))]) U.heap ∧ va_K D.1 vwCl (jx_tys D) U ∧ va_D (fun _ => True) ([(h0, .inr (0, [.int 0, .int 0, .int 0, .int 0, .int 0, .int 0, .null, .int 0, .null, .null, .int 0]))]) ∧ va_AO RX1 U ∧ va_Nw (.methodLinkNest RX0 25 yX1_init "SkyBulletin") U)) (va_Qv (fun u : Nat → Nat => u 0 = h0) (fun u t => va_P D.1 vwCl (bw D u 9) t.heap ∧ va_K D.1 vwCl (jx_tys D) t ∧ va_D (va_A ([(h0, .inr (0, [.int 0, .int 0, .int 0, .int 0, .int 0, .int 0, .null, .int 0, .null, .null, .int 0]))]) sz) (bw D u 9)) (va_A ([(h0, .inr (0, [.int 0, .int 0, .int 0, .int 0, .int 0, .int 0, .null, .int 0, .null, .null, .int 0]))]) sz)) 30 884 (va_A ([(h0, .inr (0, [.int 0, .int 0, .int 0, .int 0, .int 0, .int 0, .null, .int 0, .null, .null, .int 0]))]) sz) := by
  refine Met.ofW (cc := cX0_init) (maxL := 2) (ret := none) (by decide) rfl ?_
  intro p e s m args below meth c s₁ B hml hv
  obtain ⟨rfl, hsz, hP, hK, hD0, hAO, hNw⟩ := hv
  have hx := B.exec
  have hb := B.bytes
  have hr := B.returns
  have hts := atoms_spec (ws := (.code yX0_init cX0_init 2 none :: jx_tb)) B.pre
  have htb : ∀ w ∈ jx_tb, w.before _ s = true := fun w h => hts w (List.mem_cons_of_mem _ h)
  have hown : s.vm.findClass RX0 = some m.cls := findClass_of_methodNamed B.named
  have hlocks := B.notSynchronized
  have hin : meth.name = "<init>" := (name_of_methodNamed B.named B.method).1
  subst hsz
  have hD := hD0.self (sz := s.heap.size)
  generalize hAe : va_A ([(h0, .inr (0, [.int 0, .int 0, .int 0, .int 0, .int 0, .int 0, .null, .int 0, .null, .null, .int 0]))]) s.heap.size = A at hD ⊢
  have hA : ∀ q : Nat, s.heap.size ≤ q → A q := fun q h => by rw [← hAe]; exact Or.inr h
  have hS : va_S A s.heap s.heap [] := va_S.rf
  have hP : va_P D.1 vwCl ([(h0, .inr (0, [.int 0, .int 0, .int 0, .int 0, .int 0, .int 0, .null, .int 0, .null, .null, .int 0]))]) s.heap := hP
  have hl := lv_entry ([.ref h0]) (n := 2) (Nat.le_of_ble_eq_true rfl)
  rw [lg_entry_eq]
  generalize (lg_sl ([.ref h0]) ++ List.replicate (2 - (lg_sl ([.ref h0])).length) Slot.unset).toArray = ls at hl ⊢
  have hl : lv_has ls 2 [(0, .ref h0)] := hl
  refine lv_aload_n hx hb dX0_init_0 rfl (lv_at hl 0 rfl) ?_
  refine W.objInit hx hb hown (htb (.methodLink RX0 3 Lib.objectInit) (jx_mem 88 (by decide +kernel) (by decide +kernel))) (htb (.instanceMethod Lib.objectInit) (jx_mem 81 (by decide +kernel) (by decide +kernel))) (htb (.code Lib.objectInit ⟨#[0xb1]⟩ 1 none) (jx_mem 82 (by decide +kernel) (by decide +kernel))) rfl (by rw [hml]; exact hl.1) rfl dX0_init_1 (Nat.le_of_ble_eq_true rfl) (Nat.le_of_ble_eq_true rfl) ?_
  refine W.eq (g2 := F0 m 4 ls []) rfl ?_
  refine lv_aload_n hx hb dX0_init_4 rfl (lv_at hl 0 rfl) ?_
  refine lv_iconst (v := 4) hx hb dX0_init_5 (by decide) ?_
  refine va_newa (atype := .int) (D := D.1) (cl := vwCl) (tys := jx_tys D) (a0 := (4, .inl (fun _ => 0))) (N' := 4) hx hb (htb (.arrayClass .int) (jx_mem 159 (by decide +kernel) (by decide +kernel))) (ty := .int) rfl hK hP hD hS hA (fun cA => rfl) (by decide) (by decide) (by decide) (by show _ ≤ 30; omega) (by show _ ≤ 884; omega) dX0_init_6 (fun q1 cA H hK2 hP hD hS => ?_)
  rw [jx_ci hK hK2] at hP hD
  clear hK2
  have hP : va_P D.1 vwCl ([(h0, .inr (0, [.int 0, .int 0, .int 0, .int 0, .int 0, .int 0, .null, .int 0, .null, .null, .int 0])), (q1, .inl (D.2.2.1.2.1, 4, .inl (fun _ => 0)))]) H := hP
  have hD : va_D A ([(h0, .inr (0, [.int 0, .int 0, .int 0, .int 0, .int 0, .int 0, .null, .int 0, .null, .null, .int 0])), (q1, .inl (D.2.2.1.2.1, 4, .inl (fun _ => 0)))]) := hD
  refine va_putF (D := D.1) (ci := 0) (v := .ref q1) (ty := .array .int) (C := RX0) (T := TX0) (N := 11) hx hb htb inlX0 tyX0 tyX0_ok nmX0 hown hK hP hD hS 0 rfl rfl 6 (by decide) (htb (.fieldLink RX0 9 "SkyBulletin$Bulletin" "station" "[I") (jx_mem 177 (by decide +kernel) (by decide +kernel))) (fun _ h9 => h9) rfl hin rfl (by decide +kernel) rfl rfl (Nat.le_of_ble_eq_true rfl) dX0_init_8 (fun H locs hP hD hS => ?_)
  have hP : va_P D.1 vwCl ([(h0, .inr (0, [.int 0, .int 0, .int 0, .int 0, .int 0, .int 0, .ref q1, .int 0, .null, .null, .int 0])), (q1, .inl (D.2.2.1.2.1, 4, .inl (fun _ => 0)))]) H := hP
  have hD : va_D A ([(h0, .inr (0, [.int 0, .int 0, .int 0, .int 0, .int 0, .int 0, .ref q1, .int 0, .null, .null, .int 0])), (q1, .inl (D.2.2.1.2.1, 4, .inl (fun _ => 0)))]) := hD
  refine lv_aload_n hx hb dX0_init_11 rfl (lv_at hl 0 rfl) ?_
  refine lv_bipush (v := 9) hx hb dX0_init_12 (by decide) ?_
  refine va_newq (D := D.1) (N' := 9) hx hb hown (htb (.classLink RX0 15 RX1) (jx_mem 89 (by decide +kernel) (by decide +kernel))) hAO hK hP hD hS hA (by decide) (by decide) (by decide) (by show _ ≤ 30; omega) (by show _ ≤ 884; omega) dX0_init_14 (fun q2 cA H hK2 hP hD hS => ?_)
  rw [jx_cg hK hK2] at hP hD
  clear hK2
  have hP : va_P D.1 vwCl ([(h0, .inr (0, [.int 0, .int 0, .int 0, .int 0, .int 0, .int 0, .ref q1, .int 0, .null, .null, .int 0])), (q1, .inl (D.2.2.1.2.1, 4, .inl (fun _ => 0))), (q2, .inl (D.2.2.1.2.2, 9, .inr (.inr (.inr (.inr (fun _ => none))))))]) H := hP
  have hD : va_D A ([(h0, .inr (0, [.int 0, .int 0, .int 0, .int 0, .int 0, .int 0, .ref q1, .int 0, .null, .null, .int 0])), (q1, .inl (D.2.2.1.2.1, 4, .inl (fun _ => 0))), (q2, .inl (D.2.2.1.2.2, 9, .inr (.inr (.inr (.inr (fun _ => none))))))]) := hD
  refine va_putF (D := D.1) (ci := 0) (v := .ref q2) (ty := .array (.object "SkyBulletin$Group")) (C := RX0) (T := TX0) (N := 11) hx hb htb inlX0 tyX0 tyX0_ok nmX0 hown hK hP hD hS 0 rfl rfl 8 (by decide) (htb (.fieldLink RX0 17 "SkyBulletin$Bulletin" "groups" "[LSkyBulletin$Group;") (jx_mem 182 (by decide +kernel) (by decide +kernel))) (fun _ h9 => h9) rfl hin rfl (by decide +kernel) rfl rfl (Nat.le_of_ble_eq_true rfl) dX0_init_17 (fun H locs hP hD hS => ?_)
  have hP : va_P D.1 vwCl ([(h0, .inr (0, [.int 0, .int 0, .int 0, .int 0, .int 0, .int 0, .ref q1, .int 0, .ref q2, .null, .int 0])), (q1, .inl (D.2.2.1.2.1, 4, .inl (fun _ => 0))), (q2, .inl (D.2.2.1.2.2, 9, .inr (.inr (.inr (.inr (fun _ => none))))))]) H := hP
  have hD : va_D A ([(h0, .inr (0, [.int 0, .int 0, .int 0, .int 0, .int 0, .int 0, .ref q1, .int 0, .ref q2, .null, .int 0])), (q1, .inl (D.2.2.1.2.1, 4, .inl (fun _ => 0))), (q2, .inl (D.2.2.1.2.2, 9, .inr (.inr (.inr (.inr (fun _ => none))))))]) := hD
  refine lv_aload_n hx hb dX0_init_20 rfl (lv_at hl 0 rfl) ?_
  refine lv_sipush (v := 700) hx hb dX0_init_21 (by decide) ?_
  refine va_newa (atype := .char) (D := D.1) (cl := vwCl) (tys := jx_tys D) (a0 := (700, .inl (fun _ => 0))) (N' := 700) hx hb (htb (.arrayClass .char) (jx_mem 158 (by decide +kernel) (by decide +kernel))) (ty := .char) rfl hK hP hD hS hA (fun cA => rfl) (by decide) (by decide) (by decide) (by show _ ≤ 30; omega) (by show _ ≤ 884; omega) dX0_init_24 (fun q3 cA H hK2 hP hD hS => ?_)
  rw [jx_cc hK hK2] at hP hD
  clear hK2
  have hP : va_P D.1 vwCl ([(h0, .inr (0, [.int 0, .int 0, .int 0, .int 0, .int 0, .int 0, .ref q1, .int 0, .ref q2, .null, .int 0])), (q1, .inl (D.2.2.1.2.1, 4, .inl (fun _ => 0))), (q2, .inl (D.2.2.1.2.2, 9, .inr (.inr (.inr (.inr (fun _ => none)))))), (q3, .inl (D.2.2.1.1, 700, .inl (fun _ => 0)))]) H := hP
  have hD : va_D A ([(h0, .inr (0, [.int 0, .int 0, .int 0, .int 0, .int 0, .int 0, .ref q1, .int 0, .ref q2, .null, .int 0])), (q1, .inl (D.2.2.1.2.1, 4, .inl (fun _ => 0))), (q2, .inl (D.2.2.1.2.2, 9, .inr (.inr (.inr (.inr (fun _ => none)))))), (q3, .inl (D.2.2.1.1, 700, .inl (fun _ => 0)))]) := hD
  refine va_putF (D := D.1) (ci := 0) (v := .ref q3) (ty := .array .char) (C := RX0) (T := TX0) (N := 11) hx hb htb inlX0 tyX0 tyX0_ok nmX0 hown hK hP hD hS 0 rfl rfl 9 (by decide) (htb (.fieldLink RX0 21 "SkyBulletin$Bulletin" "text" "[C") (jx_mem 185 (by decide +kernel) (by decide +kernel))) (fun _ h9 => h9) rfl hin rfl (by decide +kernel) rfl rfl (Nat.le_of_ble_eq_true rfl) dX0_init_26 (fun H locs hP hD hS => ?_)
  have hP : va_P D.1 vwCl ([(h0, .inr (0, [.int 0, .int 0, .int 0, .int 0, .int 0, .int 0, .ref q1, .int 0, .ref q2, .ref q3, .int 0])), (q1, .inl (D.2.2.1.2.1, 4, .inl (fun _ => 0))), (q2, .inl (D.2.2.1.2.2, 9, .inr (.inr (.inr (.inr (fun _ => none)))))), (q3, .inl (D.2.2.1.1, 700, .inl (fun _ => 0)))]) H := hP
  have hD : va_D A ([(h0, .inr (0, [.int 0, .int 0, .int 0, .int 0, .int 0, .int 0, .ref q1, .int 0, .ref q2, .ref q3, .int 0])), (q1, .inl (D.2.2.1.2.1, 4, .inl (fun _ => 0))), (q2, .inl (D.2.2.1.2.2, 9, .inr (.inr (.inr (.inr (fun _ => none)))))), (q3, .inl (D.2.2.1.1, 700, .inl (fun _ => 0)))]) := hD
  refine lv_iconst (v := 0) hx hb dX0_init_29 (by decide) ?_
  refine lv_istore_n (lv' := [(1, .int 0), (0, .ref h0)]) hx hb dX0_init_30 rfl hl (by decide) rfl (fun ls hl => ?_)
  refine W.widen (k := 3) (n := 713) (by omega) (by omega) ?_
  have e0 : bw_f (fun k => [h0, q1, q2, q3].getD k 0) 0 = fun _ => none := by funext i; unfold bw_f; rw [if_neg (Nat.not_lt_zero i)]
  refine nX0_loop hx hb hml hown htb hK hNw rfl hA (fun u H locs ls hu hP hD hS => ?_) 9 0 rfl (fun k => [h0, q1, q2, q3].getD k 0) H locs ls rfl (by unfold bw; rw [e0]; exact hP) (by unfold bw; rw [e0]; exact hD) hS hl
  exact W.vret hx hb hr (fun t ht hW => ⟨⟨u, rfl, hu, by rw [ht]; exact hP, va_K.moved hW.alike hK, hD⟩, hS.F ht⟩) hS.2.2 dX0_init_56
