/-! ===== the constructors of Reader and of SkyBulletin ===== -/
theorem P_perm {D : va_G} {cl : List vw_C} {w1 w2 : va_W} {H : Heap} (hp : List.Perm w1 w2) (h : va_P D cl w1 H) : va_P D cl w2 H := fun k q hk => by
  obtain ⟨j, hj⟩ := List.mem_iff_getElem?.mp (hp.mem_iff.mpr (List.mem_of_getElem? hk))
  exact h j q hj
theorem D_pw {A : Nat → Prop} {w : va_W} : va_D A w ↔ w.Pairwise (fun p q => p.1 ≠ q.1) ∧ ∀ q ∈ w, A q.1 := by
  constructor
  · intro h
    refine ⟨List.pairwise_iff_getElem.mpr (fun i j hi hj hij e => ?_), fun q hq => ?_⟩
    · have := h.1 i j _ _ (List.getElem?_eq_getElem hi) (List.getElem?_eq_getElem hj) e
      omega
    · obtain ⟨k, hk⟩ := List.mem_iff_getElem?.mp hq
      exact h.2 k q hk
  · rintro ⟨h1, h2⟩
    refine ⟨fun i j p q hi hj e => ?_, fun k q hk => h2 q (List.mem_of_getElem? hk)⟩
    obtain ⟨li, ei⟩ := List.getElem?_eq_some_iff.mp hi
    obtain ⟨lj, ej⟩ := List.getElem?_eq_some_iff.mp hj
    rcases Nat.lt_trichotomy i j with z | z | z
    · have := List.pairwise_iff_getElem.mp h1 i j li lj z
      rw [ei, ej] at this
      exact absurd e this
    · exact z
    · have := List.pairwise_iff_getElem.mp h1 j i lj li z
      rw [ei, ej] at this
      exact absurd e.symm this
theorem D_perm {A : Nat → Prop} {w1 w2 : va_W} (hp : List.Perm w1 w2) (h : va_D A w1) : va_D A w2 := by
  obtain ⟨h1, h2⟩ := D_pw.mp h
  exact D_pw.mpr ⟨hp.pairwise h1 (fun {_ _} z => fun e => z e.symm), fun q hq => h2 q (hp.mem_iff.mpr hq)⟩
theorem wp_turn {x y : va_W} {r s t : Nat × va_E} : List.Perm (x ++ ([r, s, t] ++ y)) ((x ++ y) ++ [r, t, s]) := by
  rw [List.append_assoc]
  exact List.Perm.append_left x (List.perm_append_comm.trans (List.Perm.append_left y (List.Perm.cons r (List.Perm.swap t s []))))
set_option maxHeartbeats 400000 in
set_option maxRecDepth 100000 in
theorem nX2_init (l : Launch) (D : jx_Dt) (h0 sz : Nat) : Met l yX2_init (.code yX2_init cX2_init 1 none :: jx_tb) ({ frames := 3, cells := 33, slots := 911, locals := 53 }) (va_Pc [.ref h0] (fun U => U.heap.size = sz ∧ va_P D.1 vwCl ([(h0, .inr (2, [.null, .int 0, .int 0, .int 0, .null, .int 0, .int 0, .null]))]) U.heap ∧ va_K D.1 vwCl (jx_tys D) U ∧ va_D (fun _ => True) ([(h0, .inr (2, [.null, .int 0, .int 0, .int 0, .null, .int 0, .int 0, .null]))]) ∧ va_AO RX1 U ∧ va_Nw (.methodLinkNest RX0 25 yX1_init "SkyBulletin") U)) (va_Qv (fun _ : Nat × Nat × (Nat → Nat) => True) (fun z t => va_P D.1 vwCl (([(h0, .inr (2, [.ref z.1, .int 0, .int 0, .int 0, .ref z.2.1, .int 0, .int (-1), .ref (z.2.2 0)])), (z.1, .inl (D.2.2.1.1, 0, .inl (fun _ => 0))), (z.2.1, .inl (D.2.2.1.1, 16, .inl (fun _ => 0)))] ++ bw D z.2.2 9)) t.heap ∧ va_K D.1 vwCl (jx_tys D) t ∧ va_D (va_A ([(h0, .inr (2, [.null, .int 0, .int 0, .int 0, .null, .int 0, .int 0, .null]))]) sz) (([(h0, .inr (2, [.ref z.1, .int 0, .int 0, .int 0, .ref z.2.1, .int 0, .int (-1), .ref (z.2.2 0)])), (z.1, .inl (D.2.2.1.1, 0, .inl (fun _ => 0))), (z.2.1, .inl (D.2.2.1.1, 16, .inl (fun _ => 0)))] ++ bw D z.2.2 9))) (va_A ([(h0, .inr (2, [.null, .int 0, .int 0, .int 0, .null, .int 0, .int 0, .null]))]) sz)) 33 911 (va_A ([(h0, .inr (2, [.null, .int 0, .int 0, .int 0, .null, .int 0, .int 0, .null]))]) sz) := by
  refine Met.ofW (cc := cX2_init) (maxL := 1) (ret := none) (by decide) rfl ?_
  intro p e s m args below meth c s₁ B hml hv
  obtain ⟨rfl, hsz, hP, hK, hD0, hAO, hNw⟩ := hv
  have hx := B.exec
  have hb := B.bytes
  have hr := B.returns
  have hts := atoms_spec (ws := (.code yX2_init cX2_init 1 none :: jx_tb)) B.pre
  have htb : ∀ w ∈ jx_tb, w.before _ s = true := fun w h => hts w (List.mem_cons_of_mem _ h)
  have hown : s.vm.findClass RX2 = some m.cls := findClass_of_methodNamed B.named
  have hlocks := B.notSynchronized
  have hin : meth.name = "<init>" := (name_of_methodNamed B.named B.method).1
  subst hsz
  have hD := hD0.self (sz := s.heap.size)
  generalize hAe : va_A ([(h0, .inr (2, [.null, .int 0, .int 0, .int 0, .null, .int 0, .int 0, .null]))]) s.heap.size = A at hD ⊢
  have hA : ∀ q : Nat, s.heap.size ≤ q → A q := fun q h => by rw [← hAe]; exact Or.inr h
  have hS : va_S A s.heap s.heap [] := va_S.rf
  have hP : va_P D.1 vwCl ([(h0, .inr (2, [.null, .int 0, .int 0, .int 0, .null, .int 0, .int 0, .null]))]) s.heap := hP
  have hl := lv_entry ([.ref h0]) (n := 1) (Nat.le_of_ble_eq_true rfl)
  rw [lg_entry_eq]
  generalize (lg_sl ([.ref h0]) ++ List.replicate (1 - (lg_sl ([.ref h0])).length) Slot.unset).toArray = ls at hl ⊢
  have hl : lv_has ls 1 [(0, .ref h0)] := hl
  refine lv_aload_n hx hb dX2_init_0 rfl (lv_at hl 0 rfl) ?_
  refine W.objInit hx hb hown (htb (.methodLink RX2 3 Lib.objectInit) (jx_mem 217 (by decide +kernel) (by decide +kernel))) (htb (.instanceMethod Lib.objectInit) (jx_mem 81 (by decide +kernel) (by decide +kernel))) (htb (.code Lib.objectInit ⟨#[0xb1]⟩ 1 none) (jx_mem 82 (by decide +kernel) (by decide +kernel))) rfl (by rw [hml]; exact hl.1) rfl dX2_init_1 (Nat.le_of_ble_eq_true rfl) (Nat.le_of_ble_eq_true rfl) ?_
  refine W.eq (g2 := F0 m 4 ls []) rfl ?_
  refine lv_aload_n hx hb dX2_init_4 rfl (lv_at hl 0 rfl) ?_
  refine lv_iconst (v := 0) hx hb dX2_init_5 (by decide) ?_
  refine va_newa (atype := .char) (D := D.1) (cl := vwCl) (tys := jx_tys D) (a0 := (0, .inl (fun _ => 0))) (N' := 0) hx hb (htb (.arrayClass .char) (jx_mem 158 (by decide +kernel) (by decide +kernel))) (ty := .char) rfl hK hP hD hS hA (fun cA => rfl) (by decide) (by decide) (by decide) (by show _ ≤ 33; omega) (by show _ ≤ 911; omega) dX2_init_6 (fun q1 cA H hK2 hP hD hS => ?_)
  rw [jx_cc hK hK2] at hP hD
  clear hK2
  have hP : va_P D.1 vwCl ([(h0, .inr (2, [.null, .int 0, .int 0, .int 0, .null, .int 0, .int 0, .null])), (q1, .inl (D.2.2.1.1, 0, .inl (fun _ => 0)))]) H := hP
  have hD : va_D A ([(h0, .inr (2, [.null, .int 0, .int 0, .int 0, .null, .int 0, .int 0, .null])), (q1, .inl (D.2.2.1.1, 0, .inl (fun _ => 0)))]) := hD
  refine va_put (D := D.1) (ci := 2) (v := .ref q1) (ty := .array .char) (C := RX2) (T := TX2) (N := 8) hx hb htb inlX2 tyX2 tyX2_ok nmX2 hown hK hP hD hS 0 rfl rfl 0 (by decide) (htb (.fieldLink RX2 9 "SkyBulletin$Reader" "source" "[C") (jx_mem 220 (by decide +kernel) (by decide +kernel))) (fun _ h9 => h9) rfl (by decide +kernel) rfl rfl (Nat.le_of_ble_eq_true rfl) dX2_init_8 (fun H locs hP hD hS => ?_)
  have hP : va_P D.1 vwCl ([(h0, .inr (2, [.ref q1, .int 0, .int 0, .int 0, .null, .int 0, .int 0, .null])), (q1, .inl (D.2.2.1.1, 0, .inl (fun _ => 0)))]) H := hP
  have hD : va_D A ([(h0, .inr (2, [.ref q1, .int 0, .int 0, .int 0, .null, .int 0, .int 0, .null])), (q1, .inl (D.2.2.1.1, 0, .inl (fun _ => 0)))]) := hD
  refine lv_aload_n hx hb dX2_init_11 rfl (lv_at hl 0 rfl) ?_
  refine lv_iconst (v := 0) hx hb dX2_init_12 (by decide) ?_
  refine va_put (D := D.1) (ci := 2) (v := .int 0) (ty := .int) (C := RX2) (T := TX2) (N := 8) hx hb htb inlX2 tyX2 tyX2_ok nmX2 hown hK hP hD hS 0 rfl rfl 1 (by decide) (htb (.fieldLink RX2 15 "SkyBulletin$Reader" "length" "I") (jx_mem 221 (by decide +kernel) (by decide +kernel))) (fun _ h9 => h9) rfl (by decide +kernel) rfl rfl (Nat.le_of_ble_eq_true rfl) dX2_init_13 (fun H locs hP hD hS => ?_)
  have hP : va_P D.1 vwCl ([(h0, .inr (2, [.ref q1, .int 0, .int 0, .int 0, .null, .int 0, .int 0, .null])), (q1, .inl (D.2.2.1.1, 0, .inl (fun _ => 0)))]) H := hP
  have hD : va_D A ([(h0, .inr (2, [.ref q1, .int 0, .int 0, .int 0, .null, .int 0, .int 0, .null])), (q1, .inl (D.2.2.1.1, 0, .inl (fun _ => 0)))]) := hD
  refine lv_aload_n hx hb dX2_init_16 rfl (lv_at hl 0 rfl) ?_
  refine lv_iconst (v := 0) hx hb dX2_init_17 (by decide) ?_
  refine va_put (D := D.1) (ci := 2) (v := .int 0) (ty := .int) (C := RX2) (T := TX2) (N := 8) hx hb htb inlX2 tyX2 tyX2_ok nmX2 hown hK hP hD hS 0 rfl rfl 2 (by decide) (htb (.fieldLink RX2 19 "SkyBulletin$Reader" "tokenBegin" "I") (jx_mem 222 (by decide +kernel) (by decide +kernel))) (fun _ h9 => h9) rfl (by decide +kernel) rfl rfl (Nat.le_of_ble_eq_true rfl) dX2_init_18 (fun H locs hP hD hS => ?_)
  have hP : va_P D.1 vwCl ([(h0, .inr (2, [.ref q1, .int 0, .int 0, .int 0, .null, .int 0, .int 0, .null])), (q1, .inl (D.2.2.1.1, 0, .inl (fun _ => 0)))]) H := hP
  have hD : va_D A ([(h0, .inr (2, [.ref q1, .int 0, .int 0, .int 0, .null, .int 0, .int 0, .null])), (q1, .inl (D.2.2.1.1, 0, .inl (fun _ => 0)))]) := hD
  refine lv_aload_n hx hb dX2_init_21 rfl (lv_at hl 0 rfl) ?_
  refine lv_iconst (v := 0) hx hb dX2_init_22 (by decide) ?_
  refine va_put (D := D.1) (ci := 2) (v := .int 0) (ty := .int) (C := RX2) (T := TX2) (N := 8) hx hb htb inlX2 tyX2 tyX2_ok nmX2 hown hK hP hD hS 0 rfl rfl 3 (by decide) (htb (.fieldLink RX2 22 "SkyBulletin$Reader" "width" "I") (jx_mem 223 (by decide +kernel) (by decide +kernel))) (fun _ h9 => h9) rfl (by decide +kernel) rfl rfl (Nat.le_of_ble_eq_true rfl) dX2_init_23 (fun H locs hP hD hS => ?_)
  have hP : va_P D.1 vwCl ([(h0, .inr (2, [.ref q1, .int 0, .int 0, .int 0, .null, .int 0, .int 0, .null])), (q1, .inl (D.2.2.1.1, 0, .inl (fun _ => 0)))]) H := hP
  have hD : va_D A ([(h0, .inr (2, [.ref q1, .int 0, .int 0, .int 0, .null, .int 0, .int 0, .null])), (q1, .inl (D.2.2.1.1, 0, .inl (fun _ => 0)))]) := hD
  refine lv_aload_n hx hb dX2_init_26 rfl (lv_at hl 0 rfl) ?_
  refine lv_bipush (v := 16) hx hb dX2_init_27 (by decide) ?_
  refine va_newa (atype := .char) (D := D.1) (cl := vwCl) (tys := jx_tys D) (a0 := (16, .inl (fun _ => 0))) (N' := 16) hx hb (htb (.arrayClass .char) (jx_mem 158 (by decide +kernel) (by decide +kernel))) (ty := .char) rfl hK hP hD hS hA (fun cA => rfl) (by decide) (by decide) (by decide) (by show _ ≤ 33; omega) (by show _ ≤ 911; omega) dX2_init_29 (fun q2 cA H hK2 hP hD hS => ?_)
  rw [jx_cc hK hK2] at hP hD
  clear hK2
  have hP : va_P D.1 vwCl ([(h0, .inr (2, [.ref q1, .int 0, .int 0, .int 0, .null, .int 0, .int 0, .null])), (q1, .inl (D.2.2.1.1, 0, .inl (fun _ => 0))), (q2, .inl (D.2.2.1.1, 16, .inl (fun _ => 0)))]) H := hP
  have hD : va_D A ([(h0, .inr (2, [.ref q1, .int 0, .int 0, .int 0, .null, .int 0, .int 0, .null])), (q1, .inl (D.2.2.1.1, 0, .inl (fun _ => 0))), (q2, .inl (D.2.2.1.1, 16, .inl (fun _ => 0)))]) := hD
  refine va_putF (D := D.1) (ci := 2) (v := .ref q2) (ty := .array .char) (C := RX2) (T := TX2) (N := 8) hx hb htb inlX2 tyX2 tyX2_ok nmX2 hown hK hP hD hS 0 rfl rfl 4 (by decide) (htb (.fieldLink RX2 25 "SkyBulletin$Reader" "token" "[C") (jx_mem 224 (by decide +kernel) (by decide +kernel))) (fun _ h9 => h9) rfl hin rfl (by decide +kernel) rfl rfl (Nat.le_of_ble_eq_true rfl) dX2_init_31 (fun H locs hP hD hS => ?_)
  have hP : va_P D.1 vwCl ([(h0, .inr (2, [.ref q1, .int 0, .int 0, .int 0, .ref q2, .int 0, .int 0, .null])), (q1, .inl (D.2.2.1.1, 0, .inl (fun _ => 0))), (q2, .inl (D.2.2.1.1, 16, .inl (fun _ => 0)))]) H := hP
  have hD : va_D A ([(h0, .inr (2, [.ref q1, .int 0, .int 0, .int 0, .ref q2, .int 0, .int 0, .null])), (q1, .inl (D.2.2.1.1, 0, .inl (fun _ => 0))), (q2, .inl (D.2.2.1.1, 16, .inl (fun _ => 0)))]) := hD
  refine lv_aload_n hx hb dX2_init_34 rfl (lv_at hl 0 rfl) ?_
  refine lv_iconst (v := 0) hx hb dX2_init_35 (by decide) ?_
  refine va_put (D := D.1) (ci := 2) (v := .int 0) (ty := .int) (C := RX2) (T := TX2) (N := 8) hx hb htb inlX2 tyX2 tyX2_ok nmX2 hown hK hP hD hS 0 rfl rfl 5 (by decide) (htb (.fieldLink RX2 28 "SkyBulletin$Reader" "days" "I") (jx_mem 225 (by decide +kernel) (by decide +kernel))) (fun _ h9 => h9) rfl (by decide +kernel) rfl rfl (Nat.le_of_ble_eq_true rfl) dX2_init_36 (fun H locs hP hD hS => ?_)
  have hP : va_P D.1 vwCl ([(h0, .inr (2, [.ref q1, .int 0, .int 0, .int 0, .ref q2, .int 0, .int 0, .null])), (q1, .inl (D.2.2.1.1, 0, .inl (fun _ => 0))), (q2, .inl (D.2.2.1.1, 16, .inl (fun _ => 0)))]) H := hP
  have hD : va_D A ([(h0, .inr (2, [.ref q1, .int 0, .int 0, .int 0, .ref q2, .int 0, .int 0, .null])), (q1, .inl (D.2.2.1.1, 0, .inl (fun _ => 0))), (q2, .inl (D.2.2.1.1, 16, .inl (fun _ => 0)))]) := hD
  refine lv_aload_n hx hb dX2_init_39 rfl (lv_at hl 0 rfl) ?_
  refine lv_iconst (v := -1) hx hb dX2_init_40 (by decide) ?_
  refine va_put (D := D.1) (ci := 2) (v := .int (-1)) (ty := .int) (C := RX2) (T := TX2) (N := 8) hx hb htb inlX2 tyX2 tyX2_ok nmX2 hown hK hP hD hS 0 rfl rfl 6 (by decide) (htb (.fieldLink RX2 31 "SkyBulletin$Reader" "latestFrom" "I") (jx_mem 226 (by decide +kernel) (by decide +kernel))) (fun _ h9 => h9) rfl (by decide +kernel) rfl rfl (Nat.le_of_ble_eq_true rfl) dX2_init_41 (fun H locs hP hD hS => ?_)
  have hP : va_P D.1 vwCl ([(h0, .inr (2, [.ref q1, .int 0, .int 0, .int 0, .ref q2, .int 0, .int (-1), .null])), (q1, .inl (D.2.2.1.1, 0, .inl (fun _ => 0))), (q2, .inl (D.2.2.1.1, 16, .inl (fun _ => 0)))]) H := hP
  have hD : va_D A ([(h0, .inr (2, [.ref q1, .int 0, .int 0, .int 0, .ref q2, .int 0, .int (-1), .null])), (q1, .inl (D.2.2.1.1, 0, .inl (fun _ => 0))), (q2, .inl (D.2.2.1.1, 16, .inl (fun _ => 0)))]) := hD
  refine lv_aload_n hx hb dX2_init_44 rfl (lv_at hl 0 rfl) ?_
  refine va_new (D := D.1) (ci := 0) (fs := [.int 0, .int 0, .int 0, .int 0, .int 0, .int 0, .null, .int 0, .null, .null, .int 0]) (C := RX0) (T := TX0) (N := 11) hx hb htb inlX0 tyX0 tyX0_ok hown (htb (.classLink RX2 34 RX0) (jx_mem 218 (by decide +kernel) (by decide +kernel))) (htb (.instantiable RX0 11) (jx_mem 84 (by decide +kernel) (by decide +kernel))) (htb (.initialized RX0) (jx_mem 66 (by decide +kernel) (by decide +kernel))) hK hP hD hS hA rfl (fun j hj => by match j, hj with | 0, _ => rfl | 1, _ => rfl | 2, _ => rfl | 3, _ => rfl | 4, _ => rfl | 5, _ => rfl | 6, _ => rfl | 7, _ => rfl | 8, _ => rfl | 9, _ => rfl | 10, _ => rfl) (by show _ ≤ 33; omega) (by show _ ≤ 911; omega) dX2_init_45 (fun a1 H hP hD hS => ?_)
  refine lv_dup hx hb dX2_init_48 rfl ?_
  have hFc := F_right hD hS hA
  refine va_callv (va_runI (As := []) (rest := [.ref a1, .ref h0]) ⟨hx, hb, hml, hown, htb⟩ (nX0_init l D a1 H.size) (cwI 0 htb (jx_goodIn (ws := []) (by simp) (jx_mem 87 (by decide +kernel) (by decide +kernel))) rfl rfl rfl (htb (.initialized RX0) (jx_mem 66 (by decide +kernel) (by decide +kernel))) (htb (.methodLink RX2 36 yX0_init) (jx_mem 219 (by decide +kernel) (by decide +kernel))) (htb (.instanceMethod yX0_init) (jx_mem 86 (by decide +kernel) (by decide +kernel))) rfl (by decide +kernel) ⟨Nat.le_of_ble_eq_true rfl, Nat.le_of_ble_eq_true rfl⟩) ⟨fun a U g mk q => by obtain ⟨q0, q1, qP, qK, qD, qa, qn⟩ := q; exact ⟨q0, q1, qP, va_K.moved (u := U) (U := U.calling g mk a) (Vm.Alike.refl U.vm) qK, qD, va_AO.moved (u := U) (U := U.calling g mk a) (Vm.Alike.refl U.vm) qa, va_Nw.same (u := U) (U := U.calling g mk a) rfl rfl qn⟩, fun U hU hW => ⟨rfl, by rw [hU], by rw [hU]; exact P_right hP, va_K.moved hW.alike hK, (D_right hD).weaken (fun _ _ _ _ => trivial), va_AO.moved hW.alike hAO, va_Nw.warmM hW hNw⟩⟩ rfl rfl hl.1 rfl (lv_room (Nat.le_of_ble_eq_true rfl)) dX2_init_49 ⟨by show _ ≤ 33; omega, by show _ ≤ 911; omega⟩) hS (fun q _ h => hFc q h) hFc (fun z t H1 locs ht hvm hw hB hz1 hk1 hS => ?_)
  obtain ⟨hP1, hK1, hD1⟩ := hB
  rw [ht] at hP1
  obtain ⟨hP, hD⟩ := J_right hP hD hk1 hFc hP1 hD1
  clear hP1 hD1 hK1 hk1 hFc
  generalize H1 = H at hP hS ⊢
  obtain ⟨u1, hu1⟩ : ∃ x : Nat → Nat, x = z := ⟨z, rfl⟩
  rw [← hu1] at hP hD hw
  rw [← hw]
  refine va_put (D := D.1) (ci := 2) (v := .ref (u1 0)) (ty := .object "SkyBulletin$Bulletin") (C := RX2) (T := TX2) (N := 8) hx hb htb inlX2 tyX2 tyX2_ok nmX2 hown hK hP hD hS 0 rfl rfl 7 (by decide) (htb (.fieldLink RX2 37 "SkyBulletin$Reader" "draft" "LSkyBulletin$Bulletin;") (jx_mem 227 (by decide +kernel) (by decide +kernel))) (fun _ h9 => h9) rfl (by decide +kernel) rfl rfl (Nat.le_of_ble_eq_true rfl) dX2_init_52 (fun H locs hP hD hS => ?_)
  have hP : va_P D.1 vwCl (([(h0, .inr (2, [.ref q1, .int 0, .int 0, .int 0, .ref q2, .int 0, .int (-1), .ref (u1 0)])), (q1, .inl (D.2.2.1.1, 0, .inl (fun _ => 0))), (q2, .inl (D.2.2.1.1, 16, .inl (fun _ => 0)))] ++ bw D u1 9)) H := hP
  have hD : va_D A (([(h0, .inr (2, [.ref q1, .int 0, .int 0, .int 0, .ref q2, .int 0, .int (-1), .ref (u1 0)])), (q1, .inl (D.2.2.1.1, 0, .inl (fun _ => 0))), (q2, .inl (D.2.2.1.1, 16, .inl (fun _ => 0)))] ++ bw D u1 9)) := hD
  refine W.widen (k := 33) (n := 911) (by omega) (by omega) ?_
  exact W.vret hx hb hr (fun t ht hW => ⟨⟨(q1, q2, u1), rfl, trivial, by rw [ht]; exact hP, va_K.moved hW.alike hK, hD⟩, hS.F ht⟩) hS.2.2 dX2_init_55
set_option maxHeartbeats 400000 in
set_option maxRecDepth 100000 in
theorem nX3_init (l : Launch) (D : jx_Dt) (h0 sz : Nat) : Met l yX3_init (.code yX3_init cX3_init 1 none :: jx_tb) ({ frames := 4, cells := 67, slots := 3214, locals := 73 }) (va_Pc [.ref h0] (fun U => U.heap.size = sz ∧ va_P D.1 vwCl ([(h0, .inr (3, [.null, .int 0, .null, .int 0, .null, .null]))]) U.heap ∧ va_K D.1 vwCl (jx_tys D) U ∧ va_D (fun _ => True) ([(h0, .inr (3, [.null, .int 0, .null, .int 0, .null, .null]))]) ∧ va_AO RX1 U ∧ va_Nw (.methodLinkNest RX0 25 yX1_init "SkyBulletin") U ∧ va_Nw (.methodLinkNest RX3 32 yX2_init "SkyBulletin") U)) (va_Qv (fun _ : Nat × Nat × (Nat → Nat) × (Nat → Nat) × Nat × Nat × Nat => True) (fun z t => va_P D.1 vwCl (((([(h0, .inr (3, [.ref z.1, .int 0, .ref z.2.1, .int 0, .ref (z.2.2.1 0), .ref (z.2.2.2.2.1)])), (z.1, .inl (D.2.2.1.1, 700, .inl (fun _ => 0))), (z.2.1, .inl (D.2.2.1.1, 700, .inl (fun _ => 0)))] ++ bw D z.2.2.1 9) ++ bw D z.2.2.2.1 9) ++ [(z.2.2.2.2.1, .inr (2, [.ref z.2.2.2.2.2.2, .int 0, .int 0, .int 0, .ref z.2.2.2.2.2.1, .int 0, .int (-1), .ref (z.2.2.2.1 0)])), (z.2.2.2.2.2.1, .inl (D.2.2.1.1, 16, .inl (fun _ => 0))), (z.2.2.2.2.2.2, .inl (D.2.2.1.1, 0, .inl (fun _ => 0)))])) t.heap ∧ va_K D.1 vwCl (jx_tys D) t ∧ va_D (va_A ([(h0, .inr (3, [.null, .int 0, .null, .int 0, .null, .null]))]) sz) (((([(h0, .inr (3, [.ref z.1, .int 0, .ref z.2.1, .int 0, .ref (z.2.2.1 0), .ref (z.2.2.2.2.1)])), (z.1, .inl (D.2.2.1.1, 700, .inl (fun _ => 0))), (z.2.1, .inl (D.2.2.1.1, 700, .inl (fun _ => 0)))] ++ bw D z.2.2.1 9) ++ bw D z.2.2.2.1 9) ++ [(z.2.2.2.2.1, .inr (2, [.ref z.2.2.2.2.2.2, .int 0, .int 0, .int 0, .ref z.2.2.2.2.2.1, .int 0, .int (-1), .ref (z.2.2.2.1 0)])), (z.2.2.2.2.2.1, .inl (D.2.2.1.1, 16, .inl (fun _ => 0))), (z.2.2.2.2.2.2, .inl (D.2.2.1.1, 0, .inl (fun _ => 0)))]))) (va_A ([(h0, .inr (3, [.null, .int 0, .null, .int 0, .null, .null]))]) sz)) 67 3214 (va_A ([(h0, .inr (3, [.null, .int 0, .null, .int 0, .null, .null]))]) sz) := by
  refine Met.ofW (cc := cX3_init) (maxL := 1) (ret := none) (by decide) rfl ?_
  intro p e s m args below meth c s₁ B hml hv
  obtain ⟨rfl, hsz, hP, hK, hD0, hAO, hNw, hNr⟩ := hv
  have hx := B.exec
  have hb := B.bytes
  have hr := B.returns
  have hts := atoms_spec (ws := (.code yX3_init cX3_init 1 none :: jx_tb)) B.pre
  have htb : ∀ w ∈ jx_tb, w.before _ s = true := fun w h => hts w (List.mem_cons_of_mem _ h)
  have hown : s.vm.findClass RX3 = some m.cls := findClass_of_methodNamed B.named
  have hlocks := B.notSynchronized
  have hin : meth.name = "<init>" := (name_of_methodNamed B.named B.method).1
  subst hsz
  have hD := hD0.self (sz := s.heap.size)
  generalize hAe : va_A ([(h0, .inr (3, [.null, .int 0, .null, .int 0, .null, .null]))]) s.heap.size = A at hD ⊢
  have hA : ∀ q : Nat, s.heap.size ≤ q → A q := fun q h => by rw [← hAe]; exact Or.inr h
  have hS : va_S A s.heap s.heap [] := va_S.rf
  have hP : va_P D.1 vwCl ([(h0, .inr (3, [.null, .int 0, .null, .int 0, .null, .null]))]) s.heap := hP
  have hl := lv_entry ([.ref h0]) (n := 1) (Nat.le_of_ble_eq_true rfl)
  rw [lg_entry_eq]
  generalize (lg_sl ([.ref h0]) ++ List.replicate (1 - (lg_sl ([.ref h0])).length) Slot.unset).toArray = ls at hl ⊢
  have hl : lv_has ls 1 [(0, .ref h0)] := hl
  refine lv_aload_n hx hb dX3_init_0 rfl (lv_at hl 0 rfl) ?_
  refine W.objInit hx hb hown (htb (.methodLink RX3 3 Lib.objectInit) (jx_mem 80 (by decide +kernel) (by decide +kernel))) (htb (.instanceMethod Lib.objectInit) (jx_mem 81 (by decide +kernel) (by decide +kernel))) (htb (.code Lib.objectInit ⟨#[0xb1]⟩ 1 none) (jx_mem 82 (by decide +kernel) (by decide +kernel))) rfl (by rw [hml]; exact hl.1) rfl dX3_init_1 (Nat.le_of_ble_eq_true rfl) (Nat.le_of_ble_eq_true rfl) ?_
  refine W.eq (g2 := F0 m 4 ls []) rfl ?_
  refine lv_aload_n hx hb dX3_init_4 rfl (lv_at hl 0 rfl) ?_
  refine lv_sipush (v := 700) hx hb dX3_init_5 (by decide) ?_
  refine va_newa (atype := .char) (D := D.1) (cl := vwCl) (tys := jx_tys D) (a0 := (700, .inl (fun _ => 0))) (N' := 700) hx hb (htb (.arrayClass .char) (jx_mem 158 (by decide +kernel) (by decide +kernel))) (ty := .char) rfl hK hP hD hS hA (fun cA => rfl) (by decide) (by decide) (by decide) (by show _ ≤ 67; omega) (by show _ ≤ 3214; omega) dX3_init_8 (fun q1 cA H hK2 hP hD hS => ?_)
  rw [jx_cc hK hK2] at hP hD
  clear hK2
  have hP : va_P D.1 vwCl ([(h0, .inr (3, [.null, .int 0, .null, .int 0, .null, .null])), (q1, .inl (D.2.2.1.1, 700, .inl (fun _ => 0)))]) H := hP
  have hD : va_D A ([(h0, .inr (3, [.null, .int 0, .null, .int 0, .null, .null])), (q1, .inl (D.2.2.1.1, 700, .inl (fun _ => 0)))]) := hD
  refine va_putF (D := D.1) (ci := 3) (v := .ref q1) (ty := .array .char) (C := RX3) (T := TX3) (N := 6) hx hb htb inlX3 tyX3 tyX3_ok nmX3 hown hK hP hD hS 0 rfl rfl 0 (by decide) (htb (.fieldLink RX3 9 "SkyBulletin" "typed" "[C") (jx_mem 246 (by decide +kernel) (by decide +kernel))) (fun _ h9 => h9) rfl hin rfl (by decide +kernel) rfl rfl (Nat.le_of_ble_eq_true rfl) dX3_init_10 (fun H locs hP hD hS => ?_)
  have hP : va_P D.1 vwCl ([(h0, .inr (3, [.ref q1, .int 0, .null, .int 0, .null, .null])), (q1, .inl (D.2.2.1.1, 700, .inl (fun _ => 0)))]) H := hP
  have hD : va_D A ([(h0, .inr (3, [.ref q1, .int 0, .null, .int 0, .null, .null])), (q1, .inl (D.2.2.1.1, 700, .inl (fun _ => 0)))]) := hD
  refine lv_aload_n hx hb dX3_init_13 rfl (lv_at hl 0 rfl) ?_
  refine lv_iconst (v := 0) hx hb dX3_init_14 (by decide) ?_
  refine va_put (D := D.1) (ci := 3) (v := .int 0) (ty := .int) (C := RX3) (T := TX3) (N := 6) hx hb htb inlX3 tyX3 tyX3_ok nmX3 hown hK hP hD hS 0 rfl rfl 1 (by decide) (htb (.fieldLink RX3 13 "SkyBulletin" "typedLength" "I") (jx_mem 247 (by decide +kernel) (by decide +kernel))) (fun _ h9 => h9) rfl (by decide +kernel) rfl rfl (Nat.le_of_ble_eq_true rfl) dX3_init_15 (fun H locs hP hD hS => ?_)
  have hP : va_P D.1 vwCl ([(h0, .inr (3, [.ref q1, .int 0, .null, .int 0, .null, .null])), (q1, .inl (D.2.2.1.1, 700, .inl (fun _ => 0)))]) H := hP
  have hD : va_D A ([(h0, .inr (3, [.ref q1, .int 0, .null, .int 0, .null, .null])), (q1, .inl (D.2.2.1.1, 700, .inl (fun _ => 0)))]) := hD
  refine lv_aload_n hx hb dX3_init_18 rfl (lv_at hl 0 rfl) ?_
  refine lv_sipush (v := 700) hx hb dX3_init_19 (by decide) ?_
  refine va_newa (atype := .char) (D := D.1) (cl := vwCl) (tys := jx_tys D) (a0 := (700, .inl (fun _ => 0))) (N' := 700) hx hb (htb (.arrayClass .char) (jx_mem 158 (by decide +kernel) (by decide +kernel))) (ty := .char) rfl hK hP hD hS hA (fun cA => rfl) (by decide) (by decide) (by decide) (by show _ ≤ 67; omega) (by show _ ≤ 3214; omega) dX3_init_22 (fun q2 cA H hK2 hP hD hS => ?_)
  rw [jx_cc hK hK2] at hP hD
  clear hK2
  have hP : va_P D.1 vwCl ([(h0, .inr (3, [.ref q1, .int 0, .null, .int 0, .null, .null])), (q1, .inl (D.2.2.1.1, 700, .inl (fun _ => 0))), (q2, .inl (D.2.2.1.1, 700, .inl (fun _ => 0)))]) H := hP
  have hD : va_D A ([(h0, .inr (3, [.ref q1, .int 0, .null, .int 0, .null, .null])), (q1, .inl (D.2.2.1.1, 700, .inl (fun _ => 0))), (q2, .inl (D.2.2.1.1, 700, .inl (fun _ => 0)))]) := hD
  refine va_putF (D := D.1) (ci := 3) (v := .ref q2) (ty := .array .char) (C := RX3) (T := TX3) (N := 6) hx hb htb inlX3 tyX3 tyX3_ok nmX3 hown hK hP hD hS 0 rfl rfl 2 (by decide) (htb (.fieldLink RX3 17 "SkyBulletin" "printed" "[C") (jx_mem 248 (by decide +kernel) (by decide +kernel))) (fun _ h9 => h9) rfl hin rfl (by decide +kernel) rfl rfl (Nat.le_of_ble_eq_true rfl) dX3_init_24 (fun H locs hP hD hS => ?_)
  have hP : va_P D.1 vwCl ([(h0, .inr (3, [.ref q1, .int 0, .ref q2, .int 0, .null, .null])), (q1, .inl (D.2.2.1.1, 700, .inl (fun _ => 0))), (q2, .inl (D.2.2.1.1, 700, .inl (fun _ => 0)))]) H := hP
  have hD : va_D A ([(h0, .inr (3, [.ref q1, .int 0, .ref q2, .int 0, .null, .null])), (q1, .inl (D.2.2.1.1, 700, .inl (fun _ => 0))), (q2, .inl (D.2.2.1.1, 700, .inl (fun _ => 0)))]) := hD
  refine lv_aload_n hx hb dX3_init_27 rfl (lv_at hl 0 rfl) ?_
  refine lv_iconst (v := 0) hx hb dX3_init_28 (by decide) ?_
  refine va_put (D := D.1) (ci := 3) (v := .int 0) (ty := .int) (C := RX3) (T := TX3) (N := 6) hx hb htb inlX3 tyX3 tyX3_ok nmX3 hown hK hP hD hS 0 rfl rfl 3 (by decide) (htb (.fieldLink RX3 20 "SkyBulletin" "printedLength" "I") (jx_mem 249 (by decide +kernel) (by decide +kernel))) (fun _ h9 => h9) rfl (by decide +kernel) rfl rfl (Nat.le_of_ble_eq_true rfl) dX3_init_29 (fun H locs hP hD hS => ?_)
  have hP : va_P D.1 vwCl ([(h0, .inr (3, [.ref q1, .int 0, .ref q2, .int 0, .null, .null])), (q1, .inl (D.2.2.1.1, 700, .inl (fun _ => 0))), (q2, .inl (D.2.2.1.1, 700, .inl (fun _ => 0)))]) H := hP
  have hD : va_D A ([(h0, .inr (3, [.ref q1, .int 0, .ref q2, .int 0, .null, .null])), (q1, .inl (D.2.2.1.1, 700, .inl (fun _ => 0))), (q2, .inl (D.2.2.1.1, 700, .inl (fun _ => 0)))]) := hD
  refine lv_aload_n hx hb dX3_init_32 rfl (lv_at hl 0 rfl) ?_
  refine va_new (D := D.1) (ci := 0) (fs := [.int 0, .int 0, .int 0, .int 0, .int 0, .int 0, .null, .int 0, .null, .null, .int 0]) (C := RX0) (T := TX0) (N := 11) hx hb htb inlX0 tyX0 tyX0_ok hown (htb (.classLink RX3 23 RX0) (jx_mem 83 (by decide +kernel) (by decide +kernel))) (htb (.instantiable RX0 11) (jx_mem 84 (by decide +kernel) (by decide +kernel))) (htb (.initialized RX0) (jx_mem 66 (by decide +kernel) (by decide +kernel))) hK hP hD hS hA rfl (fun j hj => by match j, hj with | 0, _ => rfl | 1, _ => rfl | 2, _ => rfl | 3, _ => rfl | 4, _ => rfl | 5, _ => rfl | 6, _ => rfl | 7, _ => rfl | 8, _ => rfl | 9, _ => rfl | 10, _ => rfl) (by show _ ≤ 67; omega) (by show _ ≤ 3214; omega) dX3_init_33 (fun a1 H hP hD hS => ?_)
  refine lv_dup hx hb dX3_init_36 rfl ?_
  have hFc := F_right hD hS hA
  refine va_callv (va_runI (As := []) (rest := [.ref a1, .ref h0]) ⟨hx, hb, hml, hown, htb⟩ (nX0_init l D a1 H.size) (cwI 0 htb (jx_goodIn (ws := []) (by simp) (jx_mem 87 (by decide +kernel) (by decide +kernel))) rfl rfl rfl (htb (.initialized RX0) (jx_mem 66 (by decide +kernel) (by decide +kernel))) (htb (.methodLink RX3 25 yX0_init) (jx_mem 85 (by decide +kernel) (by decide +kernel))) (htb (.instanceMethod yX0_init) (jx_mem 86 (by decide +kernel) (by decide +kernel))) rfl (by decide +kernel) ⟨Nat.le_of_ble_eq_true rfl, Nat.le_of_ble_eq_true rfl⟩) ⟨fun a U g mk q => by obtain ⟨q0, q1, qP, qK, qD, qa, qn⟩ := q; exact ⟨q0, q1, qP, va_K.moved (u := U) (U := U.calling g mk a) (Vm.Alike.refl U.vm) qK, qD, va_AO.moved (u := U) (U := U.calling g mk a) (Vm.Alike.refl U.vm) qa, va_Nw.same (u := U) (U := U.calling g mk a) rfl rfl qn⟩, fun U hU hW => ⟨rfl, by rw [hU], by rw [hU]; exact P_right hP, va_K.moved hW.alike hK, (D_right hD).weaken (fun _ _ _ _ => trivial), va_AO.moved hW.alike hAO, va_Nw.warmM hW hNw⟩⟩ rfl rfl hl.1 rfl (lv_room (Nat.le_of_ble_eq_true rfl)) dX3_init_37 ⟨by show _ ≤ 67; omega, by show _ ≤ 3214; omega⟩) hS (fun q _ h => hFc q h) hFc (fun z t H1 locs ht hvm hw hB hz1 hk1 hS => ?_)
  obtain ⟨hP1, hK1, hD1⟩ := hB
  rw [ht] at hP1
  obtain ⟨hP, hD⟩ := J_right hP hD hk1 hFc hP1 hD1
  clear hP1 hD1 hK1 hk1 hFc
  generalize H1 = H at hP hS ⊢
  obtain ⟨u1, hu1⟩ : ∃ x : Nat → Nat, x = z := ⟨z, rfl⟩
  rw [← hu1] at hP hD hw
  rw [← hw]
  refine va_put (D := D.1) (ci := 3) (v := .ref (u1 0)) (ty := .object "SkyBulletin$Bulletin") (C := RX3) (T := TX3) (N := 6) hx hb htb inlX3 tyX3 tyX3_ok nmX3 hown hK hP hD hS 0 rfl rfl 4 (by decide) (htb (.fieldLink RX3 26 "SkyBulletin" "kept" "LSkyBulletin$Bulletin;") (jx_mem 250 (by decide +kernel) (by decide +kernel))) (fun _ h9 => h9) rfl (by decide +kernel) rfl rfl (Nat.le_of_ble_eq_true rfl) dX3_init_40 (fun H locs hP hD hS => ?_)
  have hP : va_P D.1 vwCl (([(h0, .inr (3, [.ref q1, .int 0, .ref q2, .int 0, .ref (u1 0), .null])), (q1, .inl (D.2.2.1.1, 700, .inl (fun _ => 0))), (q2, .inl (D.2.2.1.1, 700, .inl (fun _ => 0)))] ++ bw D u1 9)) H := hP
  have hD : va_D A (([(h0, .inr (3, [.ref q1, .int 0, .ref q2, .int 0, .ref (u1 0), .null])), (q1, .inl (D.2.2.1.1, 700, .inl (fun _ => 0))), (q2, .inl (D.2.2.1.1, 700, .inl (fun _ => 0)))] ++ bw D u1 9)) := hD
  refine lv_aload_n hx hb dX3_init_43 rfl (lv_at hl 0 rfl) ?_
  refine va_new (D := D.1) (ci := 2) (fs := [.null, .int 0, .int 0, .int 0, .null, .int 0, .int 0, .null]) (C := RX2) (T := TX2) (N := 8) hx hb htb inlX2 tyX2 tyX2_ok hown (htb (.classLink RX3 30 RX2) (jx_mem 212 (by decide +kernel) (by decide +kernel))) (htb (.instantiable RX2 8) (jx_mem 213 (by decide +kernel) (by decide +kernel))) (htb (.initialized RX2) (jx_mem 68 (by decide +kernel) (by decide +kernel))) hK hP hD hS hA rfl (fun j hj => by match j, hj with | 0, _ => rfl | 1, _ => rfl | 2, _ => rfl | 3, _ => rfl | 4, _ => rfl | 5, _ => rfl | 6, _ => rfl | 7, _ => rfl) (by show _ ≤ 67; omega) (by show _ ≤ 3214; omega) dX3_init_44 (fun a3 H hP hD hS => ?_)
  refine lv_dup hx hb dX3_init_47 rfl ?_
  have hFc := F_right hD hS hA
  refine va_callv (va_runIN (host := "SkyBulletin") (As := []) (rest := [.ref a3, .ref h0]) ⟨hx, hb, hml, hown, htb⟩ (nX2_init l D a3 H.size) ⟨va_cnB 0 htb (jx_goodIn (ws := []) (by simp) (jx_mem 216 (by decide +kernel) (by decide +kernel))) rfl rfl rfl hNr (htb (.initialized RX2) (jx_mem 68 (by decide +kernel) (by decide +kernel))) (by decide +kernel) ⟨Nat.le_of_ble_eq_true rfl, Nat.le_of_ble_eq_true rfl⟩, rfl, htb (.instanceMethod yX2_init) (jx_mem 215 (by decide +kernel) (by decide +kernel))⟩ ⟨fun a U g mk q => by obtain ⟨q0, q1, qP, qK, qD, qa, qn⟩ := q; exact ⟨q0, q1, qP, va_K.moved (u := U) (U := U.calling g mk a) (Vm.Alike.refl U.vm) qK, qD, va_AO.moved (u := U) (U := U.calling g mk a) (Vm.Alike.refl U.vm) qa, va_Nw.same (u := U) (U := U.calling g mk a) rfl rfl qn⟩, fun U hU hW => ⟨rfl, by rw [hU], by rw [hU]; exact P_right hP, va_K.moved hW.alike hK, (D_right hD).weaken (fun _ _ _ _ => trivial), va_AO.moved hW.alike hAO, va_Nw.warmM hW hNw⟩⟩ rfl rfl hl.1 rfl (lv_room (Nat.le_of_ble_eq_true rfl)) dX3_init_48 ⟨by show _ ≤ 67; omega, by show _ ≤ 3214; omega⟩) hS (fun q _ h => hFc q h) hFc (fun z t H1 locs ht hvm hw hB hz1 hk1 hS => ?_)
  obtain ⟨hP1, hK1, hD1⟩ := hB
  rw [ht] at hP1
  obtain ⟨hP, hD⟩ := J_right hP hD hk1 hFc hP1 hD1
  clear hP1 hD1 hK1 hk1 hFc
  generalize H1 = H at hP hS ⊢
  obtain ⟨q3, q4, u2⟩ := z
  refine va_putF (D := D.1) (ci := 3) (v := .ref a3) (ty := .object "SkyBulletin$Reader") (C := RX3) (T := TX3) (N := 6) hx hb htb inlX3 tyX3 tyX3_ok nmX3 hown hK hP hD hS 0 rfl rfl 5 (by decide) (htb (.fieldLink RX3 33 "SkyBulletin" "reader" "LSkyBulletin$Reader;") (jx_mem 251 (by decide +kernel) (by decide +kernel))) (fun _ h9 => h9) rfl hin rfl (by decide +kernel) rfl rfl (Nat.le_of_ble_eq_true rfl) dX3_init_51 (fun H locs hP hD hS => ?_)
  have hP : va_P D.1 vwCl ((([(h0, .inr (3, [.ref q1, .int 0, .ref q2, .int 0, .ref (u1 0), .ref a3])), (q1, .inl (D.2.2.1.1, 700, .inl (fun _ => 0))), (q2, .inl (D.2.2.1.1, 700, .inl (fun _ => 0)))] ++ bw D u1 9) ++ ([(a3, .inr (2, [.ref q3, .int 0, .int 0, .int 0, .ref q4, .int 0, .int (-1), .ref (u2 0)])), (q3, .inl (D.2.2.1.1, 0, .inl (fun _ => 0))), (q4, .inl (D.2.2.1.1, 16, .inl (fun _ => 0)))] ++ bw D u2 9))) H := hP
  have hD : va_D A ((([(h0, .inr (3, [.ref q1, .int 0, .ref q2, .int 0, .ref (u1 0), .ref a3])), (q1, .inl (D.2.2.1.1, 700, .inl (fun _ => 0))), (q2, .inl (D.2.2.1.1, 700, .inl (fun _ => 0)))] ++ bw D u1 9) ++ ([(a3, .inr (2, [.ref q3, .int 0, .int 0, .int 0, .ref q4, .int 0, .int (-1), .ref (u2 0)])), (q3, .inl (D.2.2.1.1, 0, .inl (fun _ => 0))), (q4, .inl (D.2.2.1.1, 16, .inl (fun _ => 0)))] ++ bw D u2 9))) := hD
  have hP := P_perm wp_turn hP
  have hD := D_perm wp_turn hD
  refine W.widen (k := 67) (n := 3214) (by omega) (by omega) ?_
  exact W.vret hx hb hr (fun t ht hW => ⟨⟨(q1, q2, u1, u2, a3, q4, q3), rfl, trivial, by rw [ht]; exact hP, va_K.moved hW.alike hK, hD⟩, hS.F ht⟩) hS.2.2 dX3_init_54
