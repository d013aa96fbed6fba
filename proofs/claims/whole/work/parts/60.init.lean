/-! ===== the constructors ===== -/
theorem jx_ci {D : jx_Dt} {s : State} {cA : ClassId} (h : va_K D.1 vwCl (jx_tys D) s) (h2 : va_K D.1 vwCl (jx_tys D ++ [(cA, .int)]) s) : cA = D.2.2.1.2.1 := by
  have a := (h.2 1 (D.2.2.1.2.1, .int) rfl).2
  have b := (h2.2 3 (cA, .int) rfl).2
  exact Option.some.inj (b.symm.trans a)
theorem jx_cc {D : jx_Dt} {s : State} {cA : ClassId} (h : va_K D.1 vwCl (jx_tys D) s) (h2 : va_K D.1 vwCl (jx_tys D ++ [(cA, .char)]) s) : cA = D.2.2.1.1 := by
  have a := (h.2 0 (D.2.2.1.1, .char) rfl).2
  have b := (h2.2 3 (cA, .char) rfl).2
  exact Option.some.inj (b.symm.trans a)
theorem jx_cg {D : jx_Dt} {s : State} {cA : ClassId} (h : va_K D.1 vwCl (jx_tys D) s) (h2 : va_K D.1 vwCl (jx_tys D ++ [(cA, .object RX1)]) s) : cA = D.2.2.1.2.2 := by
  obtain ⟨_, _, _, _, _, a⟩ := (h.2 2 (D.2.2.1.2.2, .object RX1) rfl).2
  obtain ⟨_, _, _, _, _, b⟩ := (h2.2 3 (cA, .object RX1) rfl).2
  exact Option.some.inj (b.symm.trans a)
theorem P_right {D : va_G} {cl : List vw_C} {w1 w2 : va_W} {H : Heap} (h : va_P D cl (w1 ++ w2) H) : va_P D cl w2 H := fun k q hk => h (w1.length + k) q (by rw [List.getElem?_append_right (by omega)]; rw [Nat.add_sub_cancel_left]; exact hk)
theorem D_right {A : Nat → Prop} {w1 w2 : va_W} (h : va_D A (w1 ++ w2)) : va_D A w2 := by
  have sh : ∀ (k : Nat) (q : Nat × va_E), w2[k]? = some q → (w1 ++ w2)[w1.length + k]? = some q := fun k q hk => by
    rw [List.getElem?_append_right (by omega), Nat.add_sub_cancel_left]; exact hk
  refine ⟨fun i j p q hi hj e => ?_, fun k q hk => h.2 _ q (sh k q hk)⟩
  have := h.1 _ _ p q (sh i p hi) (sh j q hj) e
  omega
theorem F_right {A0 : Nat → Prop} {wr wc : va_W} {H0 H : Heap} {locs : List Loc} (hD : va_D A0 (wr ++ wc)) (hS : va_S A0 H0 H locs) (hA : ∀ q, H0.size ≤ q → A0 q) : ∀ q, va_A wc H.size q → A0 q := by
  intro q h
  rcases h with ⟨k, e, h⟩ | h
  · exact (D_right hD).2 k (q, e) h
  · exact hA q (Nat.le_trans hS.1 h)
/-- the callee's cells stood last: what came back stands there now -/
theorem J_right {A0 : Nat → Prop} {D : va_G} {cl : List vw_C} {wr wc w1 : va_W} {H H1 : Heap} (hP : va_P D cl (wr ++ wc) H) (hD : va_D A0 (wr ++ wc)) (hk : ∀ q : Nat, q < H.size → ¬ va_A wc H.size q → H1[q]? = H[q]?) (hF : ∀ q, va_A wc H.size q → A0 q) (hP1 : va_P D cl w1 H1) (hD1 : va_D (va_A wc H.size) w1) : va_P D cl (wr ++ w1) H1 ∧ va_D A0 (wr ++ w1) := by
  have sl : ∀ (w : va_W) (k : Nat) (q : Nat × va_E), k < wr.length → (wr ++ w)[k]? = some q → wr[k]? = some q := fun w k q hk h => by rwa [List.getElem?_append_left hk] at h
  have sr : ∀ (w : va_W) (k : Nat) (q : Nat × va_E), ¬ k < wr.length → (wr ++ w)[k]? = some q → w[k - wr.length]? = some q := fun w k q hk h => by rwa [List.getElem?_append_right (by omega)] at h
  have up : ∀ (w : va_W) (k : Nat) (q : Nat × va_E), wr[k]? = some q → (wr ++ w)[k]? = some q := fun w k q h => by
    have hk := (List.getElem?_eq_some_iff.mp h).1
    rwa [List.getElem?_append_left hk]
  have out : ∀ (k : Nat) (q : Nat × va_E), wr[k]? = some q → q.1 < H.size ∧ ¬ va_A wc H.size q.1 := fun k q h => by
    have hlt := (hP k q (up wc k q h)).lt
    refine ⟨hlt, fun z => ?_⟩
    rcases z with ⟨k', e, z⟩ | z
    · have hk := (List.getElem?_eq_some_iff.mp h).1
      have := hD.1 k (wr.length + k') q (q.1, e) (up wc k q h) (by rw [List.getElem?_append_right (by omega), Nat.add_sub_cancel_left]; exact z) rfl
      omega
    · omega
  refine ⟨fun k q h => ?_, fun i j p q hi hj e => ?_, fun k q h => ?_⟩
  · by_cases z : k < wr.length
    · have h' := sl w1 k q z h
      exact (hP k q (up wc k q h')).kept (hk q.1 (out k q h').1 (out k q h').2)
    · exact hP1 _ q (sr w1 k q z h)
  · by_cases zi : i < wr.length
    · by_cases zj : j < wr.length
      · exact hD.1 i j p q (up wc i p (sl w1 i p zi hi)) (up wc j q (sl w1 j q zj hj)) e
      · have hq := hD1.2 _ q (sr w1 j q zj hj)
        exact absurd (by rw [e]; exact hq) (out i p (sl w1 i p zi hi)).2
    · by_cases zj : j < wr.length
      · have hp := hD1.2 _ p (sr w1 i p zi hi)
        exact absurd (by rw [← e]; exact hp) (out j q (sl w1 j q zj hj)).2
      · have := hD1.1 _ _ p q (sr w1 i p zi hi) (sr w1 j q zj hj) e
        omega
  · by_cases z : k < wr.length
    · exact hD.2 k q (up wc k q (sl w1 k q z h))
    · exact hF _ (hD1.2 _ q (sr w1 k q z h))

set_option maxHeartbeats 400000 in
set_option maxRecDepth 100000 in
theorem nX1_init (l : Launch) (D : jx_Dt) (h0 sz : Nat) : Met l yX1_init (.code yX1_init cX1_init 1 none :: jx_tb) ({ frames := 1, cells := 2, slots := 7, locals := 12 }) (va_Pc [.ref h0] (fun U => U.heap.size = sz ∧ va_P D.1 vwCl ([(h0, .inr (1, [.int 0, .int 0, .int 0, .int 0, .int 0, .int 0, .int 0, .int 0, .int 0, .int 0, .null, .null]))]) U.heap ∧ va_K D.1 vwCl (jx_tys D) U ∧ va_D (fun _ => True) ([(h0, .inr (1, [.int 0, .int 0, .int 0, .int 0, .int 0, .int 0, .int 0, .int 0, .int 0, .int 0, .null, .null]))]))) (va_Qv (fun _ : Nat × Nat => True) (fun u t => va_P D.1 vwCl ([(h0, .inr (1, [.int 0, .int 0, .int 0, .int 0, .int 0, .int 0, .int 0, .int 0, .int 0, .int 0, .ref u.1, .ref u.2])), (u.1, .inl (D.2.2.1.2.1, 3, .inl (fun _ => 0))), (u.2, .inl (D.2.2.1.2.1, 4, .inl (fun _ => 0)))]) t.heap ∧ va_K D.1 vwCl (jx_tys D) t ∧ va_D (va_A ([(h0, .inr (1, [.int 0, .int 0, .int 0, .int 0, .int 0, .int 0, .int 0, .int 0, .int 0, .int 0, .null, .null]))]) sz) ([(h0, .inr (1, [.int 0, .int 0, .int 0, .int 0, .int 0, .int 0, .int 0, .int 0, .int 0, .int 0, .ref u.1, .ref u.2])), (u.1, .inl (D.2.2.1.2.1, 3, .inl (fun _ => 0))), (u.2, .inl (D.2.2.1.2.1, 4, .inl (fun _ => 0)))])) (va_A ([(h0, .inr (1, [.int 0, .int 0, .int 0, .int 0, .int 0, .int 0, .int 0, .int 0, .int 0, .int 0, .null, .null]))]) sz)) 2 7 (va_A ([(h0, .inr (1, [.int 0, .int 0, .int 0, .int 0, .int 0, .int 0, .int 0, .int 0, .int 0, .int 0, .null, .null]))]) sz) := by
  refine Met.ofW (cc := cX1_init) (maxL := 1) (ret := none) (by decide) rfl ?_
  intro p e s m args below meth c s₁ B hml hv
  obtain ⟨rfl, hsz, hP, hK, hD0⟩ := hv
  have hx := B.exec
  have hb := B.bytes
  have hr := B.returns
  have hts := atoms_spec (ws := (.code yX1_init cX1_init 1 none :: jx_tb)) B.pre
  have htb : ∀ w ∈ jx_tb, w.before _ s = true := fun w h => hts w (List.mem_cons_of_mem _ h)
  have hown : s.vm.findClass RX1 = some m.cls := findClass_of_methodNamed B.named
  have hlocks := B.notSynchronized
  have hin : meth.name = "<init>" := (name_of_methodNamed B.named B.method).1
  subst hsz
  have hD := hD0.self (sz := s.heap.size)
  generalize hAe : va_A ([(h0, .inr (1, [.int 0, .int 0, .int 0, .int 0, .int 0, .int 0, .int 0, .int 0, .int 0, .int 0, .null, .null]))]) s.heap.size = A at hD ⊢
  have hA : ∀ q : Nat, s.heap.size ≤ q → A q := fun q h => by rw [← hAe]; exact Or.inr h
  have hS : va_S A s.heap s.heap [] := va_S.rf
  have hP : va_P D.1 vwCl ([(h0, .inr (1, [.int 0, .int 0, .int 0, .int 0, .int 0, .int 0, .int 0, .int 0, .int 0, .int 0, .null, .null]))]) s.heap := hP
  have hl := lv_entry ([.ref h0]) (n := 1) (Nat.le_of_ble_eq_true rfl)
  rw [lg_entry_eq]
  generalize (lg_sl ([.ref h0]) ++ List.replicate (1 - (lg_sl ([.ref h0])).length) Slot.unset).toArray = ls at hl ⊢
  have hl : lv_has ls 1 [(0, .ref h0)] := hl
  refine lv_aload_n hx hb dX1_init_0 rfl (lv_at hl 0 rfl) ?_
  refine W.objInit hx hb hown (htb (.methodLink RX1 3 Lib.objectInit) (jx_mem 95 (by decide +kernel) (by decide +kernel))) (htb (.instanceMethod Lib.objectInit) (jx_mem 81 (by decide +kernel) (by decide +kernel))) (htb (.code Lib.objectInit ⟨#[0xb1]⟩ 1 none) (jx_mem 82 (by decide +kernel) (by decide +kernel))) rfl (by rw [hml]; exact hl.1) rfl dX1_init_1 (Nat.le_of_ble_eq_true rfl) (Nat.le_of_ble_eq_true rfl) ?_
  refine W.eq (g2 := F0 m 4 ls []) rfl ?_
  refine lv_aload_n hx hb dX1_init_4 rfl (lv_at hl 0 rfl) ?_
  refine lv_iconst (v := 3) hx hb dX1_init_5 (by decide) ?_
  refine va_newa (atype := .int) (D := D.1) (cl := vwCl) (tys := jx_tys D) (a0 := (3, .inl (fun _ => 0))) (N' := 3) hx hb (htb (.arrayClass .int) (jx_mem 159 (by decide +kernel) (by decide +kernel))) (ty := .int) rfl hK hP hD hS hA (fun cA => rfl) (by decide) (by decide) (by decide) (by show _ ≤ 2; omega) (by show _ ≤ 7; omega) dX1_init_6 (fun q1 cA H hK2 hP hD hS => ?_)
  rw [jx_ci hK hK2] at hP hD
  clear hK2
  have hP : va_P D.1 vwCl ([(h0, .inr (1, [.int 0, .int 0, .int 0, .int 0, .int 0, .int 0, .int 0, .int 0, .int 0, .int 0, .null, .null])), (q1, .inl (D.2.2.1.2.1, 3, .inl (fun _ => 0)))]) H := hP
  have hD : va_D A ([(h0, .inr (1, [.int 0, .int 0, .int 0, .int 0, .int 0, .int 0, .int 0, .int 0, .int 0, .int 0, .null, .null])), (q1, .inl (D.2.2.1.2.1, 3, .inl (fun _ => 0)))]) := hD
  refine va_putF (D := D.1) (ci := 1) (v := .ref q1) (ty := .array .int) (C := RX1) (T := TX1) (N := 12) hx hb htb inlX1 tyX1 tyX1_ok nmX1 hown hK hP hD hS 0 rfl rfl 10 (by decide) (htb (.fieldLink RX1 9 "SkyBulletin$Group" "weathers" "[I") (jx_mem 129 (by decide +kernel) (by decide +kernel))) (fun _ h9 => h9) rfl hin rfl (by decide +kernel) rfl rfl (Nat.le_of_ble_eq_true rfl) dX1_init_8 (fun H locs hP hD hS => ?_)
  have hP : va_P D.1 vwCl ([(h0, .inr (1, [.int 0, .int 0, .int 0, .int 0, .int 0, .int 0, .int 0, .int 0, .int 0, .int 0, .ref q1, .null])), (q1, .inl (D.2.2.1.2.1, 3, .inl (fun _ => 0)))]) H := hP
  have hD : va_D A ([(h0, .inr (1, [.int 0, .int 0, .int 0, .int 0, .int 0, .int 0, .int 0, .int 0, .int 0, .int 0, .ref q1, .null])), (q1, .inl (D.2.2.1.2.1, 3, .inl (fun _ => 0)))]) := hD
  refine lv_aload_n hx hb dX1_init_11 rfl (lv_at hl 0 rfl) ?_
  refine lv_iconst (v := 4) hx hb dX1_init_12 (by decide) ?_
  refine va_newa (atype := .int) (D := D.1) (cl := vwCl) (tys := jx_tys D) (a0 := (4, .inl (fun _ => 0))) (N' := 4) hx hb (htb (.arrayClass .int) (jx_mem 159 (by decide +kernel) (by decide +kernel))) (ty := .int) rfl hK hP hD hS hA (fun cA => rfl) (by decide) (by decide) (by decide) (by show _ ≤ 2; omega) (by show _ ≤ 7; omega) dX1_init_13 (fun q2 cA H hK2 hP hD hS => ?_)
  rw [jx_ci hK hK2] at hP hD
  clear hK2
  have hP : va_P D.1 vwCl ([(h0, .inr (1, [.int 0, .int 0, .int 0, .int 0, .int 0, .int 0, .int 0, .int 0, .int 0, .int 0, .ref q1, .null])), (q1, .inl (D.2.2.1.2.1, 3, .inl (fun _ => 0))), (q2, .inl (D.2.2.1.2.1, 4, .inl (fun _ => 0)))]) H := hP
  have hD : va_D A ([(h0, .inr (1, [.int 0, .int 0, .int 0, .int 0, .int 0, .int 0, .int 0, .int 0, .int 0, .int 0, .ref q1, .null])), (q1, .inl (D.2.2.1.2.1, 3, .inl (fun _ => 0))), (q2, .inl (D.2.2.1.2.1, 4, .inl (fun _ => 0)))]) := hD
  refine va_putF (D := D.1) (ci := 1) (v := .ref q2) (ty := .array .int) (C := RX1) (T := TX1) (N := 12) hx hb htb inlX1 tyX1 tyX1_ok nmX1 hown hK hP hD hS 0 rfl rfl 11 (by decide) (htb (.fieldLink RX1 15 "SkyBulletin$Group" "clouds" "[I") (jx_mem 131 (by decide +kernel) (by decide +kernel))) (fun _ h9 => h9) rfl hin rfl (by decide +kernel) rfl rfl (Nat.le_of_ble_eq_true rfl) dX1_init_15 (fun H locs hP hD hS => ?_)
  have hP : va_P D.1 vwCl ([(h0, .inr (1, [.int 0, .int 0, .int 0, .int 0, .int 0, .int 0, .int 0, .int 0, .int 0, .int 0, .ref q1, .ref q2])), (q1, .inl (D.2.2.1.2.1, 3, .inl (fun _ => 0))), (q2, .inl (D.2.2.1.2.1, 4, .inl (fun _ => 0)))]) H := hP
  have hD : va_D A ([(h0, .inr (1, [.int 0, .int 0, .int 0, .int 0, .int 0, .int 0, .int 0, .int 0, .int 0, .int 0, .ref q1, .ref q2])), (q1, .inl (D.2.2.1.2.1, 3, .inl (fun _ => 0))), (q2, .inl (D.2.2.1.2.1, 4, .inl (fun _ => 0)))]) := hD
  refine W.widen (k := 2) (n := 7) (by omega) (by omega) ?_
  exact W.vret hx hb hr (fun t ht hW => ⟨⟨(q1, q2), rfl, trivial, by rw [ht]; exact hP, va_K.moved hW.alike hK, hD⟩, hS.F ht⟩) hS.2.2 dX1_init_18
