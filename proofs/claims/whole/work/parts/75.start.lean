/-! ===== the law, from its entry ===== -/
theorem P_left {D : va_G} {cl : List vw_C} {w1 w2 : va_W} {H : Heap} (h : va_P D cl (w1 ++ w2) H) : va_P D cl w1 H := fun k q hk => h k q (by
  have := (List.getElem?_eq_some_iff.mp hk).1
  rwa [List.getElem?_append_left this])
theorem D_apart {A : Nat → Prop} {D D' : jx_Dt} {L L' : jx_Ly} {u u' : jx_St} (h : va_D A (jx_w D L u ++ jx_w D' L' u')) : ∀ q : Nat, jx_A D' L' q → ¬ jx_A D L q := by
  rintro q ⟨c', hc', rfl⟩ ⟨c, hc, e⟩
  have l1 : (jx_w D L u).length = L.2 := by simp [jx_w]
  have g1 : (jx_w D L u ++ jx_w D' L' u')[c]? = some (D.2.1 c, jx_E D L u c) := by rw [List.getElem?_append_left (by rw [l1]; exact hc)]; exact jx_w_at hc
  have g2 : (jx_w D L u ++ jx_w D' L' u')[L.2 + c']? = some (D'.2.1 c', jx_E D' L' u' c') := by rw [List.getElem?_append_right (by omega), l1, Nat.add_sub_cancel_left]; exact jx_w_at hc'
  have := h.1 _ _ _ _ g1 g2 e.symm
  omega
set_option maxHeartbeats 4000000 in
set_option maxRecDepth 100000 in
/-- THE LAW, from its entry -/
theorem whole_start {p : Program} {e : Env} {s : State} {m : MethodId} {below : List Frame} {meth : Method} {c : Code} (l : Launch) {b L : Nat} {xs : Nat → Int32} (hL : L ≤ 2048) (C0 : lw_At p s m meth c b L xs) : W p l e room_1 s m #[Value.ref b] below meth c s.heap [] 0 0 (lw_Z below #[Value.ref b] s) (entryFrame m ([Value.ref b] : List Value).toArray 4) := by
  obtain ⟨hx, hb, hr, hml, hown, hts, hX, hbl, hlocks, hgv⟩ := id C0
  have htb : ∀ w ∈ jx_tb, w.before #[Value.ref b] s = true := fun w h => hts w (jx_tb_in w h)
  have hAO : va_AO RX1 s := va_AO.of (hts (.arrayOver (.object RX1)) (List.mem_of_getElem? (i := 90) (by decide +kernel)))
  have hNw : va_Nw (.methodLinkNest RX0 25 yX1_init "SkyBulletin") s := va_Nw.of rfl (hts (.methodLinkNest RX0 25 yX1_init "SkyBulletin") (List.mem_of_getElem? (i := 92) (by decide +kernel)))
  have hNr : va_Nw (.methodLinkNest RX3 32 yX2_init "SkyBulletin") s := va_Nw.of rfl (hts (.methodLinkNest RX3 32 yX2_init "SkyBulletin") (List.mem_of_getElem? (i := 214) (by decide +kernel)))
  obtain ⟨G, ca, ci, cg, hK0⟩ := st_K htb hAO
  obtain ⟨adK, adV, hSr⟩ := st_sr hgv hts
  obtain ⟨D0, hD0⟩ : ∃ D0 : jx_Dt, D0 = (G, fun _ => 0, (ca, ci, cg), adK, adV) := ⟨_, rfl⟩
  have hK : va_K D0.1 vwCl (jx_tys D0) s := by rw [hD0]; exact hK0
  have hSr : ∀ A : Nat → Prop, (∀ q, A q → s.heap.size ≤ q) → vk_S 19 jx_sln jx_sby D0.2.2.2.1 D0.2.2.2.2 A s s.heap ∧ (∀ i : Nat, i < 19 → vk_R RX2 (jx_six.getD i 0) (jx_stx.getD i "") (D0.2.2.2.1 i) s) ∧ va_Z "java/lang/String" "COMPACT_STRINGS" "Z" (.int 1) A s s.heap ∧ va_Zq "jdk/internal/util/Preconditions" "SIOOBE_FORMATTER" "Ljava/util/function/BiFunction;" A s s.heap := by rw [hD0]; exact hSr
  clear hD0 hK0
  have hA : ∀ q : Nat, s.heap.size ≤ q → (fun q : Nat => s.heap.size ≤ q) q := fun _ h => h
  have hS : va_S (fun q : Nat => s.heap.size ≤ q) s.heap s.heap [] := va_S.rf
  have hP : va_P D0.1 vwCl [] s.heap := fun k q h => by simp at h
  have hD : va_D (fun q : Nat => s.heap.size ≤ q) [] := ⟨fun i j p q h => by simp at h, fun k q h => by simp at h⟩
  have hl := lv_entry ([.ref b]) (n := 4) (Nat.le_of_ble_eq_true rfl)
  rw [lg_entry_eq]
  generalize (lg_sl ([.ref b]) ++ List.replicate (4 - (lg_sl ([.ref b])).length) Slot.unset).toArray = ls at hl ⊢
  have hl : lv_has ls 4 [(0, .ref b)] := hl
  refine va_new (D := D0.1) (ci := 3) (fs := [.null, .int 0, .null, .int 0, .null, .null]) (C := RX3) (T := TX3) (N := 6) hx hb htb inlX3 tyX3 tyX3_ok hown (htb (.classLink R_law 7 RX3) (jx_mem 75 (by decide +kernel) (by decide +kernel))) (htb (.instantiable RX3 6) (jx_mem 76 (by decide +kernel) (by decide +kernel))) (htb (.initialized RX3) (jx_mem 65 (by decide +kernel) (by decide +kernel))) hK hP hD hS hA rfl (fun j hj => by match j, hj with | 0, _ => rfl | 1, _ => rfl | 2, _ => rfl | 3, _ => rfl | 4, _ => rfl | 5, _ => rfl) (by show _ ≤ 600000; omega) (by show _ ≤ 7302250; omega) dL_0 (fun a H hP hD hS => ?_)
  refine lv_dup hx hb dL_3 rfl ?_
  have hFc := F_right hD hS hA
  refine va_callv (va_runI (As := []) (rest := [.ref a]) ⟨hx, hb, hml, hown, htb⟩ (nX3_init l D0 a H.size) (cwI 0 htb (jx_goodIn (ws := []) (by simp) (jx_mem 79 (by decide +kernel) (by decide +kernel))) rfl rfl rfl (htb (.initialized RX3) (jx_mem 65 (by decide +kernel) (by decide +kernel))) (htb (.methodLink R_law 9 yX3_init) (jx_mem 77 (by decide +kernel) (by decide +kernel))) (htb (.instanceMethod yX3_init) (jx_mem 78 (by decide +kernel) (by decide +kernel))) rfl (by decide +kernel) ⟨Nat.le_of_ble_eq_true rfl, Nat.le_of_ble_eq_true rfl⟩) ⟨fun a U g mk q => by obtain ⟨q0, q1, qP, qK, qD, qa, qn, qr⟩ := q; exact ⟨q0, q1, qP, va_K.moved (u := U) (U := U.calling g mk a) (Vm.Alike.refl U.vm) qK, qD, va_AO.moved (u := U) (U := U.calling g mk a) (Vm.Alike.refl U.vm) qa, va_Nw.same (u := U) (U := U.calling g mk a) rfl rfl qn, va_Nw.same (u := U) (U := U.calling g mk a) rfl rfl qr⟩, fun U hU hW => ⟨rfl, by rw [hU], by rw [hU]; exact P_right hP, va_K.moved hW.alike hK, (D_right hD).weaken (fun _ _ _ _ => trivial), va_AO.moved hW.alike hAO, va_Nw.warmM hW hNw, va_Nw.warmM hW hNr⟩⟩ rfl rfl hl.1 rfl (lv_room (Nat.le_of_ble_eq_true rfl)) dL_4 ⟨by show _ ≤ 600000; omega, by show _ ≤ 7302250; omega⟩) hS (fun q _ h => hFc q h) hFc (fun z t H1 locs ht hvm hw hB hz1 hk1 hS => ?_)
  obtain ⟨hP1, hK1, hD1⟩ := hB
  rw [ht] at hP1
  obtain ⟨hP, hD⟩ := J_right hP hD hk1 hFc hP1 hD1
  clear hP1 hD1 hK1 hk1 hFc
  have hPx := x0_P (D := D0) (h0 := a) (z := z) hP
  have hDx := x0_D (D := D0) (h0 := a) (z := z) hD
  obtain ⟨D, hDe⟩ : ∃ D : jx_Dt, D = (D0.1, x0A a z, D0.2.2) := ⟨_, rfl⟩
  rw [← hDe] at hPx hDx
  have ea : D.2.1 0 = a := by rw [hDe]; rfl
  rw [← ea]
  have hP : va_P D0.1 vwCl (jx_w D jx_LX x0S) H1 := hPx
  have hD : va_D (fun q : Nat => s.heap.size ≤ q) (jx_w D jx_LX x0S) := hDx
  refine lv_astore_n (lv' := [(1, .ref (D.2.1 0)), (0, .ref b)]) hx hb dL_7 rfl hl (by decide) rfl (fun ls hl => ?_)
  refine va_new (D := D0.1) (ci := 4) (fs := [.null, .int 0, .null, .null, .int 0, .int 0, .int 0, .int 0, .int 0, .int 0, .int 0, .int 0, .int 0, .int 0, .null, .null, .null, .null, .int 0, .int 0, .int 0, .int 0, .int 0, .int 0, .null, .null, .null, .null, .null, .int 0, .null, .int 0]) (C := RX4) (T := TX4) (N := 32) hx hb htb inlX4 tyX4 tyX4_ok hown (htb (.classLink R_law 10 RX4) (jx_mem 655 (by decide +kernel) (by decide +kernel))) (htb (.instantiable RX4 32) (jx_mem 656 (by decide +kernel) (by decide +kernel))) (htb (.initialized RX4) (jx_mem 69 (by decide +kernel) (by decide +kernel))) hK hP hD hS hA rfl (fun j hj => by match j, hj with | 0, _ => rfl | 1, _ => rfl | 2, _ => rfl | 3, _ => rfl | 4, _ => rfl | 5, _ => rfl | 6, _ => rfl | 7, _ => rfl | 8, _ => rfl | 9, _ => rfl | 10, _ => rfl | 11, _ => rfl | 12, _ => rfl | 13, _ => rfl | 14, _ => rfl | 15, _ => rfl | 16, _ => rfl | 17, _ => rfl | 18, _ => rfl | 19, _ => rfl | 20, _ => rfl | 21, _ => rfl | 22, _ => rfl | 23, _ => rfl | 24, _ => rfl | 25, _ => rfl | 26, _ => rfl | 27, _ => rfl | 28, _ => rfl | 29, _ => rfl | 30, _ => rfl | 31, _ => rfl | k + 32, h => exact absurd h (by omega)) (by show _ ≤ 600000; omega) (by show _ ≤ 7302250; omega) dL_8 (fun a2 H hP hD hS => ?_)
  refine lv_dup hx hb dL_11 rfl ?_
  have hFc := F_right hD hS hA
  refine va_callv (va_runI (As := []) (rest := [.ref a2]) ⟨hx, hb, hml, hown, htb⟩ (nX4_init l D0 a2 H.size) (cwI 0 htb (jx_goodIn (ws := []) (by simp) (jx_mem 659 (by decide +kernel) (by decide +kernel))) rfl rfl rfl (htb (.initialized RX4) (jx_mem 69 (by decide +kernel) (by decide +kernel))) (htb (.methodLink R_law 12 yX4_init) (jx_mem 657 (by decide +kernel) (by decide +kernel))) (htb (.instanceMethod yX4_init) (jx_mem 658 (by decide +kernel) (by decide +kernel))) rfl (by decide +kernel) ⟨Nat.le_of_ble_eq_true rfl, Nat.le_of_ble_eq_true rfl⟩) ⟨fun a U g mk q => by obtain ⟨q0, q1, qP, qK, qD⟩ := q; exact ⟨q0, q1, qP, va_K.moved (u := U) (U := U.calling g mk a) (Vm.Alike.refl U.vm) qK, qD⟩, fun U hU hW => ⟨rfl, by rw [hU], by rw [hU]; exact P_right hP, va_K.moved hW.alike hK, (D_right hD).weaken (fun _ _ _ _ => trivial)⟩⟩ rfl rfl hl.1 rfl (lv_room (Nat.le_of_ble_eq_true rfl)) dL_12 ⟨by show _ ≤ 600000; omega, by show _ ≤ 7302250; omega⟩) hS (fun q _ h => hFc q h) hFc (fun z t H1 locs ht hvm hw hB hz1 hk1 hS => ?_)
  obtain ⟨hP1, hK1, hD1⟩ := hB
  rw [ht] at hP1
  obtain ⟨hP, hD⟩ := J_right hP hD hk1 hFc hP1 hD1
  clear hP1 hD1 hK1 hk1 hFc
  rw [m0_w (D := D0) hw] at hP hD
  obtain ⟨D', hDe'⟩ : ∃ D' : jx_Dt, D' = (D0.1, z, D0.2.2) := ⟨_, rfl⟩
  rw [← hDe'] at hP hD
  have ea' : D'.2.1 0 = a2 := by rw [hDe']; exact hw
  rw [← ea']
  refine lv_astore_n (lv' := [(2, .ref (D'.2.1 0)), (1, .ref (D.2.1 0)), (0, .ref b)]) hx hb dL_15 rfl hl (by decide) rfl (fun ls hl => ?_)
  refine lv_iconst (v := 0) hx hb dL_16 (by decide) ?_
  refine lv_istore_n (lv' := [(3, .int 0), (2, .ref (D'.2.1 0)), (1, .ref (D.2.1 0)), (0, .ref b)]) hx hb dL_17 rfl hl (by decide) rfl (fun ls hl => ?_)
  refine W.widen (k := 82) (n := 7768) (by omega) (by omega) ?_
  have k1 : D.1 = D0.1 := by rw [hDe]
  have k2 : D.2.2 = D0.2.2 := by rw [hDe]
  have k3 : D'.1 = D0.1 := by rw [hDe']
  have k4 : D'.2.2 = D0.2.2 := by rw [hDe']
  have hCx : lw_C D jx_LX s := ⟨by rw [k1]; unfold jx_tys; rw [k2]; exact hK, jx_In_of hDx, by unfold jx_Sr; rw [k2]; exact hSr _ (jx_A_of hDx), jx_A_of hDx⟩
  have hDm := D_right hD
  have hCm : lw_C D' jx_LM s := ⟨by rw [k3]; unfold jx_tys; rw [k4]; exact hK, jx_In_of hDm, by unfold jx_Sr; rw [k4]; exact hSr _ (jx_A_of hDm), jx_A_of hDm⟩
  exact lw_loop ⟨hx, hb, hml, hown, htb, hX, hbl, hL, hCx, hCm, D_apart hD⟩ hr hlocks (L + 1) 0 x0S m0S _ _ ls (Nat.zero_le L) (by omega) Rl_0 (by rw [k1]; exact P_left hP) (by rw [k3]; exact P_right hP) hS hl
