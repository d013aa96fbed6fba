/-! ===== the machine does what the predicates say (written by program) ===== -/
set_option maxHeartbeats 4000000 in
set_option maxRecDepth 100000 in
theorem mX4_isMinute (l : Launch) (D : jx_Dt) (post : Int32 → jx_St → Prop) (a0 : Nat) (a1 : Int32) (s : jx_St) (h : wX4_isMinute post a0 a1 s) : jx_Met l yX4_isMinute cX4_isMinute 2 (some .boolean) (jx_r 0 0) D jx_LM [.ref (D.2.1 a0), .int a1] s (jx_Qi D jx_LM (fun r u => (r = 0 ∨ r = 1) ∧ post r u)) := by
  refine jx_ofJ (by decide) (Nat.le_of_ble_eq_true rfl) (fun X hl hX => ?_)
  subst hl
  replace hX : jx_K D jx_LM X cX4_isMinute RX4 2 (some .boolean) (jx_r 0 0) (jx_Qi D jx_LM (fun r u => (r = 0 ∨ r = 1) ∧ post r u)) := hX
  show jx_J D jx_LM X 0 [(0, .ref (D.2.1 a0)), (1, .int a1)] [] s
  unfold wX4_isMinute at h
  refine jx_aload_n 1 hX 0 rfl rfl dX4_isMinute_0 rfl ?_
  obtain ⟨hc1, h⟩ := h
  refine jx_getI 4 hX jf_X4_211 rfl hc1 dX4_isMinute_1 rfl (jx_iconst 5 hX 2 (by decide) dX4_isMinute_4 rfl ?_)
  refine jx_icmp_ne 8 32 hX dX4_isMinute_5 rfl (by decide) (fun hb2 => ?_) (fun hb2 => ?_)
  · have h := h.1 hb2
    refine jx_iconst 33 hX 0 (by decide) dX4_isMinute_32 rfl ?_
    exact jx_zret hX dX4_isMinute_33 (by decide) h
  · have h := h.2 hb2
    refine jx_iload_n 9 hX 1 rfl rfl dX4_isMinute_8 rfl (jx_aload_n 10 hX 0 rfl rfl dX4_isMinute_9 rfl (jx_getR 13 hX jf_X4_34 rfl hc1 dX4_isMinute_10 rfl (jx_iconst 14 hX 2 (by decide) dX4_isMinute_13 rfl ?_)))
    obtain ⟨hc3, h⟩ := h
    refine jx_iaload 15 hX hc3 dX4_isMinute_14 rfl ?_
    refine jx_icmp_lt 18 32 hX dX4_isMinute_15 rfl (by decide) (fun hb4 => ?_) (fun hb4 => ?_)
    · have h := h.1 hb4
      refine jx_iconst 33 hX 0 (by decide) dX4_isMinute_32 rfl ?_
      exact jx_zret hX dX4_isMinute_33 (by decide) h
    · have h := h.2 hb4
      refine jx_iload_n 19 hX 1 rfl rfl dX4_isMinute_18 rfl (jx_aload_n 20 hX 0 rfl rfl dX4_isMinute_19 rfl (jx_getR 23 hX jf_X4_34 rfl hc1 dX4_isMinute_20 rfl (jx_iconst 24 hX 3 (by decide) dX4_isMinute_23 rfl ?_)))
      obtain ⟨hc5, h⟩ := h
      refine jx_iaload 25 hX hc5 dX4_isMinute_24 rfl ?_
      refine jx_icmp_ge 28 32 hX dX4_isMinute_25 rfl (by decide) (fun hb6 => ?_) (fun hb6 => ?_)
      · have h := h.1 hb6
        refine jx_iconst 33 hX 0 (by decide) dX4_isMinute_32 rfl ?_
        exact jx_zret hX dX4_isMinute_33 (by decide) h
      · have h := h.2 hb6
        refine jx_iconst 29 hX 1 (by decide) dX4_isMinute_28 rfl (jx_goto 33 hX dX4_isMinute_29 (by decide) ?_)
        exact jx_zret hX dX4_isMinute_33 (by decide) h
set_option maxHeartbeats 4000000 in
set_option maxRecDepth 100000 in
theorem mX4_isActive (l : Launch) (D : jx_Dt) (post : Int32 → jx_St → Prop) (a0 : Nat) (a1 : Int32) (a2 : Int32) (s : jx_St) (h : wX4_isActive post a0 a1 a2 s) : jx_Met l yX4_isActive cX4_isActive 3 (some .boolean) (jx_r 0 0) D jx_LM [.ref (D.2.1 a0), .int a1, .int a2] s (jx_Qi D jx_LM (fun r u => (r = 0 ∨ r = 1) ∧ post r u)) := by
  refine jx_ofJ (by decide) (Nat.le_of_ble_eq_true rfl) (fun X hl hX => ?_)
  subst hl
  replace hX : jx_K D jx_LM X cX4_isActive RX4 3 (some .boolean) (jx_r 0 0) (jx_Qi D jx_LM (fun r u => (r = 0 ∨ r = 1) ∧ post r u)) := hX
  show jx_J D jx_LM X 0 [(0, .ref (D.2.1 a0)), (1, .int a1), (2, .int a2)] [] s
  unfold wX4_isActive at h
  refine jx_aload_n 1 hX 0 rfl rfl dX4_isActive_0 rfl ?_
  obtain ⟨hc1, h⟩ := h
  refine jx_getR 4 hX jf_X4_34 rfl hc1 dX4_isActive_1 rfl (jx_bipush 6 hX 10 (by decide) dX4_isActive_4 rfl (jx_iload_n 7 hX 1 rfl rfl dX4_isActive_6 rfl (jx_imul 8 hX dX4_isActive_7 rfl ?_)))
  obtain ⟨hc2, h⟩ := h
  refine jx_iaload 9 hX hc2 dX4_isActive_8 rfl (jx_iconst 10 hX 3 (by decide) dX4_isActive_9 rfl ?_)
  refine jx_icmp_lt 13 47 hX dX4_isActive_10 rfl (by decide) (fun hb3 => ?_) (fun hb3 => ?_)
  · have h := h.1 hb3
    refine jx_iconst 48 hX 0 (by decide) dX4_isActive_47 rfl ?_
    exact jx_zret hX dX4_isActive_48 (by decide) h
  · have h := h.2 hb3
    refine jx_iload_n 14 hX 2 rfl rfl dX4_isActive_13 rfl (jx_aload_n 15 hX 0 rfl rfl dX4_isActive_14 rfl (jx_getR 18 hX jf_X4_34 rfl hc1 dX4_isActive_15 rfl (jx_bipush 20 hX 10 (by decide) dX4_isActive_18 rfl (jx_iload_n 21 hX 1 rfl rfl dX4_isActive_20 rfl (jx_imul 22 hX dX4_isActive_21 rfl ?_)))))
    refine jx_iconst 23 hX 2 (by decide) dX4_isActive_22 rfl (jx_iadd 24 hX dX4_isActive_23 rfl ?_)
    obtain ⟨hc4, h⟩ := h
    refine jx_iaload 25 hX hc4 dX4_isActive_24 rfl ?_
    refine jx_icmp_lt 28 47 hX dX4_isActive_25 rfl (by decide) (fun hb5 => ?_) (fun hb5 => ?_)
    · have h := h.1 hb5
      refine jx_iconst 48 hX 0 (by decide) dX4_isActive_47 rfl ?_
      exact jx_zret hX dX4_isActive_48 (by decide) h
    · have h := h.2 hb5
      refine jx_iload_n 29 hX 2 rfl rfl dX4_isActive_28 rfl (jx_aload_n 30 hX 0 rfl rfl dX4_isActive_29 rfl (jx_getR 33 hX jf_X4_34 rfl hc1 dX4_isActive_30 rfl (jx_bipush 35 hX 10 (by decide) dX4_isActive_33 rfl (jx_iload_n 36 hX 1 rfl rfl dX4_isActive_35 rfl (jx_imul 37 hX dX4_isActive_36 rfl ?_)))))
      refine jx_iconst 38 hX 3 (by decide) dX4_isActive_37 rfl (jx_iadd 39 hX dX4_isActive_38 rfl ?_)
      obtain ⟨hc6, h⟩ := h
      refine jx_iaload 40 hX hc6 dX4_isActive_39 rfl ?_
      refine jx_icmp_ge 43 47 hX dX4_isActive_40 rfl (by decide) (fun hb7 => ?_) (fun hb7 => ?_)
      · have h := h.1 hb7
        refine jx_iconst 48 hX 0 (by decide) dX4_isActive_47 rfl ?_
        exact jx_zret hX dX4_isActive_48 (by decide) h
      · have h := h.2 hb7
        refine jx_iconst 44 hX 1 (by decide) dX4_isActive_43 rfl (jx_goto 48 hX dX4_isActive_44 (by decide) ?_)
        exact jx_zret hX dX4_isActive_48 (by decide) h
set_option maxHeartbeats 4000000 in
set_option maxRecDepth 100000 in
theorem mX4_active (l : Launch) (D : jx_Dt) (post : Int32 → jx_St → Prop) (a0 : Nat) (a1 : Int32) (s : jx_St) (h : wX4_active post a0 a1 s) : jx_Met l yX4_active cX4_active 4 (some .int) (jx_r 1 22) D jx_LM [.ref (D.2.1 a0), .int a1] s (jx_Qi D jx_LM post) := by
  refine jx_ofJ (by decide) (Nat.le_of_ble_eq_true rfl) (fun X hl hX => ?_)
  subst hl
  replace hX : jx_K D jx_LM X cX4_active RX4 4 (some .int) (jx_r 1 22) (jx_Qi D jx_LM post) := hX
  show jx_J D jx_LM X 0 [(0, .ref (D.2.1 a0)), (1, .int a1)] [] s
  have b43 : ∀ (a0 : Nat) (a1 : Int32) (a2 : Int32) (s : jx_St), wX4_active_b43 post a0 a1 a2 s → jx_J D jx_LM X 43 [(0, .ref (D.2.1 a0)), (1, .int a1), (2, .int a2)] [] s := by
    intro a0 a1 a2 s h
    unfold wX4_active_b43 at h
    refine jx_aload_n 44 hX 0 rfl rfl dX4_active_43 rfl (jx_iload_n 45 hX 1 rfl rfl dX4_active_44 rfl ?_)
    obtain ⟨hc15, h⟩ := h
    refine jx_callVi 48 hX (mX4_isMinute _ D _ a0 a1 s h) jv_X4_235 jn_4 hc15 ⟨rfl, rfl, by decide, by decide⟩ rfl rfl (Nat.le_of_ble_eq_true rfl) dX4_active_45 rfl (fun r16 s17 h => ?_)
    obtain ⟨hz18, h⟩ := h
    have h := h hz18
    refine jx_if_eq 51 55 hX dX4_active_48 rfl (by decide) (fun hb19 => ?_) (fun hb19 => ?_)
    · have h := h.1 hb19
      refine jx_iconst 56 hX (-1) (by decide) dX4_active_55 rfl ?_
      exact jx_iret hX dX4_active_56 h
    · have h := h.2 hb19
      refine jx_iload_n 52 hX 2 rfl rfl dX4_active_51 rfl (jx_goto 56 hX dX4_active_52 (by decide) ?_)
      exact jx_iret hX dX4_active_56 h
  have l4 : ∀ (n : Nat) (a0 : Nat) (a1 : Int32) (a2 : Int32) (a3 : Int32) (s : jx_St), wX4_active_l4 post n a0 a1 a2 a3 s → jx_J D jx_LM X 4 [(0, .ref (D.2.1 a0)), (1, .int a1), (2, .int a2), (3, .int a3)] [] s := by
    intro n
    induction n with
    | zero => intro a0 a1 a2 a3 s h; exact h.elim
    | succ n ih =>
      intro a0 a1 a2 a3 s h
      rw [wX4_active_l4] at h
      refine jx_iload_n 5 hX 3 rfl rfl dX4_active_4 rfl (jx_aload_n 6 hX 0 rfl rfl dX4_active_5 rfl ?_)
      obtain ⟨hc1, h⟩ := h
      refine jx_getI 9 hX jf_X4_214 rfl hc1 dX4_active_6 rfl ?_
      refine jx_icmp_ge 12 43 hX dX4_active_9 rfl (by decide) (fun hb2 => ?_) (fun hb2 => ?_)
      · have h := h.1 hb2
        exact jx_sub [0, 1, 2] rfl (b43 a0 a1 a2 s h)
      · have h := h.2 hb2
        refine jx_aload_n 13 hX 0 rfl rfl dX4_active_12 rfl (jx_iload_n 14 hX 1 rfl rfl dX4_active_13 rfl ?_)
        refine jx_callVi 17 hX (mX4_isMinute _ D _ a0 a1 s h) jv_X4_235 jn_4 hc1 ⟨rfl, rfl, by decide, by decide⟩ rfl rfl (Nat.le_of_ble_eq_true rfl) dX4_active_14 rfl (fun r3 s4 h => ?_)
        obtain ⟨hz5, h⟩ := h
        have h := h hz5
        refine jx_if_eq 20 43 hX dX4_active_17 rfl (by decide) (fun hb6 => ?_) (fun hb6 => ?_)
        · have h := h.1 hb6
          exact jx_sub [0, 1, 2] rfl (b43 a0 a1 a2 s4 h)
        · have h := h.2 hb6
          refine jx_iload_n 21 hX 2 rfl rfl dX4_active_20 rfl (jx_aload_n 22 hX 0 rfl rfl dX4_active_21 rfl (jx_iload_n 23 hX 3 rfl rfl dX4_active_22 rfl (jx_iload_n 24 hX 1 rfl rfl dX4_active_23 rfl ?_)))
          refine jx_callVi 27 hX (mX4_isActive _ D _ a0 a3 a1 s4 h) jv_X4_244 jn_4 hc1 ⟨rfl, rfl, by decide, by decide⟩ rfl rfl (Nat.le_of_ble_eq_true rfl) dX4_active_24 rfl (fun r7 s8 h => ?_)
          obtain ⟨hz9, h⟩ := h
          have h := h hz9
          refine jx_if_eq 30 34 hX dX4_active_27 rfl (by decide) (fun hb10 => ?_) (fun hb10 => ?_)
          · have h := h.1 hb10
            refine jx_iconst 35 hX 0 (by decide) dX4_active_34 rfl (jx_iadd 36 hX dX4_active_35 rfl ?_)
            refine jx_topi (fun x11 hx11 => ?_)
            have h := h x11 hx11
            refine jx_istore_n 37 hX [(2, .int x11), (0, .ref (D.2.1 a0)), (1, .int a1), (3, .int a3)] rfl (by decide) rfl dX4_active_36 rfl ?_
            obtain ⟨x12, hx12⟩ : ∃ y : Int32, y = a3 + 1 := ⟨_, rfl⟩
            have h := h x12 hx12
            refine jx_iinc 40 hX 3 x12 [(3, .int x12), (2, .int x11), (0, .ref (D.2.1 a0)), (1, .int a1)] rfl (by rw [hx12]; exact congrArg (fun z => a3 + z) (by decide)) (by decide) rfl dX4_active_37 rfl (jx_goto 4 hX dX4_active_40 (by decide) ?_)
            exact jx_sub [2, 3, 1, 0] rfl (ih a0 a1 x11 x12 s8 h)
          · have h := h.2 hb10
            refine jx_iconst 31 hX 1 (by decide) dX4_active_30 rfl (jx_goto 35 hX dX4_active_31 (by decide) (jx_iadd 36 hX dX4_active_35 rfl ?_))
            refine jx_topi (fun x13 hx13 => ?_)
            have h := h x13 hx13
            refine jx_istore_n 37 hX [(2, .int x13), (0, .ref (D.2.1 a0)), (1, .int a1), (3, .int a3)] rfl (by decide) rfl dX4_active_36 rfl ?_
            obtain ⟨x14, hx14⟩ : ∃ y : Int32, y = a3 + 1 := ⟨_, rfl⟩
            have h := h x14 hx14
            refine jx_iinc 40 hX 3 x14 [(3, .int x14), (2, .int x13), (0, .ref (D.2.1 a0)), (1, .int a1)] rfl (by rw [hx14]; exact congrArg (fun z => a3 + z) (by decide)) (by decide) rfl dX4_active_37 rfl (jx_goto 4 hX dX4_active_40 (by decide) ?_)
            exact jx_sub [2, 3, 1, 0] rfl (ih a0 a1 x13 x14 s8 h)
  unfold wX4_active at h
  refine jx_iconst 1 hX 0 (by decide) dX4_active_0 rfl (jx_istore_n 2 hX [(2, .int 0), (0, .ref (D.2.1 a0)), (1, .int a1)] rfl (by decide) rfl dX4_active_1 rfl (jx_iconst 3 hX 1 (by decide) dX4_active_2 rfl (jx_istore_n 4 hX [(3, .int 1), (2, .int 0), (0, .ref (D.2.1 a0)), (1, .int a1)] rfl (by decide) rfl dX4_active_3 rfl ?_)))
  obtain ⟨n_, h⟩ := h
  exact jx_sub [2, 3, 1, 0] rfl (l4 n_ a0 a1 0 1 s h)
set_option maxHeartbeats 4000000 in
set_option maxRecDepth 100000 in
theorem mX4_activeOne (l : Launch) (D : jx_Dt) (post : Int32 → jx_St → Prop) (a0 : Nat) (a1 : Int32) (a2 : Int32) (s : jx_St) (h : wX4_activeOne post a0 a1 a2 s) : jx_Met l yX4_activeOne cX4_activeOne 6 (some .int) (jx_r 1 22) D jx_LM [.ref (D.2.1 a0), .int a1, .int a2] s (jx_Qi D jx_LM post) := by
  refine jx_ofJ (by decide) (Nat.le_of_ble_eq_true rfl) (fun X hl hX => ?_)
  subst hl
  replace hX : jx_K D jx_LM X cX4_activeOne RX4 6 (some .int) (jx_r 1 22) (jx_Qi D jx_LM post) := hX
  show jx_J D jx_LM X 0 [(0, .ref (D.2.1 a0)), (1, .int a1), (2, .int a2)] [] s
  have b44 : ∀ (k5_ : Nat → Int32 → Int32 → Int32 → Int32 → jx_St → Prop) (hk5_ : ∀ (a0 : Nat) (a1 : Int32) (a2 : Int32) (a3 : Int32) (a4 : Int32) (s : jx_St), k5_ a0 a1 a2 a3 a4 s → jx_J D jx_LM X 5 [(0, .ref (D.2.1 a0)), (1, .int a1), (2, .int a2), (3, .int a3), (4, .int a4)] [] s) (a0 : Nat) (a1 : Int32) (a2 : Int32) (a3 : Int32) (a4 : Int32) (a5 : Int32) (s : jx_St), wX4_activeOne_b44 post k5_ a0 a1 a2 a3 a4 a5 s → jx_J D jx_LM X 44 [(0, .ref (D.2.1 a0)), (1, .int a1), (2, .int a2), (3, .int a3), (4, .int a4), (5, .int a5)] [] s := by
    intro k5_ hk5_ a0 a1 a2 a3 a4 a5 s h
    unfold wX4_activeOne_b44 at h
    refine jx_iload_n 45 hX 3 rfl rfl dX4_activeOne_44 rfl (jx_iload 47 hX 5 rfl dX4_activeOne_45 rfl ?_)
    refine jx_if_eq 50 54 hX dX4_activeOne_47 rfl (by decide) (fun hb12 => ?_) (fun hb12 => ?_)
    · have h := h.1 hb12
      refine jx_iconst 55 hX 0 (by decide) dX4_activeOne_54 rfl (jx_iadd 56 hX dX4_activeOne_55 rfl ?_)
      refine jx_topi (fun x13 hx13 => ?_)
      have h := h x13 hx13
      refine jx_istore_n 57 hX [(3, .int x13), (0, .ref (D.2.1 a0)), (1, .int a1), (2, .int a2), (4, .int a4), (5, .int a5)] rfl (by decide) rfl dX4_activeOne_56 rfl ?_
      obtain ⟨x14, hx14⟩ : ∃ y : Int32, y = a4 + 1 := ⟨_, rfl⟩
      have h := h x14 hx14
      refine jx_iinc 60 hX 4 x14 [(4, .int x14), (3, .int x13), (0, .ref (D.2.1 a0)), (1, .int a1), (2, .int a2), (5, .int a5)] rfl (by rw [hx14]; exact congrArg (fun z => a4 + z) (by decide)) (by decide) rfl dX4_activeOne_57 rfl (jx_goto 5 hX dX4_activeOne_60 (by decide) ?_)
      exact jx_sub [2, 3, 4, 1, 0] rfl (hk5_ a0 a1 a2 x13 x14 s h)
    · have h := h.2 hb12
      refine jx_iconst 51 hX 1 (by decide) dX4_activeOne_50 rfl (jx_goto 55 hX dX4_activeOne_51 (by decide) (jx_iadd 56 hX dX4_activeOne_55 rfl ?_))
      refine jx_topi (fun x15 hx15 => ?_)
      have h := h x15 hx15
      refine jx_istore_n 57 hX [(3, .int x15), (0, .ref (D.2.1 a0)), (1, .int a1), (2, .int a2), (4, .int a4), (5, .int a5)] rfl (by decide) rfl dX4_activeOne_56 rfl ?_
      obtain ⟨x16, hx16⟩ : ∃ y : Int32, y = a4 + 1 := ⟨_, rfl⟩
      have h := h x16 hx16
      refine jx_iinc 60 hX 4 x16 [(4, .int x16), (3, .int x15), (0, .ref (D.2.1 a0)), (1, .int a1), (2, .int a2), (5, .int a5)] rfl (by rw [hx16]; exact congrArg (fun z => a4 + z) (by decide)) (by decide) rfl dX4_activeOne_57 rfl (jx_goto 5 hX dX4_activeOne_60 (by decide) ?_)
      exact jx_sub [2, 3, 4, 1, 0] rfl (hk5_ a0 a1 a2 x15 x16 s h)
  have l5 : ∀ (n : Nat) (a0 : Nat) (a1 : Int32) (a2 : Int32) (a3 : Int32) (a4 : Int32) (s : jx_St), wX4_activeOne_l5 post n a0 a1 a2 a3 a4 s → jx_J D jx_LM X 5 [(0, .ref (D.2.1 a0)), (1, .int a1), (2, .int a2), (3, .int a3), (4, .int a4)] [] s := by
    intro n
    induction n with
    | zero => intro a0 a1 a2 a3 a4 s h; exact h.elim
    | succ n ih =>
      intro a0 a1 a2 a3 a4 s h
      rw [wX4_activeOne_l5] at h
      refine jx_iload 7 hX 4 rfl dX4_activeOne_5 rfl (jx_aload_n 8 hX 0 rfl rfl dX4_activeOne_7 rfl ?_)
      obtain ⟨hc1, h⟩ := h
      refine jx_getI 11 hX jf_X4_214 rfl hc1 dX4_activeOne_8 rfl ?_
      refine jx_icmp_ge 14 63 hX dX4_activeOne_11 rfl (by decide) (fun hb2 => ?_) (fun hb2 => ?_)
      · have h := h.1 hb2
        refine jx_iconst 64 hX (-1) (by decide) dX4_activeOne_63 rfl ?_
        exact jx_iret hX dX4_activeOne_64 h
      · have h := h.2 hb2
        refine jx_aload_n 15 hX 0 rfl rfl dX4_activeOne_14 rfl (jx_iload_n 16 hX 1 rfl rfl dX4_activeOne_15 rfl ?_)
        refine jx_callVi 19 hX (mX4_isMinute _ D _ a0 a1 s h) jv_X4_235 jn_4 hc1 ⟨rfl, rfl, by decide, by decide⟩ rfl rfl (Nat.le_of_ble_eq_true rfl) dX4_activeOne_16 rfl (fun r3 s4 h => ?_)
        obtain ⟨hz5, h⟩ := h
        have h := h hz5
        refine jx_if_eq 22 63 hX dX4_activeOne_19 rfl (by decide) (fun hb6 => ?_) (fun hb6 => ?_)
        · have h := h.1 hb6
          refine jx_iconst 64 hX (-1) (by decide) dX4_activeOne_63 rfl ?_
          exact jx_iret hX dX4_activeOne_64 h
        · have h := h.2 hb6
          refine jx_aload_n 23 hX 0 rfl rfl dX4_activeOne_22 rfl (jx_iload 25 hX 4 rfl dX4_activeOne_23 rfl (jx_iload_n 26 hX 1 rfl rfl dX4_activeOne_25 rfl ?_))
          refine jx_callVi 29 hX (mX4_isActive _ D _ a0 a4 a1 s4 h) jv_X4_244 jn_4 hc1 ⟨rfl, rfl, by decide, by decide⟩ rfl rfl (Nat.le_of_ble_eq_true rfl) dX4_activeOne_26 rfl (fun r7 s8 h => ?_)
          obtain ⟨hz9, h⟩ := h
          have h := h hz9
          refine jx_istore 31 hX [(5, .int r7), (0, .ref (D.2.1 a0)), (1, .int a1), (2, .int a2), (3, .int a3), (4, .int a4)] (by decide) rfl dX4_activeOne_29 rfl (jx_iload 33 hX 0 rfl dX4_activeOne_31 rfl ?_)
          refine jx_if_eq 36 44 hX dX4_activeOne_33 rfl (by decide) (fun hb10 => ?_) (fun hb10 => ?_)
          · have h := h.1 hb10
            exact jx_sub [1, 2, 3, 4, 5, 0] rfl (b44 _ (fun z0 z1 z2 z3 z4 zs hz => ih z0 z1 z2 z3 z4 zs hz) a0 a1 a2 a3 a4 r7 s8 h)
          · have h := h.2 hb10
            refine jx_iload_n 37 hX 4 rfl rfl dX4_activeOne_36 rfl (jx_iload_n 38 hX 3 rfl rfl dX4_activeOne_37 rfl ?_)
            refine jx_icmp_ne 41 44 hX dX4_activeOne_38 rfl (by decide) (fun hb11 => ?_) (fun hb11 => ?_)
            · have h := h.1 hb11
              exact jx_sub [1, 2, 3, 4, 5, 0] rfl (b44 _ (fun z0 z1 z2 z3 z4 zs hz => ih z0 z1 z2 z3 z4 zs hz) a0 a1 a2 a3 a4 r7 s8 h)
            · have h := h.2 hb11
              refine jx_iload 43 hX 5 rfl dX4_activeOne_41 rfl ?_
              exact jx_iret hX dX4_activeOne_43 h
  unfold wX4_activeOne at h
  refine jx_iconst 1 hX 0 (by decide) dX4_activeOne_0 rfl (jx_istore_n 2 hX [(3, .int 0), (0, .ref (D.2.1 a0)), (1, .int a1), (2, .int a2)] rfl (by decide) rfl dX4_activeOne_1 rfl (jx_iconst 3 hX 1 (by decide) dX4_activeOne_2 rfl (jx_istore 5 hX [(4, .int 1), (3, .int 0), (0, .ref (D.2.1 a0)), (1, .int a1), (2, .int a2)] (by decide) rfl dX4_activeOne_3 rfl ?_)))
  obtain ⟨n_, h⟩ := h
  exact jx_sub [2, 3, 4, 1, 0] rfl (l5 n_ a0 a1 a2 0 1 s h)
set_option maxHeartbeats 4000000 in
set_option maxRecDepth 100000 in
theorem mX4_blank (l : Launch) (D : jx_Dt) (post : jx_St → Prop) (a0 : Nat) (s : jx_St) (h : wX4_blank post a0 s) : jx_Met l yX4_blank cX4_blank 2 none (jx_r 0 0) D jx_LM [.ref (D.2.1 a0)] s (jx_Qv D jx_LM post) := by
  refine jx_ofJ (by decide) (Nat.le_of_ble_eq_true rfl) (fun X hl hX => ?_)
  subst hl
  replace hX : jx_K D jx_LM X cX4_blank RX4 2 none (jx_r 0 0) (jx_Qv D jx_LM post) := hX
  show jx_J D jx_LM X 0 [(0, .ref (D.2.1 a0))] [] s
  have l2 : ∀ (n : Nat) (a0 : Nat) (a1 : Int32) (s : jx_St), wX4_blank_l2 post n a0 a1 s → jx_J D jx_LM X 2 [(0, .ref (D.2.1 a0)), (1, .int a1)] [] s := by
    intro n
    induction n with
    | zero => intro a0 a1 s h; exact h.elim
    | succ n ih =>
      intro a0 a1 s h
      rw [wX4_blank_l2] at h
      refine jx_iload_n 3 hX 1 rfl rfl dX4_blank_2 rfl (jx_bipush 5 hX 90 (by decide) dX4_blank_3 rfl ?_)
      refine jx_icmp_ge 8 33 hX dX4_blank_5 rfl (by decide) (fun hb1 => ?_) (fun hb1 => ?_)
      · have h := h.1 hb1
        exact jx_vret hX dX4_blank_33 h
      · have h := h.2 hb1
        refine jx_aload_n 9 hX 0 rfl rfl dX4_blank_8 rfl ?_
        obtain ⟨hc2, h⟩ := h
        refine jx_getR 12 hX jf_X4_22 rfl hc2 dX4_blank_9 rfl (jx_iload_n 13 hX 1 rfl rfl dX4_blank_12 rfl (jx_iload_n 14 hX 1 rfl rfl dX4_blank_13 rfl (jx_bipush 16 hX 10 (by decide) dX4_blank_14 rfl (jx_irem 17 hX (by decide) dX4_blank_16 rfl (jx_iconst 18 hX 2 (by decide) dX4_blank_17 rfl ?_)))))
        refine jx_icmp_ge 21 25 hX dX4_blank_18 rfl (by decide) (fun hb3 => ?_) (fun hb3 => ?_)
        · have h := h.1 hb3
          refine jx_iconst 26 hX (-1) (by decide) dX4_blank_25 rfl ?_
          obtain ⟨hc4, h⟩ := h
          refine jx_iastore 27 hX hc4 dX4_blank_26 rfl ?_
          refine jx_namu (fun s5 hs5 => ?_)
          have h := h s5 hs5
          obtain ⟨x6, hx6⟩ : ∃ y : Int32, y = a1 + 1 := ⟨_, rfl⟩
          have h := h x6 hx6
          refine jx_iinc 30 hX 1 x6 [(1, .int x6), (0, .ref (D.2.1 a0))] rfl (by rw [hx6]; exact congrArg (fun z => a1 + z) (by decide)) (by decide) rfl dX4_blank_27 rfl (jx_goto 2 hX dX4_blank_30 (by decide) ?_)
          exact jx_sub [1, 0] rfl (ih a0 x6 s5 h)
        · have h := h.2 hb3
          refine jx_iconst 22 hX 0 (by decide) dX4_blank_21 rfl (jx_goto 26 hX dX4_blank_22 (by decide) ?_)
          obtain ⟨hc7, h⟩ := h
          refine jx_iastore 27 hX hc7 dX4_blank_26 rfl ?_
          refine jx_namu (fun s8 hs8 => ?_)
          have h := h s8 hs8
          obtain ⟨x9, hx9⟩ : ∃ y : Int32, y = a1 + 1 := ⟨_, rfl⟩
          have h := h x9 hx9
          refine jx_iinc 30 hX 1 x9 [(1, .int x9), (0, .ref (D.2.1 a0))] rfl (by rw [hx9]; exact congrArg (fun z => a1 + z) (by decide)) (by decide) rfl dX4_blank_27 rfl (jx_goto 2 hX dX4_blank_30 (by decide) ?_)
          exact jx_sub [1, 0] rfl (ih a0 x9 s8 h)
  unfold wX4_blank at h
  refine jx_iconst 1 hX 0 (by decide) dX4_blank_0 rfl (jx_istore_n 2 hX [(1, .int 0), (0, .ref (D.2.1 a0))] rfl (by decide) rfl dX4_blank_1 rfl ?_)
  obtain ⟨n_, h⟩ := h
  exact jx_sub [1, 0] rfl (l2 n_ a0 0 s h)
set_option maxHeartbeats 4000000 in
set_option maxRecDepth 100000 in
theorem mX4_teller (l : Launch) (D : jx_Dt) (post : Int32 → jx_St → Prop) (a0 : Nat) (a1 : Int32) (a2 : Int32) (s : jx_St) (h : wX4_teller post a0 a1 a2 s) : jx_Met l yX4_teller cX4_teller 7 (some .int) (jx_r 0 0) D jx_LM [.ref (D.2.1 a0), .int a1, .int a2] s (jx_Qi D jx_LM post) := by
  refine jx_ofJ (by decide) (Nat.le_of_ble_eq_true rfl) (fun X hl hX => ?_)
  subst hl
  replace hX : jx_K D jx_LM X cX4_teller RX4 7 (some .int) (jx_r 0 0) (jx_Qi D jx_LM post) := hX
  show jx_J D jx_LM X 0 [(0, .ref (D.2.1 a0)), (1, .int a1), (2, .int a2)] [] s
  have b102 : ∀ (k5_ : Nat → Int32 → Int32 → Int32 → Int32 → jx_St → Prop) (hk5_ : ∀ (a0 : Nat) (a1 : Int32) (a2 : Int32) (a3 : Int32) (a4 : Int32) (s : jx_St), k5_ a0 a1 a2 a3 a4 s → jx_J D jx_LM X 5 [(0, .ref (D.2.1 a0)), (1, .int a1), (2, .int a2), (3, .int a3), (4, .int a4)] [] s) (a0 : Nat) (a1 : Int32) (a2 : Int32) (a3 : Int32) (a4 : Int32) (a5 : Int32) (k0 : Int32) (s : jx_St), wX4_teller_b102 post k5_ a0 a1 a2 a3 a4 a5 k0 s → jx_J D jx_LM X 102 [(0, .ref (D.2.1 a0)), (1, .int a1), (2, .int a2), (3, .int a3), (4, .int a4), (5, .int a5)] [.int k0] s := by
    intro k5_ hk5_ a0 a1 a2 a3 a4 a5 k0 s h
    unfold wX4_teller_b102 at h
    refine jx_istore 104 hX [(6, .int k0), (0, .ref (D.2.1 a0)), (1, .int a1), (2, .int a2), (3, .int a3), (4, .int a4), (5, .int a5)] (by decide) rfl dX4_teller_102 rfl (jx_iload 106 hX 6 rfl dX4_teller_104 rfl ?_)
    refine jx_if_ne 109 114 hX dX4_teller_106 rfl (by decide) (fun hb14 => ?_) (fun hb14 => ?_)
    · have h := h.1 hb14
      refine jx_iload 116 hX 5 rfl dX4_teller_114 rfl (jx_goto 120 hX dX4_teller_116 (by decide) (jx_istore_n 121 hX [(3, .int a4), (6, .int k0), (0, .ref (D.2.1 a0)), (1, .int a1), (2, .int a2), (4, .int a4), (5, .int a5)] rfl (by decide) rfl dX4_teller_120 rfl ?_))
      obtain ⟨x15, hx15⟩ : ∃ y : Int32, y = a4 + 1 := ⟨_, rfl⟩
      have h := h x15 hx15
      refine jx_iinc 124 hX 5 x15 [(4, .int x15), (3, .int a4), (6, .int k0), (0, .ref (D.2.1 a0)), (1, .int a1), (2, .int a2), (5, .int a5)] rfl (by rw [hx15]; exact congrArg (fun z => a4 + z) (by decide)) (by decide) rfl dX4_teller_121 rfl (jx_goto 5 hX dX4_teller_124 (by decide) ?_)
      exact jx_sub [3, 4, 5, 1, 0] rfl (hk5_ a0 a1 a2 a4 x15 s h)
    · have h := h.2 hb14
      refine jx_iload 111 hX 0 rfl dX4_teller_109 rfl ?_
      refine jx_if_eq 114 119 hX dX4_teller_111 rfl (by decide) (fun hb16 => ?_) (fun hb16 => ?_)
      · have h := h.1 hb16
        refine jx_iload_n 120 hX 4 rfl rfl dX4_teller_119 rfl (jx_istore_n 121 hX [(3, .int a3), (6, .int k0), (0, .ref (D.2.1 a0)), (1, .int a1), (2, .int a2), (4, .int a4), (5, .int a5)] rfl (by decide) rfl dX4_teller_120 rfl ?_)
        obtain ⟨x17, hx17⟩ : ∃ y : Int32, y = a4 + 1 := ⟨_, rfl⟩
        have h := h x17 hx17
        refine jx_iinc 124 hX 5 x17 [(4, .int x17), (3, .int a3), (6, .int k0), (0, .ref (D.2.1 a0)), (1, .int a1), (2, .int a2), (5, .int a5)] rfl (by rw [hx17]; exact congrArg (fun z => a4 + z) (by decide)) (by decide) rfl dX4_teller_121 rfl (jx_goto 5 hX dX4_teller_124 (by decide) ?_)
        exact jx_sub [3, 4, 5, 1, 0] rfl (hk5_ a0 a1 a2 a3 x17 s h)
      · have h := h.2 hb16
        refine jx_iload 116 hX 5 rfl dX4_teller_114 rfl (jx_goto 120 hX dX4_teller_116 (by decide) (jx_istore_n 121 hX [(3, .int a4), (6, .int k0), (0, .ref (D.2.1 a0)), (1, .int a1), (2, .int a2), (4, .int a4), (5, .int a5)] rfl (by decide) rfl dX4_teller_120 rfl ?_))
        obtain ⟨x18, hx18⟩ : ∃ y : Int32, y = a4 + 1 := ⟨_, rfl⟩
        have h := h x18 hx18
        refine jx_iinc 124 hX 5 x18 [(4, .int x18), (3, .int a4), (6, .int k0), (0, .ref (D.2.1 a0)), (1, .int a1), (2, .int a2), (5, .int a5)] rfl (by rw [hx18]; exact congrArg (fun z => a4 + z) (by decide)) (by decide) rfl dX4_teller_121 rfl (jx_goto 5 hX dX4_teller_124 (by decide) ?_)
        exact jx_sub [3, 4, 5, 1, 0] rfl (hk5_ a0 a1 a2 a4 x18 s h)
  have b49 : ∀ (k5_ : Nat → Int32 → Int32 → Int32 → Int32 → jx_St → Prop) (hk5_ : ∀ (a0 : Nat) (a1 : Int32) (a2 : Int32) (a3 : Int32) (a4 : Int32) (s : jx_St), k5_ a0 a1 a2 a3 a4 s → jx_J D jx_LM X 5 [(0, .ref (D.2.1 a0)), (1, .int a1), (2, .int a2), (3, .int a3), (4, .int a4)] [] s) (a0 : Nat) (a1 : Int32) (a2 : Int32) (a3 : Int32) (a4 : Int32) (k0 : Int32) (s : jx_St), wX4_teller_b49 post k5_ a0 a1 a2 a3 a4 k0 s → jx_J D jx_LM X 49 [(0, .ref (D.2.1 a0)), (1, .int a1), (2, .int a2), (3, .int a3), (4, .int a4)] [.int k0] s := by
    intro k5_ hk5_ a0 a1 a2 a3 a4 k0 s h
    unfold wX4_teller_b49 at h
    refine jx_istore 51 hX [(5, .int k0), (0, .ref (D.2.1 a0)), (1, .int a1), (2, .int a2), (3, .int a3), (4, .int a4)] (by decide) rfl dX4_teller_49 rfl (jx_aload_n 52 hX 1 rfl rfl dX4_teller_51 rfl ?_)
    obtain ⟨hc7, h⟩ := h
    refine jx_getR 55 hX jf_X4_34 rfl hc7 dX4_teller_52 rfl (jx_bipush 57 hX 10 (by decide) dX4_teller_55 rfl (jx_iload 59 hX 5 rfl dX4_teller_57 rfl (jx_imul 60 hX dX4_teller_59 rfl ?_)))
    obtain ⟨hc8, h⟩ := h
    refine jx_iaload 61 hX hc8 dX4_teller_60 rfl (jx_iconst 62 hX 2 (by decide) dX4_teller_61 rfl ?_)
    refine jx_icmp_ne 65 101 hX dX4_teller_62 rfl (by decide) (fun hb9 => ?_) (fun hb9 => ?_)
    · have h := h.1 hb9
      refine jx_iconst 102 hX 0 (by decide) dX4_teller_101 rfl ?_
      exact jx_sub [1, 2, 3, 4, 5, 0] rfl (b102 _ hk5_ a0 a1 a2 a3 a4 k0 0 s h)
    · have h := h.2 hb9
      refine jx_iload_n 66 hX 2 rfl rfl dX4_teller_65 rfl (jx_aload_n 67 hX 1 rfl rfl dX4_teller_66 rfl (jx_getR 70 hX jf_X4_34 rfl hc7 dX4_teller_67 rfl (jx_bipush 72 hX 10 (by decide) dX4_teller_70 rfl (jx_iload 74 hX 5 rfl dX4_teller_72 rfl (jx_imul 75 hX dX4_teller_74 rfl ?_)))))
      refine jx_iconst 76 hX 3 (by decide) dX4_teller_75 rfl (jx_iadd 77 hX dX4_teller_76 rfl ?_)
      obtain ⟨hc10, h⟩ := h
      refine jx_iaload 78 hX hc10 dX4_teller_77 rfl ?_
      refine jx_icmp_lt 81 101 hX dX4_teller_78 rfl (by decide) (fun hb11 => ?_) (fun hb11 => ?_)
      · have h := h.1 hb11
        refine jx_iconst 102 hX 0 (by decide) dX4_teller_101 rfl ?_
        exact jx_sub [1, 2, 3, 4, 5, 0] rfl (b102 _ hk5_ a0 a1 a2 a3 a4 k0 0 s h)
      · have h := h.2 hb11
        refine jx_aload_n 82 hX 1 rfl rfl dX4_teller_81 rfl (jx_getR 85 hX jf_X4_34 rfl hc7 dX4_teller_82 rfl (jx_bipush 87 hX 10 (by decide) dX4_teller_85 rfl (jx_iload 89 hX 5 rfl dX4_teller_87 rfl (jx_imul 90 hX dX4_teller_89 rfl (jx_iload_n 91 hX 3 rfl rfl dX4_teller_90 rfl ?_)))))
        refine jx_iadd 92 hX dX4_teller_91 rfl ?_
        obtain ⟨hc12, h⟩ := h
        refine jx_iaload 93 hX hc12 dX4_teller_92 rfl (jx_iconst 94 hX (-1) (by decide) dX4_teller_93 rfl ?_)
        refine jx_icmp_eq 97 101 hX dX4_teller_94 rfl (by decide) (fun hb13 => ?_) (fun hb13 => ?_)
        · have h := h.1 hb13
          refine jx_iconst 102 hX 0 (by decide) dX4_teller_101 rfl ?_
          exact jx_sub [1, 2, 3, 4, 5, 0] rfl (b102 _ hk5_ a0 a1 a2 a3 a4 k0 0 s h)
        · have h := h.2 hb13
          refine jx_iconst 98 hX 1 (by decide) dX4_teller_97 rfl (jx_goto 102 hX dX4_teller_98 (by decide) ?_)
          exact jx_sub [1, 2, 3, 4, 5, 0] rfl (b102 _ hk5_ a0 a1 a2 a3 a4 k0 1 s h)
  have l5 : ∀ (n : Nat) (a0 : Nat) (a1 : Int32) (a2 : Int32) (a3 : Int32) (a4 : Int32) (s : jx_St), wX4_teller_l5 post n a0 a1 a2 a3 a4 s → jx_J D jx_LM X 5 [(0, .ref (D.2.1 a0)), (1, .int a1), (2, .int a2), (3, .int a3), (4, .int a4)] [] s := by
    intro n
    induction n with
    | zero => intro a0 a1 a2 a3 a4 s h; exact h.elim
    | succ n ih =>
      intro a0 a1 a2 a3 a4 s h
      rw [wX4_teller_l5] at h
      refine jx_iload 7 hX 4 rfl dX4_teller_5 rfl (jx_aload_n 8 hX 0 rfl rfl dX4_teller_7 rfl ?_)
      obtain ⟨hc1, h⟩ := h
      refine jx_getI 11 hX jf_X4_214 rfl hc1 dX4_teller_8 rfl ?_
      refine jx_icmp_ge 14 127 hX dX4_teller_11 rfl (by decide) (fun hb2 => ?_) (fun hb2 => ?_)
      · have h := h.1 hb2
        refine jx_iload_n 128 hX 3 rfl rfl dX4_teller_127 rfl ?_
        exact jx_iret hX dX4_teller_128 h
      · have h := h.2 hb2
        refine jx_aload_n 15 hX 0 rfl rfl dX4_teller_14 rfl (jx_getR 18 hX jf_X4_34 rfl hc1 dX4_teller_15 rfl (jx_bipush 20 hX 10 (by decide) dX4_teller_18 rfl (jx_iload 22 hX 4 rfl dX4_teller_20 rfl (jx_imul 23 hX dX4_teller_22 rfl ?_))))
        obtain ⟨hc3, h⟩ := h
        refine jx_iaload 24 hX hc3 dX4_teller_23 rfl (jx_iconst 25 hX 1 (by decide) dX4_teller_24 rfl ?_)
        refine jx_icmp_ne 28 48 hX dX4_teller_25 rfl (by decide) (fun hb4 => ?_) (fun hb4 => ?_)
        · have h := h.1 hb4
          refine jx_iconst 49 hX 0 (by decide) dX4_teller_48 rfl ?_
          exact jx_sub [0, 1, 2, 3, 4] rfl (b49 _ (fun z0 z1 z2 z3 z4 zs hz => ih z0 z1 z2 z3 z4 zs hz) a0 a1 a2 a3 a4 0 s h)
        · have h := h.2 hb4
          refine jx_iload_n 29 hX 1 rfl rfl dX4_teller_28 rfl (jx_aload_n 30 hX 0 rfl rfl dX4_teller_29 rfl (jx_getR 33 hX jf_X4_34 rfl hc1 dX4_teller_30 rfl (jx_bipush 35 hX 10 (by decide) dX4_teller_33 rfl (jx_iload 37 hX 4 rfl dX4_teller_35 rfl (jx_imul 38 hX dX4_teller_37 rfl ?_)))))
          refine jx_iconst 39 hX 2 (by decide) dX4_teller_38 rfl (jx_iadd 40 hX dX4_teller_39 rfl ?_)
          obtain ⟨hc5, h⟩ := h
          refine jx_iaload 41 hX hc5 dX4_teller_40 rfl ?_
          refine jx_icmp_lt 44 48 hX dX4_teller_41 rfl (by decide) (fun hb6 => ?_) (fun hb6 => ?_)
          · have h := h.1 hb6
            refine jx_iconst 49 hX 0 (by decide) dX4_teller_48 rfl ?_
            exact jx_sub [0, 1, 2, 3, 4] rfl (b49 _ (fun z0 z1 z2 z3 z4 zs hz => ih z0 z1 z2 z3 z4 zs hz) a0 a1 a2 a3 a4 0 s h)
          · have h := h.2 hb6
            refine jx_iconst 45 hX 1 (by decide) dX4_teller_44 rfl (jx_goto 49 hX dX4_teller_45 (by decide) ?_)
            exact jx_sub [0, 1, 2, 3, 4] rfl (b49 _ (fun z0 z1 z2 z3 z4 zs hz => ih z0 z1 z2 z3 z4 zs hz) a0 a1 a2 a3 a4 1 s h)
  unfold wX4_teller at h
  refine jx_iconst 1 hX 0 (by decide) dX4_teller_0 rfl (jx_istore_n 2 hX [(3, .int 0), (0, .ref (D.2.1 a0)), (1, .int a1), (2, .int a2)] rfl (by decide) rfl dX4_teller_1 rfl (jx_iconst 3 hX 1 (by decide) dX4_teller_2 rfl (jx_istore 5 hX [(4, .int 1), (3, .int 0), (0, .ref (D.2.1 a0)), (1, .int a1), (2, .int a2)] (by decide) rfl dX4_teller_3 rfl ?_)))
  obtain ⟨n_, h⟩ := h
  exact jx_sub [2, 3, 4, 1, 0] rfl (l5 n_ a0 a1 a2 0 1 s h)
set_option maxHeartbeats 4000000 in
set_option maxRecDepth 100000 in
theorem mX4_lowest (l : Launch) (D : jx_Dt) (post : Int32 → jx_St → Prop) (a0 : Nat) (a1 : Int32) (a2 : Int32) (s : jx_St) (h : wX4_lowest post a0 a1 a2 s) : jx_Met l yX4_lowest cX4_lowest 7 (some .int) (jx_r 0 0) D jx_LM [.ref (D.2.1 a0), .int a1, .int a2] s (jx_Qi D jx_LM post) := by
  refine jx_ofJ (by decide) (Nat.le_of_ble_eq_true rfl) (fun X hl hX => ?_)
  subst hl
  replace hX : jx_K D jx_LM X cX4_lowest RX4 7 (some .int) (jx_r 0 0) (jx_Qi D jx_LM post) := hX
  show jx_J D jx_LM X 0 [(0, .ref (D.2.1 a0)), (1, .int a1), (2, .int a2)] [] s
  have l5 : ∀ (n : Nat) (a0 : Nat) (a1 : Int32) (a3 : Int32) (a4 : Int32) (s : jx_St), wX4_lowest_l5 post n a0 a1 a3 a4 s → jx_J D jx_LM X 5 [(0, .ref (D.2.1 a0)), (1, .int a1), (3, .int a3), (4, .int a4)] [] s := by
    intro n
    induction n with
    | zero => intro a0 a1 a3 a4 s h; exact h.elim
    | succ n ih =>
      intro a0 a1 a3 a4 s h
      rw [wX4_lowest_l5] at h
      refine jx_iload 7 hX 3 rfl dX4_lowest_5 rfl (jx_aload_n 8 hX 0 rfl rfl dX4_lowest_7 rfl ?_)
      obtain ⟨hc1, h⟩ := h
      refine jx_getR 11 hX jf_X4_34 rfl hc1 dX4_lowest_8 rfl (jx_bipush 13 hX 10 (by decide) dX4_lowest_11 rfl (jx_iload_n 14 hX 1 rfl rfl dX4_lowest_13 rfl (jx_imul 15 hX dX4_lowest_14 rfl (jx_bipush 17 hX 9 (by decide) dX4_lowest_15 rfl (jx_iadd 18 hX dX4_lowest_17 rfl ?_)))))
      obtain ⟨hc2, h⟩ := h
      refine jx_iaload 19 hX hc2 dX4_lowest_18 rfl ?_
      refine jx_icmp_ge 22 74 hX dX4_lowest_19 rfl (by decide) (fun hb3 => ?_) (fun hb3 => ?_)
      · have h := h.1 hb3
        refine jx_iload_n 75 hX 2 rfl rfl dX4_lowest_74 rfl ?_
        exact jx_iret hX dX4_lowest_75 h
      · have h := h.2 hb3
        refine jx_aload_n 23 hX 0 rfl rfl dX4_lowest_22 rfl (jx_getR 26 hX jf_X4_40 rfl hc1 dX4_lowest_23 rfl (jx_iconst 27 hX 4 (by decide) dX4_lowest_26 rfl (jx_iload_n 28 hX 1 rfl rfl dX4_lowest_27 rfl (jx_imul 29 hX dX4_lowest_28 rfl (jx_iload 31 hX 3 rfl dX4_lowest_29 rfl ?_)))))
        refine jx_iadd 32 hX dX4_lowest_31 rfl ?_
        obtain ⟨hc4, h⟩ := h
        refine jx_iaload 33 hX hc4 dX4_lowest_32 rfl ?_
        refine jx_topi (fun x5 hx5 => ?_)
        have h := h x5 hx5
        refine jx_istore 35 hX [(5, .int x5), (0, .ref (D.2.1 a0)), (1, .int a1), (3, .int a3), (4, .int a4)] (by decide) rfl dX4_lowest_33 rfl (jx_iload 37 hX 0 rfl dX4_lowest_35 rfl (jx_sipush 40 hX 8192 (by decide) dX4_lowest_37 rfl (jx_irem 41 hX (by decide) dX4_lowest_40 rfl (jx_bipush 43 hX 8 (by decide) dX4_lowest_41 rfl (jx_idiv 44 hX (by decide) dX4_lowest_43 rfl ?_)))))
        refine jx_topi (fun x6 hx6 => ?_)
        have h := h x6 hx6
        refine jx_istore 46 hX [(6, .int x6), (5, .int x5), (0, .ref (D.2.1 a0)), (1, .int a1), (3, .int a3), (4, .int a4)] (by decide) rfl dX4_lowest_44 rfl (jx_iload 48 hX 1 rfl dX4_lowest_46 rfl (jx_bipush 50 hX 8 (by decide) dX4_lowest_48 rfl (jx_irem 51 hX (by decide) dX4_lowest_50 rfl (jx_iconst 52 hX 3 (by decide) dX4_lowest_51 rfl ?_))))
        refine jx_icmp_lt 55 66 hX dX4_lowest_52 rfl (by decide) (fun hb7 => ?_) (fun hb7 => ?_)
        · have h := h.1 hb7
          refine jx_iload_n 67 hX 4 rfl rfl dX4_lowest_66 rfl (jx_istore_n 68 hX [(3, .int a3), (6, .int x6), (5, .int x5), (0, .ref (D.2.1 a0)), (1, .int a1), (4, .int a4)] rfl (by decide) rfl dX4_lowest_67 rfl ?_)
          obtain ⟨x8, hx8⟩ : ∃ y : Int32, y = a4 + 1 := ⟨_, rfl⟩
          have h := h x8 hx8
          refine jx_iinc 71 hX 5 x8 [(4, .int x8), (3, .int a3), (6, .int x6), (5, .int x5), (0, .ref (D.2.1 a0)), (1, .int a1)] rfl (by rw [hx8]; exact congrArg (fun z => a4 + z) (by decide)) (by decide) rfl dX4_lowest_68 rfl (jx_goto 5 hX dX4_lowest_71 (by decide) ?_)
          exact jx_sub [4, 5, 1, 0] rfl (ih a0 a1 a3 x8 s h)
        · have h := h.2 hb7
          refine jx_iload 57 hX 0 rfl dX4_lowest_55 rfl (jx_iload_n 58 hX 4 rfl rfl dX4_lowest_57 rfl ?_)
          refine jx_icmp_ge 61 66 hX dX4_lowest_58 rfl (by decide) (fun hb9 => ?_) (fun hb9 => ?_)
          · have h := h.1 hb9
            refine jx_iload_n 67 hX 4 rfl rfl dX4_lowest_66 rfl (jx_istore_n 68 hX [(3, .int a3), (6, .int x6), (5, .int x5), (0, .ref (D.2.1 a0)), (1, .int a1), (4, .int a4)] rfl (by decide) rfl dX4_lowest_67 rfl ?_)
            obtain ⟨x10, hx10⟩ : ∃ y : Int32, y = a4 + 1 := ⟨_, rfl⟩
            have h := h x10 hx10
            refine jx_iinc 71 hX 5 x10 [(4, .int x10), (3, .int a3), (6, .int x6), (5, .int x5), (0, .ref (D.2.1 a0)), (1, .int a1)] rfl (by rw [hx10]; exact congrArg (fun z => a4 + z) (by decide)) (by decide) rfl dX4_lowest_68 rfl (jx_goto 5 hX dX4_lowest_71 (by decide) ?_)
            exact jx_sub [4, 5, 1, 0] rfl (ih a0 a1 a3 x10 s h)
          · have h := h.2 hb9
            refine jx_iload 63 hX 0 rfl dX4_lowest_61 rfl (jx_goto 67 hX dX4_lowest_63 (by decide) (jx_istore_n 68 hX [(3, .int x6), (6, .int x6), (5, .int x5), (0, .ref (D.2.1 a0)), (1, .int a1), (4, .int a4)] rfl (by decide) rfl dX4_lowest_67 rfl ?_))
            obtain ⟨x11, hx11⟩ : ∃ y : Int32, y = a4 + 1 := ⟨_, rfl⟩
            have h := h x11 hx11
            refine jx_iinc 71 hX 5 x11 [(4, .int x11), (3, .int x6), (6, .int x6), (5, .int x5), (0, .ref (D.2.1 a0)), (1, .int a1)] rfl (by rw [hx11]; exact congrArg (fun z => a4 + z) (by decide)) (by decide) rfl dX4_lowest_68 rfl (jx_goto 5 hX dX4_lowest_71 (by decide) ?_)
            exact jx_sub [4, 5, 1, 0] rfl (ih a0 a1 x6 x11 s h)
  unfold wX4_lowest at h
  refine jx_iload_n 1 hX 2 rfl rfl dX4_lowest_0 rfl (jx_istore_n 2 hX [(3, .int a2), (0, .ref (D.2.1 a0)), (1, .int a1), (2, .int a2)] rfl (by decide) rfl dX4_lowest_1 rfl (jx_iconst 3 hX 0 (by decide) dX4_lowest_2 rfl (jx_istore 5 hX [(4, .int 0), (3, .int a2), (0, .ref (D.2.1 a0)), (1, .int a1), (2, .int a2)] (by decide) rfl dX4_lowest_3 rfl ?_)))
  obtain ⟨n_, h⟩ := h
  exact jx_sub [2, 3, 1, 0] rfl (l5 n_ a0 a1 a2 0 s h)
set_option maxHeartbeats 4000000 in
set_option maxRecDepth 100000 in
theorem mX4_ceiling (l : Launch) (D : jx_Dt) (post : Int32 → jx_St → Prop) (a0 : Nat) (a1 : Int32) (a2 : Int32) (s : jx_St) (h : wX4_ceiling post a0 a1 a2 s) : jx_Met l yX4_ceiling cX4_ceiling 5 (some .int) (jx_r 1 26) D jx_LM [.ref (D.2.1 a0), .int a1, .int a2] s (jx_Qi D jx_LM post) := by
  refine jx_ofJ (by decide) (Nat.le_of_ble_eq_true rfl) (fun X hl hX => ?_)
  subst hl
  replace hX : jx_K D jx_LM X cX4_ceiling RX4 5 (some .int) (jx_r 1 26) (jx_Qi D jx_LM post) := hX
  show jx_J D jx_LM X 0 [(0, .ref (D.2.1 a0)), (1, .int a1), (2, .int a2)] [] s
  have l37 : ∀ (n : Nat) (a0 : Nat) (a1 : Int32) (a2 : Int32) (a3 : Int32) (a4 : Int32) (s : jx_St), wX4_ceiling_l37 post n a0 a1 a2 a3 a4 s → jx_J D jx_LM X 37 [(0, .ref (D.2.1 a0)), (1, .int a1), (2, .int a2), (3, .int a3), (4, .int a4)] [] s := by
    intro n
    induction n with
    | zero => intro a0 a1 a2 a3 a4 s h; exact h.elim
    | succ n ih =>
      intro a0 a1 a2 a3 a4 s h
      rw [wX4_ceiling_l37] at h
      refine jx_iload 39 hX 4 rfl dX4_ceiling_37 rfl (jx_aload_n 40 hX 0 rfl rfl dX4_ceiling_39 rfl ?_)
      obtain ⟨hc12, h⟩ := h
      refine jx_getI 43 hX jf_X4_214 rfl hc12 dX4_ceiling_40 rfl ?_
      refine jx_icmp_ge 46 79 hX dX4_ceiling_43 rfl (by decide) (fun hb13 => ?_) (fun hb13 => ?_)
      · have h := h.1 hb13
        refine jx_iload_n 80 hX 3 rfl rfl dX4_ceiling_79 rfl (jx_sipush 83 hX 1000 (by decide) dX4_ceiling_80 rfl ?_)
        refine jx_icmp_ne 86 91 hX dX4_ceiling_83 rfl (by decide) (fun hb14 => ?_) (fun hb14 => ?_)
        · have h := h.1 hb14
          refine jx_iload_n 92 hX 3 rfl rfl dX4_ceiling_91 rfl ?_
          exact jx_iret hX dX4_ceiling_92 h
        · have h := h.2 hb14
          refine jx_bipush 88 hX (-2) (by decide) dX4_ceiling_86 rfl (jx_goto 92 hX dX4_ceiling_88 (by decide) ?_)
          exact jx_iret hX dX4_ceiling_92 h
      · have h := h.2 hb13
        refine jx_iload_n 47 hX 2 rfl rfl dX4_ceiling_46 rfl (jx_iconst 48 hX 1 (by decide) dX4_ceiling_47 rfl ?_)
        refine jx_icmp_ne 51 79 hX dX4_ceiling_48 rfl (by decide) (fun hb15 => ?_) (fun hb15 => ?_)
        · have h := h.1 hb15
          refine jx_iload_n 80 hX 3 rfl rfl dX4_ceiling_79 rfl (jx_sipush 83 hX 1000 (by decide) dX4_ceiling_80 rfl ?_)
          refine jx_icmp_ne 86 91 hX dX4_ceiling_83 rfl (by decide) (fun hb16 => ?_) (fun hb16 => ?_)
          · have h := h.1 hb16
            refine jx_iload_n 92 hX 3 rfl rfl dX4_ceiling_91 rfl ?_
            exact jx_iret hX dX4_ceiling_92 h
          · have h := h.2 hb16
            refine jx_bipush 88 hX (-2) (by decide) dX4_ceiling_86 rfl (jx_goto 92 hX dX4_ceiling_88 (by decide) ?_)
            exact jx_iret hX dX4_ceiling_92 h
        · have h := h.2 hb15
          refine jx_aload_n 52 hX 0 rfl rfl dX4_ceiling_51 rfl (jx_iload 54 hX 4 rfl dX4_ceiling_52 rfl (jx_iload_n 55 hX 1 rfl rfl dX4_ceiling_54 rfl ?_))
          refine jx_callVi 58 hX (mX4_isActive _ D _ a0 a4 a1 s h) jv_X4_244 jn_4 hc12 ⟨rfl, rfl, by decide, by decide⟩ rfl rfl (Nat.le_of_ble_eq_true rfl) dX4_ceiling_55 rfl (fun r17 s18 h => ?_)
          obtain ⟨hz19, h⟩ := h
          have h := h hz19
          refine jx_if_eq 61 71 hX dX4_ceiling_58 rfl (by decide) (fun hb20 => ?_) (fun hb20 => ?_)
          · have h := h.1 hb20
            refine jx_iload_n 72 hX 3 rfl rfl dX4_ceiling_71 rfl (jx_istore_n 73 hX [(3, .int a3), (0, .ref (D.2.1 a0)), (1, .int a1), (2, .int a2), (4, .int a4)] rfl (by decide) rfl dX4_ceiling_72 rfl ?_)
            obtain ⟨x21, hx21⟩ : ∃ y : Int32, y = a4 + 1 := ⟨_, rfl⟩
            have h := h x21 hx21
            refine jx_iinc 76 hX 4 x21 [(4, .int x21), (3, .int a3), (0, .ref (D.2.1 a0)), (1, .int a1), (2, .int a2)] rfl (by rw [hx21]; exact congrArg (fun z => a4 + z) (by decide)) (by decide) rfl dX4_ceiling_73 rfl (jx_goto 37 hX dX4_ceiling_76 (by decide) ?_)
            exact jx_sub [2, 3, 4, 1, 0] rfl (ih a0 a1 a2 a3 x21 s18 h)
          · have h := h.2 hb20
            refine jx_aload_n 62 hX 0 rfl rfl dX4_ceiling_61 rfl (jx_iload 64 hX 4 rfl dX4_ceiling_62 rfl (jx_iload_n 65 hX 3 rfl rfl dX4_ceiling_64 rfl ?_))
            refine jx_callVi 68 hX (mX4_lowest _ D _ a0 a4 a3 s18 h) jv_X4_247 jn_4 hc12 ⟨rfl, rfl, by decide, by decide⟩ rfl rfl (Nat.le_of_ble_eq_true rfl) dX4_ceiling_65 rfl (fun r22 s23 h => ?_)
            refine jx_goto 72 hX dX4_ceiling_68 (by decide) (jx_istore_n 73 hX [(3, .int r22), (0, .ref (D.2.1 a0)), (1, .int a1), (2, .int a2), (4, .int a4)] rfl (by decide) rfl dX4_ceiling_72 rfl ?_)
            obtain ⟨x24, hx24⟩ : ∃ y : Int32, y = a4 + 1 := ⟨_, rfl⟩
            have h := h x24 hx24
            refine jx_iinc 76 hX 4 x24 [(4, .int x24), (3, .int r22), (0, .ref (D.2.1 a0)), (1, .int a1), (2, .int a2)] rfl (by rw [hx24]; exact congrArg (fun z => a4 + z) (by decide)) (by decide) rfl dX4_ceiling_73 rfl (jx_goto 37 hX dX4_ceiling_76 (by decide) ?_)
            exact jx_sub [2, 3, 4, 1, 0] rfl (ih a0 a1 a2 r22 x24 s23 h)
  unfold wX4_ceiling at h
  refine jx_aload_n 1 hX 0 rfl rfl dX4_ceiling_0 rfl (jx_iload_n 2 hX 1 rfl rfl dX4_ceiling_1 rfl ?_)
  obtain ⟨hc1, h⟩ := h
  refine jx_callVi 5 hX (mX4_isMinute _ D _ a0 a1 s h) jv_X4_235 jn_4 hc1 ⟨rfl, rfl, by decide, by decide⟩ rfl rfl (Nat.le_of_ble_eq_true rfl) dX4_ceiling_2 rfl (fun r2 s3 h => ?_)
  obtain ⟨hz4, h⟩ := h
  have h := h hz4
  refine jx_if_eq 8 17 hX dX4_ceiling_5 rfl (by decide) (fun hb5 => ?_) (fun hb5 => ?_)
  · have h := h.1 hb5
    refine jx_iconst 18 hX (-1) (by decide) dX4_ceiling_17 rfl ?_
    exact jx_iret hX dX4_ceiling_18 h
  · have h := h.2 hb5
    refine jx_iload_n 9 hX 2 rfl rfl dX4_ceiling_8 rfl ?_
    refine jx_if_lt 12 17 hX dX4_ceiling_9 rfl (by decide) (fun hb6 => ?_) (fun hb6 => ?_)
    · have h := h.1 hb6
      refine jx_iconst 18 hX (-1) (by decide) dX4_ceiling_17 rfl ?_
      exact jx_iret hX dX4_ceiling_18 h
    · have h := h.2 hb6
      refine jx_iload_n 13 hX 2 rfl rfl dX4_ceiling_12 rfl (jx_iconst 14 hX 1 (by decide) dX4_ceiling_13 rfl ?_)
      refine jx_icmp_le 17 19 hX dX4_ceiling_14 rfl (by decide) (fun hb7 => ?_) (fun hb7 => ?_)
      · have h := h.1 hb7
        refine jx_aload_n 20 hX 0 rfl rfl dX4_ceiling_19 rfl (jx_aload_n 21 hX 0 rfl rfl dX4_ceiling_20 rfl (jx_iload_n 22 hX 1 rfl rfl dX4_ceiling_21 rfl (jx_bipush 24 hX 9 (by decide) dX4_ceiling_22 rfl ?_)))
        refine jx_callVi 27 hX (mX4_teller _ D _ a0 a1 9 s3 h) jv_X4_241 jn_4 hc1 ⟨rfl, rfl, by decide, by decide⟩ rfl rfl (Nat.le_of_ble_eq_true rfl) dX4_ceiling_24 rfl (fun r8 s9 h => ?_)
        refine jx_sipush 30 hX 1000 (by decide) dX4_ceiling_27 rfl ?_
        refine jx_callVi 33 hX (mX4_lowest _ D _ a0 r8 1000 s9 h) jv_X4_247 jn_4 hc1 ⟨rfl, rfl, by decide, by decide⟩ rfl rfl (Nat.le_of_ble_eq_true rfl) dX4_ceiling_30 rfl (fun r10 s11 h => ?_)
        refine jx_istore_n 34 hX [(3, .int r10), (0, .ref (D.2.1 a0)), (1, .int a1), (2, .int a2)] rfl (by decide) rfl dX4_ceiling_33 rfl (jx_iconst 35 hX 1 (by decide) dX4_ceiling_34 rfl (jx_istore 37 hX [(4, .int 1), (3, .int r10), (0, .ref (D.2.1 a0)), (1, .int a1), (2, .int a2)] (by decide) rfl dX4_ceiling_35 rfl ?_))
        obtain ⟨n_, h⟩ := h
        exact jx_sub [2, 3, 4, 1, 0] rfl (l37 n_ a0 a1 a2 r10 1 s11 h)
      · have h := h.2 hb7
        refine jx_iconst 18 hX (-1) (by decide) dX4_ceiling_17 rfl ?_
        exact jx_iret hX dX4_ceiling_18 h
set_option maxHeartbeats 4000000 in
set_option maxRecDepth 100000 in
theorem mX4_size (l : Launch) (D : jx_Dt) (post : Int32 → jx_St → Prop) (a0 : Nat) (s : jx_St) (h : wX4_size post a0 s) : jx_Met l yX4_size cX4_size 1 (some .int) (jx_r 0 0) D jx_LM [.ref (D.2.1 a0)] s (jx_Qi D jx_LM post) := by
  refine jx_ofJ (by decide) (Nat.le_of_ble_eq_true rfl) (fun X hl hX => ?_)
  subst hl
  replace hX : jx_K D jx_LM X cX4_size RX4 1 (some .int) (jx_r 0 0) (jx_Qi D jx_LM post) := hX
  show jx_J D jx_LM X 0 [(0, .ref (D.2.1 a0))] [] s
  unfold wX4_size at h
  refine jx_aload_n 1 hX 0 rfl rfl dX4_size_0 rfl ?_
  obtain ⟨hc1, h⟩ := h
  refine jx_getI 4 hX jf_X4_62 rfl hc1 dX4_size_1 rfl (jx_aload_n 5 hX 0 rfl rfl dX4_size_4 rfl (jx_getI 8 hX jf_X4_59 rfl hc1 dX4_size_5 rfl ?_))
  refine jx_icmp_ge 11 33 hX dX4_size_8 rfl (by decide) (fun hb2 => ?_) (fun hb2 => ?_)
  · have h := h.1 hb2
    refine jx_iconst 34 hX 0 (by decide) dX4_size_33 rfl ?_
    exact jx_iret hX dX4_size_34 h
  · have h := h.2 hb2
    refine jx_aload_n 12 hX 0 rfl rfl dX4_size_11 rfl (jx_getR 15 hX jf_X4_16 rfl hc1 dX4_size_12 rfl (jx_aload_n 16 hX 0 rfl rfl dX4_size_15 rfl (jx_getI 19 hX jf_X4_62 rfl hc1 dX4_size_16 rfl ?_)))
    obtain ⟨hc3, h⟩ := h
    refine jx_iaload 20 hX hc3 dX4_size_19 rfl (jx_aload_n 21 hX 0 rfl rfl dX4_size_20 rfl (jx_getR 24 hX jf_X4_13 rfl hc1 dX4_size_21 rfl (jx_aload_n 25 hX 0 rfl rfl dX4_size_24 rfl (jx_getI 28 hX jf_X4_62 rfl hc1 dX4_size_25 rfl ?_))))
    obtain ⟨hc4, h⟩ := h
    refine jx_iaload 29 hX hc4 dX4_size_28 rfl (jx_isub 30 hX dX4_size_29 rfl (jx_goto 34 hX dX4_size_30 (by decide) ?_))
    exact jx_iret hX dX4_size_34 h
set_option maxHeartbeats 4000000 in
set_option maxRecDepth 100000 in
theorem mX4_sign (l : Launch) (D : jx_Dt) (post : Int32 → jx_St → Prop) (a0 : Nat) (a1 : Int32) (s : jx_St) (h : wX4_sign post a0 a1 s) : jx_Met l yX4_sign cX4_sign 2 (some .int) (jx_r 1 20) D jx_LM [.ref (D.2.1 a0), .int a1] s (jx_Qi D jx_LM post) := by
  refine jx_ofJ (by decide) (Nat.le_of_ble_eq_true rfl) (fun X hl hX => ?_)
  subst hl
  replace hX : jx_K D jx_LM X cX4_sign RX4 2 (some .int) (jx_r 1 20) (jx_Qi D jx_LM post) := hX
  show jx_J D jx_LM X 0 [(0, .ref (D.2.1 a0)), (1, .int a1)] [] s
  unfold wX4_sign at h
  refine jx_iload_n 1 hX 1 rfl rfl dX4_sign_0 rfl (jx_aload_n 2 hX 0 rfl rfl dX4_sign_1 rfl ?_)
  obtain ⟨hc1, h⟩ := h
  refine jx_callVi 5 hX (mX4_size _ D _ a0 s h) jv_X4_65 jn_4 hc1 ⟨rfl, rfl, by decide, by decide⟩ rfl rfl (Nat.le_of_ble_eq_true rfl) dX4_sign_2 rfl (fun r2 s3 h => ?_)
  refine jx_icmp_ge 8 27 hX dX4_sign_5 rfl (by decide) (fun hb4 => ?_) (fun hb4 => ?_)
  · have h := h.1 hb4
    refine jx_iconst 28 hX 0 (by decide) dX4_sign_27 rfl ?_
    exact jx_iret hX dX4_sign_28 h
  · have h := h.2 hb4
    refine jx_aload_n 9 hX 0 rfl rfl dX4_sign_8 rfl (jx_getR 12 hX jf_X4_7 rfl hc1 dX4_sign_9 rfl (jx_aload_n 13 hX 0 rfl rfl dX4_sign_12 rfl (jx_getR 16 hX jf_X4_13 rfl hc1 dX4_sign_13 rfl (jx_aload_n 17 hX 0 rfl rfl dX4_sign_16 rfl (jx_getI 20 hX jf_X4_62 rfl hc1 dX4_sign_17 rfl ?_)))))
    obtain ⟨hc5, h⟩ := h
    refine jx_iaload 21 hX hc5 dX4_sign_20 rfl (jx_iload_n 22 hX 1 rfl rfl dX4_sign_21 rfl (jx_iadd 23 hX dX4_sign_22 rfl ?_))
    obtain ⟨hc6, h⟩ := h
    refine jx_iaload 24 hX hc6 dX4_sign_23 rfl (jx_goto 28 hX dX4_sign_24 (by decide) ?_)
    exact jx_iret hX dX4_sign_28 h
set_option maxHeartbeats 4000000 in
set_option maxRecDepth 100000 in
theorem mX4_word (l : Launch) (D : jx_Dt) (post : Int64 → jx_St → Prop) (a0 : Nat) (s : jx_St) (h : wX4_word post a0 s) : jx_Met l yX4_word cX4_word 4 (some .long) (jx_r 2 41) D jx_LM [.ref (D.2.1 a0)] s (jx_Ql D jx_LM post) := by
  refine jx_ofJ (by decide) (Nat.le_of_ble_eq_true rfl) (fun X hl hX => ?_)
  subst hl
  replace hX : jx_K D jx_LM X cX4_word RX4 4 (some .long) (jx_r 2 41) (jx_Ql D jx_LM post) := hX
  show jx_J D jx_LM X 0 [(0, .ref (D.2.1 a0))] [] s
  have l4 : ∀ (n : Nat) (a0 : Nat) (a1 : Int64) (a3 : Int32) (s : jx_St), wX4_word_l4 post n a0 a1 a3 s → jx_J D jx_LM X 4 [(0, .ref (D.2.1 a0)), (1, .long a1), (3, .int a3)] [] s := by
    intro n
    induction n with
    | zero => intro a0 a1 a3 s h; exact h.elim
    | succ n ih =>
      intro a0 a1 a3 s h
      rw [wX4_word_l4] at h
      refine jx_iload_n 5 hX 2 rfl rfl dX4_word_4 rfl (jx_aload_n 6 hX 0 rfl rfl dX4_word_5 rfl ?_)
      obtain ⟨hc2, h⟩ := h
      refine jx_callVi 9 hX (mX4_size _ D _ a0 s h) jv_X4_65 jn_4 hc2 ⟨rfl, rfl, by decide, by decide⟩ rfl rfl (Nat.le_of_ble_eq_true rfl) dX4_word_6 rfl (fun r3 s4 h => ?_)
      refine jx_icmp_ge 12 39 hX dX4_word_9 rfl (by decide) (fun hb5 => ?_) (fun hb5 => ?_)
      · have h := h.1 hb5
        refine jx_lload_n 40 hX 1 rfl rfl dX4_word_39 rfl ?_
        exact jx_lret hX dX4_word_40 h
      · have h := h.2 hb5
        refine jx_aload_n 13 hX 0 rfl rfl dX4_word_12 rfl ?_
        refine jx_callVi 16 hX (mX4_size _ D _ a0 s4 h) jv_X4_65 jn_4 hc2 ⟨rfl, rfl, by decide, by decide⟩ rfl rfl (Nat.le_of_ble_eq_true rfl) dX4_word_13 rfl (fun r6 s7 h => ?_)
        refine jx_bipush 18 hX 8 (by decide) dX4_word_16 rfl ?_
        refine jx_icmp_gt 21 39 hX dX4_word_18 rfl (by decide) (fun hb8 => ?_) (fun hb8 => ?_)
        · have h := h.1 hb8
          refine jx_lload_n 40 hX 1 rfl rfl dX4_word_39 rfl ?_
          exact jx_lret hX dX4_word_40 h
        · have h := h.2 hb8
          refine jx_lload_n 22 hX 1 rfl rfl dX4_word_21 rfl (jx_bipush 24 hX 8 (by decide) dX4_word_22 rfl (jx_lshl 25 hX dX4_word_24 rfl (jx_aload_n 26 hX 0 rfl rfl dX4_word_25 rfl (jx_iload_n 27 hX 2 rfl rfl dX4_word_26 rfl ?_))))
          refine jx_callVi 30 hX (mX4_sign _ D _ a0 a3 s7 h) jv_X4_69 jn_4 hc2 ⟨rfl, rfl, by decide, by decide⟩ rfl rfl (Nat.le_of_ble_eq_true rfl) dX4_word_27 rfl (fun r9 s10 h => ?_)
          refine jx_i2l 31 hX dX4_word_30 rfl (jx_lor 32 hX dX4_word_31 rfl ?_)
          refine jx_topl (fun x11 hx11 => ?_)
          have h := h x11 hx11
          refine jx_lstore_n 33 hX [(1, .long x11), (0, .ref (D.2.1 a0)), (3, .int a3)] rfl (by decide) rfl dX4_word_32 rfl ?_
          obtain ⟨x12, hx12⟩ : ∃ y : Int32, y = a3 + 1 := ⟨_, rfl⟩
          have h := h x12 hx12
          refine jx_iinc 36 hX 2 x12 [(3, .int x12), (1, .long x11), (0, .ref (D.2.1 a0))] rfl (by rw [hx12]; exact congrArg (fun z => a3 + z) (by decide)) (by decide) rfl dX4_word_33 rfl (jx_goto 4 hX dX4_word_36 (by decide) ?_)
          exact jx_sub [2, 1, 0] rfl (ih a0 x11 x12 s10 h)
  unfold wX4_word at h
  refine jx_lconst 1 hX 0 (by decide) dX4_word_0 rfl ?_
  refine jx_topl (fun x1 hx1 => ?_)
  have h := h x1 hx1
  refine jx_lstore_n 2 hX [(1, .long x1), (0, .ref (D.2.1 a0))] rfl (by decide) rfl dX4_word_1 rfl (jx_iconst 3 hX 0 (by decide) dX4_word_2 rfl (jx_istore_n 4 hX [(3, .int 0), (1, .long x1), (0, .ref (D.2.1 a0))] rfl (by decide) rfl dX4_word_3 rfl ?_))
  obtain ⟨n_, h⟩ := h
  exact jx_sub [2, 1, 0] rfl (l4 n_ a0 x1 0 s h)
set_option maxHeartbeats 4000000 in
set_option maxRecDepth 100000 in
theorem mX4_pair (l : Launch) (D : jx_Dt) (post : Int32 → jx_St → Prop) (a0 : Nat) (a1 : Int32) (s : jx_St) (h : wX4_pair post a0 a1 s) : jx_Met l yX4_pair cX4_pair 2 (some .int) (jx_r 2 41) D jx_LM [.ref (D.2.1 a0), .int a1] s (jx_Qi D jx_LM post) := by
  refine jx_ofJ (by decide) (Nat.le_of_ble_eq_true rfl) (fun X hl hX => ?_)
  subst hl
  replace hX : jx_K D jx_LM X cX4_pair RX4 2 (some .int) (jx_r 2 41) (jx_Qi D jx_LM post) := hX
  show jx_J D jx_LM X 0 [(0, .ref (D.2.1 a0)), (1, .int a1)] [] s
  unfold wX4_pair at h
  refine jx_sipush 3 hX 256 (by decide) dX4_pair_0 rfl (jx_aload_n 4 hX 0 rfl rfl dX4_pair_3 rfl (jx_iload_n 5 hX 1 rfl rfl dX4_pair_4 rfl ?_))
  obtain ⟨hc1, h⟩ := h
  refine jx_callVi 8 hX (mX4_sign _ D _ a0 a1 s h) jv_X4_69 jn_4 hc1 ⟨rfl, rfl, by decide, by decide⟩ rfl rfl (Nat.le_of_ble_eq_true rfl) dX4_pair_5 rfl (fun r2 s3 h => ?_)
  refine jx_imul 9 hX dX4_pair_8 rfl (jx_aload_n 10 hX 0 rfl rfl dX4_pair_9 rfl (jx_iload_n 11 hX 1 rfl rfl dX4_pair_10 rfl (jx_iconst 12 hX 1 (by decide) dX4_pair_11 rfl (jx_iadd 13 hX dX4_pair_12 rfl ?_))))
  refine jx_callVi 16 hX (mX4_sign _ D _ a0 (a1 + 1) s3 h) jv_X4_69 jn_4 hc1 ⟨rfl, rfl, by decide, by decide⟩ rfl rfl (Nat.le_of_ble_eq_true rfl) dX4_pair_13 rfl (fun r4 s5 h => ?_)
  refine jx_iadd 17 hX dX4_pair_16 rfl ?_
  exact jx_iret hX dX4_pair_17 h
set_option maxHeartbeats 4000000 in
set_option maxRecDepth 100000 in
theorem mX4_number (l : Launch) (D : jx_Dt) (post : Int32 → jx_St → Prop) (a0 : Nat) (a1 : Int32) (a2 : Int32) (s : jx_St) (h : wX4_number post a0 a1 a2 s) : jx_Met l yX4_number cX4_number 5 (some .int) (jx_r 2 41) D jx_LM [.ref (D.2.1 a0), .int a1, .int a2] s (jx_Qi D jx_LM post) := by
  refine jx_ofJ (by decide) (Nat.le_of_ble_eq_true rfl) (fun X hl hX => ?_)
  subst hl
  replace hX : jx_K D jx_LM X cX4_number RX4 5 (some .int) (jx_r 2 41) (jx_Qi D jx_LM post) := hX
  show jx_J D jx_LM X 0 [(0, .ref (D.2.1 a0)), (1, .int a1), (2, .int a2)] [] s
  have l5 : ∀ (n : Nat) (a0 : Nat) (a1 : Int32) (a2 : Int32) (a3 : Int32) (a4 : Int32) (s : jx_St), wX4_number_l5 post n a0 a1 a2 a3 a4 s → jx_J D jx_LM X 5 [(0, .ref (D.2.1 a0)), (1, .int a1), (2, .int a2), (3, .int a3), (4, .int a4)] [] s := by
    intro n
    induction n with
    | zero => intro a0 a1 a2 a3 a4 s h; exact h.elim
    | succ n ih =>
      intro a0 a1 a2 a3 a4 s h
      rw [wX4_number_l5] at h
      refine jx_iload 7 hX 4 rfl dX4_number_5 rfl (jx_iload_n 8 hX 1 rfl rfl dX4_number_7 rfl (jx_iload_n 9 hX 2 rfl rfl dX4_number_8 rfl (jx_iadd 10 hX dX4_number_9 rfl ?_)))
      refine jx_icmp_ge 13 58 hX dX4_number_10 rfl (by decide) (fun hb1 => ?_) (fun hb1 => ?_)
      · have h := h.1 hb1
        refine jx_iload_n 59 hX 3 rfl rfl dX4_number_58 rfl ?_
        exact jx_iret hX dX4_number_59 h
      · have h := h.2 hb1
        refine jx_aload_n 14 hX 0 rfl rfl dX4_number_13 rfl (jx_iload 16 hX 4 rfl dX4_number_14 rfl ?_)
        obtain ⟨hc2, h⟩ := h
        refine jx_callVi 19 hX (mX4_sign _ D _ a0 a4 s h) jv_X4_69 jn_4 hc2 ⟨rfl, rfl, by decide, by decide⟩ rfl rfl (Nat.le_of_ble_eq_true rfl) dX4_number_16 rfl (fun r3 s4 h => ?_)
        refine jx_bipush 21 hX 48 (by decide) dX4_number_19 rfl ?_
        refine jx_icmp_lt 24 35 hX dX4_number_21 rfl (by decide) (fun hb5 => ?_) (fun hb5 => ?_)
        · have h := h.1 hb5
          refine jx_iconst 36 hX (-1) (by decide) dX4_number_35 rfl ?_
          exact jx_iret hX dX4_number_36 h
        · have h := h.2 hb5
          refine jx_aload_n 25 hX 0 rfl rfl dX4_number_24 rfl (jx_iload 27 hX 4 rfl dX4_number_25 rfl ?_)
          refine jx_callVi 30 hX (mX4_sign _ D _ a0 a4 s4 h) jv_X4_69 jn_4 hc2 ⟨rfl, rfl, by decide, by decide⟩ rfl rfl (Nat.le_of_ble_eq_true rfl) dX4_number_27 rfl (fun r6 s7 h => ?_)
          refine jx_bipush 32 hX 57 (by decide) dX4_number_30 rfl ?_
          refine jx_icmp_le 35 37 hX dX4_number_32 rfl (by decide) (fun hb8 => ?_) (fun hb8 => ?_)
          · have h := h.1 hb8
            refine jx_bipush 39 hX 10 (by decide) dX4_number_37 rfl (jx_iload_n 40 hX 3 rfl rfl dX4_number_39 rfl (jx_imul 41 hX dX4_number_40 rfl (jx_aload_n 42 hX 0 rfl rfl dX4_number_41 rfl (jx_iload 44 hX 4 rfl dX4_number_42 rfl ?_))))
            refine jx_callVi 47 hX (mX4_sign _ D _ a0 a4 s7 h) jv_X4_69 jn_4 hc2 ⟨rfl, rfl, by decide, by decide⟩ rfl rfl (Nat.le_of_ble_eq_true rfl) dX4_number_44 rfl (fun r9 s10 h => ?_)
            refine jx_iadd 48 hX dX4_number_47 rfl (jx_bipush 50 hX 48 (by decide) dX4_number_48 rfl (jx_isub 51 hX dX4_number_50 rfl ?_))
            refine jx_topi (fun x11 hx11 => ?_)
            have h := h x11 hx11
            refine jx_istore_n 52 hX [(3, .int x11), (0, .ref (D.2.1 a0)), (1, .int a1), (2, .int a2), (4, .int a4)] rfl (by decide) rfl dX4_number_51 rfl ?_
            obtain ⟨x12, hx12⟩ : ∃ y : Int32, y = a4 + 1 := ⟨_, rfl⟩
            have h := h x12 hx12
            refine jx_iinc 55 hX 4 x12 [(4, .int x12), (3, .int x11), (0, .ref (D.2.1 a0)), (1, .int a1), (2, .int a2)] rfl (by rw [hx12]; exact congrArg (fun z => a4 + z) (by decide)) (by decide) rfl dX4_number_52 rfl (jx_goto 5 hX dX4_number_55 (by decide) ?_)
            exact jx_sub [2, 3, 4, 1, 0] rfl (ih a0 a1 a2 x11 x12 s10 h)
          · have h := h.2 hb8
            refine jx_iconst 36 hX (-1) (by decide) dX4_number_35 rfl ?_
            exact jx_iret hX dX4_number_36 h
  unfold wX4_number at h
  refine jx_iconst 1 hX 0 (by decide) dX4_number_0 rfl (jx_istore_n 2 hX [(3, .int 0), (0, .ref (D.2.1 a0)), (1, .int a1), (2, .int a2)] rfl (by decide) rfl dX4_number_1 rfl (jx_iload_n 3 hX 2 rfl rfl dX4_number_2 rfl (jx_istore 5 hX [(4, .int a1), (3, .int 0), (0, .ref (D.2.1 a0)), (1, .int a1), (2, .int a2)] (by decide) rfl dX4_number_3 rfl ?_)))
  obtain ⟨n_, h⟩ := h
  exact jx_sub [2, 3, 4, 1, 0] rfl (l5 n_ a0 a1 a2 0 a1 s h)
set_option maxHeartbeats 4000000 in
set_option maxRecDepth 100000 in
theorem mX4_isDay (l : Launch) (D : jx_Dt) (post : Int32 → jx_St → Prop) (a0 : Nat) (a1 : Int32) (s : jx_St) (h : wX4_isDay post a0 a1 s) : jx_Met l yX4_isDay cX4_isDay 2 (some .boolean) (jx_r 0 0) D jx_LM [.ref (D.2.1 a0), .int a1] s (jx_Qi D jx_LM (fun r u => (r = 0 ∨ r = 1) ∧ post r u)) := by
  refine jx_ofJ (by decide) (Nat.le_of_ble_eq_true rfl) (fun X hl hX => ?_)
  subst hl
  replace hX : jx_K D jx_LM X cX4_isDay RX4 2 (some .boolean) (jx_r 0 0) (jx_Qi D jx_LM (fun r u => (r = 0 ∨ r = 1) ∧ post r u)) := hX
  show jx_J D jx_LM X 0 [(0, .ref (D.2.1 a0)), (1, .int a1)] [] s
  unfold wX4_isDay at h
  refine jx_iload_n 1 hX 1 rfl rfl dX4_isDay_0 rfl (jx_iconst 2 hX 1 (by decide) dX4_isDay_1 rfl ?_)
  refine jx_icmp_lt 5 17 hX dX4_isDay_2 rfl (by decide) (fun hb1 => ?_) (fun hb1 => ?_)
  · have h := h.1 hb1
    refine jx_iconst 18 hX 0 (by decide) dX4_isDay_17 rfl ?_
    exact jx_zret hX dX4_isDay_18 (by decide) h
  · have h := h.2 hb1
    refine jx_iload_n 6 hX 1 rfl rfl dX4_isDay_5 rfl (jx_aload_n 7 hX 0 rfl rfl dX4_isDay_6 rfl ?_)
    obtain ⟨hc2, h⟩ := h
    refine jx_getI 10 hX jf_X4_73 rfl hc2 dX4_isDay_7 rfl ?_
    refine jx_icmp_gt 13 17 hX dX4_isDay_10 rfl (by decide) (fun hb3 => ?_) (fun hb3 => ?_)
    · have h := h.1 hb3
      refine jx_iconst 18 hX 0 (by decide) dX4_isDay_17 rfl ?_
      exact jx_zret hX dX4_isDay_18 (by decide) h
    · have h := h.2 hb3
      refine jx_iconst 14 hX 1 (by decide) dX4_isDay_13 rfl (jx_goto 18 hX dX4_isDay_14 (by decide) ?_)
      exact jx_zret hX dX4_isDay_18 (by decide) h
set_option maxHeartbeats 4000000 in
set_option maxRecDepth 100000 in
theorem mX4_isIn (l : Launch) (D : jx_Dt) (post : Int32 → jx_St → Prop) (a0 : Nat) (a1 : Int32) (a2 : Int32) (s : jx_St) (h : wX4_isIn post a0 a1 a2 s) : jx_Met l yX4_isIn cX4_isIn 3 (some .boolean) (jx_r 0 0) D jx_LM [.ref (D.2.1 a0), .int a1, .int a2] s (jx_Qi D jx_LM (fun r u => (r = 0 ∨ r = 1) ∧ post r u)) := by
  refine jx_ofJ (by decide) (Nat.le_of_ble_eq_true rfl) (fun X hl hX => ?_)
  subst hl
  replace hX : jx_K D jx_LM X cX4_isIn RX4 3 (some .boolean) (jx_r 0 0) (jx_Qi D jx_LM (fun r u => (r = 0 ∨ r = 1) ∧ post r u)) := hX
  show jx_J D jx_LM X 0 [(0, .ref (D.2.1 a0)), (1, .int a1), (2, .int a2)] [] s
  unfold wX4_isIn at h
  refine jx_iload_n 1 hX 1 rfl rfl dX4_isIn_0 rfl ?_
  refine jx_if_lt 4 13 hX dX4_isIn_1 rfl (by decide) (fun hb1 => ?_) (fun hb1 => ?_)
  · have h := h.1 hb1
    refine jx_iconst 14 hX 0 (by decide) dX4_isIn_13 rfl ?_
    exact jx_zret hX dX4_isIn_14 (by decide) h
  · have h := h.2 hb1
    refine jx_iload_n 5 hX 1 rfl rfl dX4_isIn_4 rfl (jx_iload_n 6 hX 2 rfl rfl dX4_isIn_5 rfl ?_)
    refine jx_icmp_gt 9 13 hX dX4_isIn_6 rfl (by decide) (fun hb2 => ?_) (fun hb2 => ?_)
    · have h := h.1 hb2
      refine jx_iconst 14 hX 0 (by decide) dX4_isIn_13 rfl ?_
      exact jx_zret hX dX4_isIn_14 (by decide) h
    · have h := h.2 hb2
      refine jx_iconst 10 hX 1 (by decide) dX4_isIn_9 rfl (jx_goto 14 hX dX4_isIn_10 (by decide) ?_)
      exact jx_zret hX dX4_isIn_14 (by decide) h
set_option maxHeartbeats 4000000 in
set_option maxRecDepth 100000 in
theorem mX4_since (l : Launch) (D : jx_Dt) (post : Int32 → jx_St → Prop) (a0 : Nat) (a1 : Int32) (a2 : Int32) (s : jx_St) (h : wX4_since post a0 a1 a2 s) : jx_Met l yX4_since cX4_since 5 (some .boolean) (jx_r 3 65) D jx_LM [.ref (D.2.1 a0), .int a1, .int a2] s (jx_Qi D jx_LM (fun r u => (r = 0 ∨ r = 1) ∧ post r u)) := by
  refine jx_ofJ (by decide) (Nat.le_of_ble_eq_true rfl) (fun X hl hX => ?_)
  subst hl
  replace hX : jx_K D jx_LM X cX4_since RX4 5 (some .boolean) (jx_r 3 65) (jx_Qi D jx_LM (fun r u => (r = 0 ∨ r = 1) ∧ post r u)) := hX
  show jx_J D jx_LM X 0 [(0, .ref (D.2.1 a0)), (1, .int a1), (2, .int a2)] [] s
  have b151 : ∀ (a0 : Nat) (a1 : Int32) (a3 : Int32) (k0 : Int32) (s : jx_St), wX4_since_b151 post a0 a1 a3 k0 s → jx_J D jx_LM X 151 [(0, .ref (D.2.1 a0)), (1, .int a1), (3, .int a3)] [.int k0] s := by
    intro a0 a1 a3 k0 s h
    unfold wX4_since_b151 at h
    refine jx_istore 153 hX [(4, .int k0), (0, .ref (D.2.1 a0)), (1, .int a1), (3, .int a3)] (by decide) rfl dX4_since_151 rfl (jx_aload_n 154 hX 1 rfl rfl dX4_since_153 rfl ?_)
    obtain ⟨hc40, h⟩ := h
    refine jx_getR 157 hX jf_X4_22 rfl hc40 dX4_since_154 rfl (jx_bipush 159 hX 10 (by decide) dX4_since_157 rfl (jx_iload_n 160 hX 2 rfl rfl dX4_since_159 rfl (jx_imul 161 hX dX4_since_160 rfl (jx_iconst 162 hX 2 (by decide) dX4_since_161 rfl (jx_iadd 163 hX dX4_since_162 rfl ?_)))))
    refine jx_iload_n 164 hX 3 rfl rfl dX4_since_163 rfl ?_
    obtain ⟨hc41, h⟩ := h
    refine jx_iastore 165 hX hc41 dX4_since_164 rfl ?_
    refine jx_namu (fun s42 hs42 => ?_)
    have h := h s42 hs42
    refine jx_aload_n 166 hX 1 rfl rfl dX4_since_165 rfl (jx_getR 169 hX jf_X4_22 rfl hc40 dX4_since_166 rfl (jx_bipush 171 hX 10 (by decide) dX4_since_169 rfl (jx_iload_n 172 hX 2 rfl rfl dX4_since_171 rfl (jx_imul 173 hX dX4_since_172 rfl (jx_iconst 174 hX 3 (by decide) dX4_since_173 rfl ?_)))))
    refine jx_iadd 175 hX dX4_since_174 rfl (jx_aload_n 176 hX 1 rfl rfl dX4_since_175 rfl (jx_getR 179 hX jf_X4_22 rfl hc40 dX4_since_176 rfl (jx_iconst 180 hX 3 (by decide) dX4_since_179 rfl ?_)))
    obtain ⟨hc43, h⟩ := h
    refine jx_iaload 181 hX hc43 dX4_since_180 rfl ?_
    obtain ⟨hc44, h⟩ := h
    refine jx_iastore 182 hX hc44 dX4_since_181 rfl ?_
    refine jx_namu (fun s45 hs45 => ?_)
    have h := h s45 hs45
    refine jx_aload_n 183 hX 1 rfl rfl dX4_since_182 rfl (jx_iload 185 hX 0 rfl dX4_since_183 rfl ?_)
    refine jx_if_eq 188 197 hX dX4_since_185 rfl (by decide) (fun hb46 => ?_) (fun hb46 => ?_)
    · have h := h.1 hb46
      refine jx_aload_n 198 hX 1 rfl rfl dX4_since_197 rfl (jx_getI 201 hX jf_X4_62 rfl hc40 dX4_since_198 rfl (jx_putI 204 hX jp_X4_62 rfl hc40 dX4_since_201 rfl ?_))
      refine jx_namu (fun s47 hs47 => ?_)
      have h := h s47 hs47
      refine jx_iload 206 hX 0 rfl dX4_since_204 rfl ?_
      obtain ⟨hc48, h⟩ := h
      exact jx_zret hX dX4_since_206 hc48 h
    · have h := h.2 hb46
      refine jx_aload_n 189 hX 1 rfl rfl dX4_since_188 rfl (jx_getI 192 hX jf_X4_62 rfl hc40 dX4_since_189 rfl (jx_iconst 193 hX 1 (by decide) dX4_since_192 rfl (jx_iadd 194 hX dX4_since_193 rfl (jx_goto 201 hX dX4_since_194 (by decide) (jx_putI 204 hX jp_X4_62 rfl hc40 dX4_since_201 rfl ?_)))))
      refine jx_namu (fun s49 hs49 => ?_)
      have h := h s49 hs49
      refine jx_iload 206 hX 0 rfl dX4_since_204 rfl ?_
      obtain ⟨hc50, h⟩ := h
      exact jx_zret hX dX4_since_206 hc50 h
  have b115 : ∀ (a0 : Nat) (a1 : Int32) (a2 : Int32) (a4 : Int32) (k0 : Int32) (s : jx_St), wX4_since_b115 post a0 a1 a2 a4 k0 s → jx_J D jx_LM X 115 [(0, .ref (D.2.1 a0)), (1, .int a1), (2, .int a2), (4, .int a4)] [.int k0] s := by
    intro a0 a1 a2 a4 k0 s h
    unfold wX4_since_b115 at h
    refine jx_istore_n 116 hX [(3, .int k0), (0, .ref (D.2.1 a0)), (1, .int a1), (2, .int a2), (4, .int a4)] rfl (by decide) rfl dX4_since_115 rfl (jx_iload 118 hX 4 rfl dX4_since_116 rfl ?_)
    refine jx_if_eq 121 150 hX dX4_since_118 rfl (by decide) (fun hb33 => ?_) (fun hb33 => ?_)
    · have h := h.1 hb33
      refine jx_iconst 151 hX 0 (by decide) dX4_since_150 rfl ?_
      exact jx_sub [1, 2, 0] rfl (b151 a0 a1 k0 0 s h)
    · have h := h.2 hb33
      refine jx_iload_n 122 hX 0 rfl rfl dX4_since_121 rfl (jx_aload_n 123 hX 1 rfl rfl dX4_since_122 rfl ?_)
      obtain ⟨hc34, h⟩ := h
      refine jx_getR 126 hX jf_X4_22 rfl hc34 dX4_since_123 rfl (jx_iconst 127 hX 2 (by decide) dX4_since_126 rfl ?_)
      obtain ⟨hc35, h⟩ := h
      refine jx_iaload 128 hX hc35 dX4_since_127 rfl ?_
      refine jx_icmp_lt 131 150 hX dX4_since_128 rfl (by decide) (fun hb36 => ?_) (fun hb36 => ?_)
      · have h := h.1 hb36
        refine jx_iconst 151 hX 0 (by decide) dX4_since_150 rfl ?_
        exact jx_sub [1, 2, 0] rfl (b151 a0 a1 k0 0 s h)
      · have h := h.2 hb36
        refine jx_iload_n 132 hX 0 rfl rfl dX4_since_131 rfl (jx_aload_n 133 hX 1 rfl rfl dX4_since_132 rfl (jx_getR 136 hX jf_X4_22 rfl hc34 dX4_since_133 rfl (jx_iconst 137 hX 3 (by decide) dX4_since_136 rfl ?_)))
        obtain ⟨hc37, h⟩ := h
        refine jx_iaload 138 hX hc37 dX4_since_137 rfl ?_
        refine jx_icmp_ge 141 150 hX dX4_since_138 rfl (by decide) (fun hb38 => ?_) (fun hb38 => ?_)
        · have h := h.1 hb38
          refine jx_iconst 151 hX 0 (by decide) dX4_since_150 rfl ?_
          exact jx_sub [1, 2, 0] rfl (b151 a0 a1 k0 0 s h)
        · have h := h.2 hb38
          refine jx_iload_n 142 hX 0 rfl rfl dX4_since_141 rfl (jx_iload_n 143 hX 3 rfl rfl dX4_since_142 rfl ?_)
          refine jx_icmp_le 146 150 hX dX4_since_143 rfl (by decide) (fun hb39 => ?_) (fun hb39 => ?_)
          · have h := h.1 hb39
            refine jx_iconst 151 hX 0 (by decide) dX4_since_150 rfl ?_
            exact jx_sub [1, 2, 0] rfl (b151 a0 a1 k0 0 s h)
          · have h := h.2 hb39
            refine jx_iconst 147 hX 1 (by decide) dX4_since_146 rfl (jx_goto 151 hX dX4_since_147 (by decide) ?_)
            exact jx_sub [1, 2, 0] rfl (b151 a0 a1 k0 1 s h)
  have b89 : ∀ (a0 : Nat) (a1 : Int32) (a2 : Int32) (a3 : Int32) (k0 : Int32) (s : jx_St), wX4_since_b89 post a0 a1 a2 a3 k0 s → jx_J D jx_LM X 89 [(0, .ref (D.2.1 a0)), (1, .int a1), (2, .int a2), (3, .int a3)] [.int k0] s := by
    intro a0 a1 a2 a3 k0 s h
    unfold wX4_since_b89 at h
    refine jx_istore 91 hX [(4, .int k0), (0, .ref (D.2.1 a0)), (1, .int a1), (2, .int a2), (3, .int a3)] (by decide) rfl dX4_since_89 rfl (jx_iload_n 92 hX 4 rfl rfl dX4_since_91 rfl (jx_aload_n 93 hX 1 rfl rfl dX4_since_92 rfl ?_))
    obtain ⟨hc30, h⟩ := h
    refine jx_getR 96 hX jf_X4_22 rfl hc30 dX4_since_93 rfl (jx_iconst 97 hX 2 (by decide) dX4_since_96 rfl ?_)
    obtain ⟨hc31, h⟩ := h
    refine jx_iaload 98 hX hc31 dX4_since_97 rfl ?_
    refine jx_icmp_ge 101 114 hX dX4_since_98 rfl (by decide) (fun hb32 => ?_) (fun hb32 => ?_)
    · have h := h.1 hb32
      refine jx_iload_n 115 hX 4 rfl rfl dX4_since_114 rfl ?_
      exact jx_sub [1, 2, 3, 0] rfl (b115 a0 a1 a2 k0 a3 s h)
    · have h := h.2 hb32
      refine jx_iload_n 102 hX 4 rfl rfl dX4_since_101 rfl (jx_sipush 105 hX 1440 (by decide) dX4_since_102 rfl (jx_aload_n 106 hX 1 rfl rfl dX4_since_105 rfl (jx_getI 109 hX jf_X4_73 rfl hc30 dX4_since_106 rfl (jx_imul 110 hX dX4_since_109 rfl (jx_iadd 111 hX dX4_since_110 rfl ?_)))))
      refine jx_goto 115 hX dX4_since_111 (by decide) ?_
      exact jx_sub [1, 2, 3, 0] rfl (b115 a0 a1 a2 k0 (a3 + (1440 * (s.1 a0 8))) s h)
  unfold wX4_since at h
  refine jx_sipush 3 hX 1440 (by decide) dX4_since_0 rfl (jx_aload_n 4 hX 0 rfl rfl dX4_since_3 rfl (jx_iconst 5 hX 2 (by decide) dX4_since_4 rfl (jx_iconst 6 hX 2 (by decide) dX4_since_5 rfl ?_)))
  obtain ⟨hc1, h⟩ := h
  refine jx_callVi 9 hX (mX4_number _ D _ a0 2 2 s h) jv_X4_76 jn_4 hc1 ⟨rfl, rfl, by decide, by decide⟩ rfl rfl (Nat.le_of_ble_eq_true rfl) dX4_since_6 rfl (fun r2 s3 h => ?_)
  refine jx_iconst 10 hX 1 (by decide) dX4_since_9 rfl (jx_isub 11 hX dX4_since_10 rfl (jx_imul 12 hX dX4_since_11 rfl (jx_bipush 14 hX 60 (by decide) dX4_since_12 rfl (jx_aload_n 15 hX 0 rfl rfl dX4_since_14 rfl (jx_iconst 16 hX 4 (by decide) dX4_since_15 rfl ?_)))))
  refine jx_iconst 17 hX 2 (by decide) dX4_since_16 rfl ?_
  refine jx_callVi 20 hX (mX4_number _ D _ a0 4 2 s3 h) jv_X4_76 jn_4 hc1 ⟨rfl, rfl, by decide, by decide⟩ rfl rfl (Nat.le_of_ble_eq_true rfl) dX4_since_17 rfl (fun r4 s5 h => ?_)
  refine jx_imul 21 hX dX4_since_20 rfl (jx_iadd 22 hX dX4_since_21 rfl (jx_aload_n 23 hX 0 rfl rfl dX4_since_22 rfl (jx_bipush 25 hX 6 (by decide) dX4_since_23 rfl (jx_iconst 26 hX 2 (by decide) dX4_since_25 rfl ?_))))
  refine jx_callVi 29 hX (mX4_number _ D _ a0 6 2 s5 h) jv_X4_76 jn_4 hc1 ⟨rfl, rfl, by decide, by decide⟩ rfl rfl (Nat.le_of_ble_eq_true rfl) dX4_since_26 rfl (fun r6 s7 h => ?_)
  refine jx_iadd 30 hX dX4_since_29 rfl ?_
  refine jx_topi (fun x8 hx8 => ?_)
  have h := h x8 hx8
  refine jx_istore_n 31 hX [(3, .int x8), (0, .ref (D.2.1 a0)), (1, .int a1), (2, .int a2)] rfl (by decide) rfl dX4_since_30 rfl (jx_aload_n 32 hX 1 rfl rfl dX4_since_31 rfl ?_)
  refine jx_callVi 35 hX (mX4_size _ D _ a0 s7 h) jv_X4_65 jn_4 hc1 ⟨rfl, rfl, by decide, by decide⟩ rfl rfl (Nat.le_of_ble_eq_true rfl) dX4_since_32 rfl (fun r9 s10 h => ?_)
  refine jx_bipush 37 hX 8 (by decide) dX4_since_35 rfl ?_
  refine jx_icmp_ne 40 88 hX dX4_since_37 rfl (by decide) (fun hb11 => ?_) (fun hb11 => ?_)
  · have h := h.1 hb11
    refine jx_iconst 89 hX 0 (by decide) dX4_since_88 rfl ?_
    exact jx_sub [1, 2, 3, 0] rfl (b89 a0 a1 a2 x8 0 s10 h)
  · have h := h.2 hb11
    refine jx_aload_n 41 hX 1 rfl rfl dX4_since_40 rfl (jx_aload_n 42 hX 1 rfl rfl dX4_since_41 rfl (jx_iconst 43 hX 2 (by decide) dX4_since_42 rfl (jx_iconst 44 hX 2 (by decide) dX4_since_43 rfl ?_)))
    refine jx_callVi 47 hX (mX4_number _ D _ a0 2 2 s10 h) jv_X4_76 jn_4 hc1 ⟨rfl, rfl, by decide, by decide⟩ rfl rfl (Nat.le_of_ble_eq_true rfl) dX4_since_44 rfl (fun r12 s13 h => ?_)
    refine jx_callVi 50 hX (mX4_isDay _ D _ a0 r12 s13 h) jv_X4_83 jn_4 hc1 ⟨rfl, rfl, by decide, by decide⟩ rfl rfl (Nat.le_of_ble_eq_true rfl) dX4_since_47 rfl (fun r14 s15 h => ?_)
    obtain ⟨hz16, h⟩ := h
    have h := h hz16
    refine jx_if_eq 53 88 hX dX4_since_50 rfl (by decide) (fun hb17 => ?_) (fun hb17 => ?_)
    · have h := h.1 hb17
      refine jx_iconst 89 hX 0 (by decide) dX4_since_88 rfl ?_
      exact jx_sub [1, 2, 3, 0] rfl (b89 a0 a1 a2 x8 0 s15 h)
    · have h := h.2 hb17
      refine jx_aload_n 54 hX 1 rfl rfl dX4_since_53 rfl (jx_aload_n 55 hX 1 rfl rfl dX4_since_54 rfl (jx_iconst 56 hX 4 (by decide) dX4_since_55 rfl (jx_iconst 57 hX 2 (by decide) dX4_since_56 rfl ?_)))
      refine jx_callVi 60 hX (mX4_number _ D _ a0 4 2 s15 h) jv_X4_76 jn_4 hc1 ⟨rfl, rfl, by decide, by decide⟩ rfl rfl (Nat.le_of_ble_eq_true rfl) dX4_since_57 rfl (fun r18 s19 h => ?_)
      refine jx_bipush 62 hX 23 (by decide) dX4_since_60 rfl ?_
      refine jx_callVi 65 hX (mX4_isIn _ D _ a0 r18 23 s19 h) jv_X4_87 jn_4 hc1 ⟨rfl, rfl, by decide, by decide⟩ rfl rfl (Nat.le_of_ble_eq_true rfl) dX4_since_62 rfl (fun r20 s21 h => ?_)
      obtain ⟨hz22, h⟩ := h
      have h := h hz22
      refine jx_if_eq 68 88 hX dX4_since_65 rfl (by decide) (fun hb23 => ?_) (fun hb23 => ?_)
      · have h := h.1 hb23
        refine jx_iconst 89 hX 0 (by decide) dX4_since_88 rfl ?_
        exact jx_sub [1, 2, 3, 0] rfl (b89 a0 a1 a2 x8 0 s21 h)
      · have h := h.2 hb23
        refine jx_aload_n 69 hX 1 rfl rfl dX4_since_68 rfl (jx_aload_n 70 hX 1 rfl rfl dX4_since_69 rfl (jx_bipush 72 hX 6 (by decide) dX4_since_70 rfl (jx_iconst 73 hX 2 (by decide) dX4_since_72 rfl ?_)))
        refine jx_callVi 76 hX (mX4_number _ D _ a0 6 2 s21 h) jv_X4_76 jn_4 hc1 ⟨rfl, rfl, by decide, by decide⟩ rfl rfl (Nat.le_of_ble_eq_true rfl) dX4_since_73 rfl (fun r24 s25 h => ?_)
        refine jx_bipush 78 hX 59 (by decide) dX4_since_76 rfl ?_
        refine jx_callVi 81 hX (mX4_isIn _ D _ a0 r24 59 s25 h) jv_X4_87 jn_4 hc1 ⟨rfl, rfl, by decide, by decide⟩ rfl rfl (Nat.le_of_ble_eq_true rfl) dX4_since_78 rfl (fun r26 s27 h => ?_)
        obtain ⟨hz28, h⟩ := h
        have h := h hz28
        refine jx_if_eq 84 88 hX dX4_since_81 rfl (by decide) (fun hb29 => ?_) (fun hb29 => ?_)
        · have h := h.1 hb29
          refine jx_iconst 89 hX 0 (by decide) dX4_since_88 rfl ?_
          exact jx_sub [1, 2, 3, 0] rfl (b89 a0 a1 a2 x8 0 s27 h)
        · have h := h.2 hb29
          refine jx_iconst 85 hX 1 (by decide) dX4_since_84 rfl (jx_goto 89 hX dX4_since_85 (by decide) ?_)
          exact jx_sub [1, 2, 3, 0] rfl (b89 a0 a1 a2 x8 1 s27 h)
set_option maxHeartbeats 4000000 in
set_option maxRecDepth 100000 in
theorem mX4_wind (l : Launch) (D : jx_Dt) (post : Int32 → jx_St → Prop) (a0 : Nat) (a1 : Int32) (s : jx_St) (h : wX4_wind post a0 a1 s) : jx_Met l yX4_wind cX4_wind 8 (some .boolean) (jx_r 3 65) D jx_LM [.ref (D.2.1 a0), .int a1] s (jx_Qi D jx_LM (fun r u => (r = 0 ∨ r = 1) ∧ post r u)) := by
  refine jx_ofJ (by decide) (Nat.le_of_ble_eq_true rfl) (fun X hl hX => ?_)
  subst hl
  replace hX : jx_K D jx_LM X cX4_wind RX4 8 (some .boolean) (jx_r 3 65) (jx_Qi D jx_LM (fun r u => (r = 0 ∨ r = 1) ∧ post r u)) := hX
  show jx_J D jx_LM X 0 [(0, .ref (D.2.1 a0)), (1, .int a1)] [] s
  have b173 : ∀ (a0 : Nat) (a1 : Int32) (a4 : Int32) (a5 : Int32) (a6 : Int32) (k0 : Int32) (s : jx_St), wX4_wind_b173 post a0 a1 a4 a5 a6 k0 s → jx_J D jx_LM X 173 [(0, .ref (D.2.1 a0)), (1, .int a1), (4, .int a4), (5, .int a5), (6, .int a6)] [.int k0] s := by
    intro a0 a1 a4 a5 a6 k0 s h
    unfold wX4_wind_b173 at h
    refine jx_istore 175 hX [(7, .int k0), (0, .ref (D.2.1 a0)), (1, .int a1), (4, .int a4), (5, .int a5), (6, .int a6)] (by decide) rfl dX4_wind_173 rfl (jx_iload 177 hX 0 rfl dX4_wind_175 rfl ?_)
    refine jx_if_eq 180 230 hX dX4_wind_177 rfl (by decide) (fun hb42 => ?_) (fun hb42 => ?_)
    · have h := h.1 hb42
      refine jx_iload 232 hX 0 rfl dX4_wind_230 rfl ?_
      obtain ⟨hc43, h⟩ := h
      exact jx_zret hX dX4_wind_232 hc43 h
    · have h := h.2 hb42
      refine jx_aload_n 181 hX 1 rfl rfl dX4_wind_180 rfl ?_
      obtain ⟨hc44, h⟩ := h
      refine jx_getR 184 hX jf_X4_22 rfl hc44 dX4_wind_181 rfl (jx_bipush 186 hX 10 (by decide) dX4_wind_184 rfl (jx_iload_n 187 hX 2 rfl rfl dX4_wind_186 rfl (jx_imul 188 hX dX4_wind_187 rfl (jx_iconst 189 hX 4 (by decide) dX4_wind_188 rfl (jx_iadd 190 hX dX4_wind_189 rfl ?_)))))
      refine jx_iload 192 hX 3 rfl dX4_wind_190 rfl ?_
      obtain ⟨hc45, h⟩ := h
      refine jx_iastore 193 hX hc45 dX4_wind_192 rfl ?_
      refine jx_namu (fun s46 hs46 => ?_)
      have h := h s46 hs46
      refine jx_aload_n 194 hX 1 rfl rfl dX4_wind_193 rfl (jx_getR 197 hX jf_X4_22 rfl hc44 dX4_wind_194 rfl (jx_bipush 199 hX 10 (by decide) dX4_wind_197 rfl (jx_iload_n 200 hX 2 rfl rfl dX4_wind_199 rfl (jx_imul 201 hX dX4_wind_200 rfl (jx_iconst 202 hX 5 (by decide) dX4_wind_201 rfl ?_)))))
      refine jx_iadd 203 hX dX4_wind_202 rfl (jx_iload 205 hX 4 rfl dX4_wind_203 rfl ?_)
      obtain ⟨hc47, h⟩ := h
      refine jx_iastore 206 hX hc47 dX4_wind_205 rfl ?_
      refine jx_namu (fun s48 hs48 => ?_)
      have h := h s48 hs48
      refine jx_aload_n 207 hX 1 rfl rfl dX4_wind_206 rfl (jx_getR 210 hX jf_X4_22 rfl hc44 dX4_wind_207 rfl (jx_bipush 212 hX 10 (by decide) dX4_wind_210 rfl (jx_iload_n 213 hX 2 rfl rfl dX4_wind_212 rfl (jx_imul 214 hX dX4_wind_213 rfl (jx_bipush 216 hX 6 (by decide) dX4_wind_214 rfl ?_)))))
      refine jx_iadd 217 hX dX4_wind_216 rfl (jx_iload 219 hX 5 rfl dX4_wind_217 rfl ?_)
      obtain ⟨hc49, h⟩ := h
      refine jx_iastore 220 hX hc49 dX4_wind_219 rfl ?_
      refine jx_namu (fun s50 hs50 => ?_)
      have h := h s50 hs50
      refine jx_aload_n 221 hX 1 rfl rfl dX4_wind_220 rfl (jx_dup 222 hX rfl dX4_wind_221 rfl (jx_getI 225 hX jf_X4_62 rfl hc44 dX4_wind_222 rfl (jx_iconst 226 hX 1 (by decide) dX4_wind_225 rfl (jx_iadd 227 hX dX4_wind_226 rfl (jx_putI 230 hX jp_X4_62 rfl hc44 dX4_wind_227 rfl ?_)))))
      refine jx_namu (fun s51 hs51 => ?_)
      have h := h s51 hs51
      refine jx_iload 232 hX 0 rfl dX4_wind_230 rfl ?_
      obtain ⟨hc52, h⟩ := h
      exact jx_zret hX dX4_wind_232 hc52 h
  have b114 : ∀ (a0 : Nat) (a1 : Int32) (a2 : Int32) (a3 : Int32) (a4 : Int32) (a5 : Int32) (a6 : Int32) (s : jx_St), wX4_wind_b114 post a0 a1 a2 a3 a4 a5 a6 s → jx_J D jx_LM X 114 [(0, .ref (D.2.1 a0)), (1, .int a1), (2, .int a2), (3, .int a3), (4, .int a4), (5, .int a5), (6, .int a6)] [] s := by
    intro a0 a1 a2 a3 a4 a5 a6 s h
    unfold wX4_wind_b114 at h
    refine jx_aload_n 115 hX 0 rfl rfl dX4_wind_114 rfl (jx_iload_n 116 hX 2 rfl rfl dX4_wind_115 rfl (jx_iconst 117 hX 2 (by decide) dX4_wind_116 rfl (jx_isub 118 hX dX4_wind_117 rfl ?_)))
    obtain ⟨hc30, h⟩ := h
    refine jx_callVi 121 hX (mX4_sign _ D _ a0 (a2 - 2) s h) jv_X4_69 jn_4 hc30 ⟨rfl, rfl, by decide, by decide⟩ rfl rfl (Nat.le_of_ble_eq_true rfl) dX4_wind_118 rfl (fun r31 s32 h => ?_)
    refine jx_bipush 123 hX 75 (by decide) dX4_wind_121 rfl ?_
    refine jx_icmp_ne 126 172 hX dX4_wind_123 rfl (by decide) (fun hb33 => ?_) (fun hb33 => ?_)
    · have h := h.1 hb33
      refine jx_iconst 173 hX 0 (by decide) dX4_wind_172 rfl ?_
      exact jx_sub [0, 1, 4, 5, 6] rfl (b173 a0 a1 a4 a5 a6 0 s32 h)
    · have h := h.2 hb33
      refine jx_aload_n 127 hX 0 rfl rfl dX4_wind_126 rfl (jx_iload_n 128 hX 2 rfl rfl dX4_wind_127 rfl (jx_iconst 129 hX 1 (by decide) dX4_wind_128 rfl (jx_isub 130 hX dX4_wind_129 rfl ?_)))
      refine jx_callVi 133 hX (mX4_sign _ D _ a0 (a2 - 1) s32 h) jv_X4_69 jn_4 hc30 ⟨rfl, rfl, by decide, by decide⟩ rfl rfl (Nat.le_of_ble_eq_true rfl) dX4_wind_130 rfl (fun r34 s35 h => ?_)
      refine jx_bipush 135 hX 84 (by decide) dX4_wind_133 rfl ?_
      refine jx_icmp_ne 138 172 hX dX4_wind_135 rfl (by decide) (fun hb36 => ?_) (fun hb36 => ?_)
      · have h := h.1 hb36
        refine jx_iconst 173 hX 0 (by decide) dX4_wind_172 rfl ?_
        exact jx_sub [0, 1, 4, 5, 6] rfl (b173 a0 a1 a4 a5 a6 0 s35 h)
      · have h := h.2 hb36
        refine jx_iload 140 hX 5 rfl dX4_wind_138 rfl ?_
        refine jx_if_lt 143 172 hX dX4_wind_140 rfl (by decide) (fun hb37 => ?_) (fun hb37 => ?_)
        · have h := h.1 hb37
          refine jx_iconst 173 hX 0 (by decide) dX4_wind_172 rfl ?_
          exact jx_sub [0, 1, 4, 5, 6] rfl (b173 a0 a1 a4 a5 a6 0 s35 h)
        · have h := h.2 hb37
          refine jx_iload_n 144 hX 3 rfl rfl dX4_wind_143 rfl ?_
          refine jx_if_ne 147 168 hX dX4_wind_144 rfl (by decide) (fun hb38 => ?_) (fun hb38 => ?_)
          · have h := h.1 hb38
            refine jx_iconst 169 hX 1 (by decide) dX4_wind_168 rfl (jx_goto 173 hX dX4_wind_169 (by decide) ?_)
            exact jx_sub [0, 1, 4, 5, 6] rfl (b173 a0 a1 a4 a5 a6 1 s35 h)
          · have h := h.2 hb38
            refine jx_iload 149 hX 4 rfl dX4_wind_147 rfl ?_
            refine jx_if_lt 152 172 hX dX4_wind_149 rfl (by decide) (fun hb39 => ?_) (fun hb39 => ?_)
            · have h := h.1 hb39
              refine jx_iconst 173 hX 0 (by decide) dX4_wind_172 rfl ?_
              exact jx_sub [0, 1, 4, 5, 6] rfl (b173 a0 a1 a4 a5 a6 0 s35 h)
            · have h := h.2 hb39
              refine jx_iload 154 hX 4 rfl dX4_wind_152 rfl (jx_sipush 157 hX 360 (by decide) dX4_wind_154 rfl ?_)
              refine jx_icmp_gt 160 172 hX dX4_wind_157 rfl (by decide) (fun hb40 => ?_) (fun hb40 => ?_)
              · have h := h.1 hb40
                refine jx_iconst 173 hX 0 (by decide) dX4_wind_172 rfl ?_
                exact jx_sub [0, 1, 4, 5, 6] rfl (b173 a0 a1 a4 a5 a6 0 s35 h)
              · have h := h.2 hb40
                refine jx_iload 162 hX 4 rfl dX4_wind_160 rfl (jx_bipush 164 hX 10 (by decide) dX4_wind_162 rfl (jx_irem 165 hX (by decide) dX4_wind_164 rfl ?_))
                refine jx_if_ne 168 172 hX dX4_wind_165 rfl (by decide) (fun hb41 => ?_) (fun hb41 => ?_)
                · have h := h.1 hb41
                  refine jx_iconst 173 hX 0 (by decide) dX4_wind_172 rfl ?_
                  exact jx_sub [0, 1, 4, 5, 6] rfl (b173 a0 a1 a4 a5 a6 0 s35 h)
                · have h := h.2 hb41
                  refine jx_iconst 169 hX 1 (by decide) dX4_wind_168 rfl (jx_goto 173 hX dX4_wind_169 (by decide) ?_)
                  exact jx_sub [0, 1, 4, 5, 6] rfl (b173 a0 a1 a4 a5 a6 1 s35 h)
  have b83 : ∀ (a0 : Nat) (a1 : Int32) (a2 : Int32) (a3 : Int32) (a4 : Int32) (a5 : Int32) (k0 : Int32) (s : jx_St), wX4_wind_b83 post a0 a1 a2 a3 a4 a5 k0 s → jx_J D jx_LM X 83 [(0, .ref (D.2.1 a0)), (1, .int a1), (2, .int a2), (3, .int a3), (4, .int a4), (5, .int a5)] [.int k0] s := by
    intro a0 a1 a2 a3 a4 a5 k0 s h
    unfold wX4_wind_b83 at h
    refine jx_istore 85 hX [(6, .int k0), (0, .ref (D.2.1 a0)), (1, .int a1), (2, .int a2), (3, .int a3), (4, .int a4), (5, .int a5)] (by decide) rfl dX4_wind_83 rfl (jx_iload_n 86 hX 3 rfl rfl dX4_wind_85 rfl (jx_bipush 88 hX 7 (by decide) dX4_wind_86 rfl ?_))
    refine jx_icmp_eq 91 114 hX dX4_wind_88 rfl (by decide) (fun hb23 => ?_) (fun hb23 => ?_)
    · have h := h.1 hb23
      exact jx_sub [1, 2, 3, 4, 5, 6, 0] rfl (b114 a0 a1 a2 a3 a4 a5 k0 s h)
    · have h := h.2 hb23
      refine jx_iload_n 92 hX 3 rfl rfl dX4_wind_91 rfl (jx_bipush 94 hX 10 (by decide) dX4_wind_92 rfl ?_)
      refine jx_icmp_ne 97 172 hX dX4_wind_94 rfl (by decide) (fun hb24 => ?_) (fun hb24 => ?_)
      · have h := h.1 hb24
        refine jx_iconst 173 hX 0 (by decide) dX4_wind_172 rfl ?_
        exact jx_sub [1, 2, 5, 6, 0] rfl (b173 a0 a1 a4 a5 k0 0 s h)
      · have h := h.2 hb24
        refine jx_aload_n 98 hX 1 rfl rfl dX4_wind_97 rfl (jx_iconst 99 hX 5 (by decide) dX4_wind_98 rfl ?_)
        obtain ⟨hc25, h⟩ := h
        refine jx_callVi 102 hX (mX4_sign _ D _ a0 5 s h) jv_X4_69 jn_4 hc25 ⟨rfl, rfl, by decide, by decide⟩ rfl rfl (Nat.le_of_ble_eq_true rfl) dX4_wind_99 rfl (fun r26 s27 h => ?_)
        refine jx_bipush 104 hX 71 (by decide) dX4_wind_102 rfl ?_
        refine jx_icmp_ne 107 172 hX dX4_wind_104 rfl (by decide) (fun hb28 => ?_) (fun hb28 => ?_)
        · have h := h.1 hb28
          refine jx_iconst 173 hX 0 (by decide) dX4_wind_172 rfl ?_
          exact jx_sub [1, 2, 5, 6, 0] rfl (b173 a0 a1 a4 a5 k0 0 s27 h)
        · have h := h.2 hb28
          refine jx_iload 109 hX 0 rfl dX4_wind_107 rfl (jx_iload 111 hX 6 rfl dX4_wind_109 rfl ?_)
          refine jx_icmp_le 114 172 hX dX4_wind_111 rfl (by decide) (fun hb29 => ?_) (fun hb29 => ?_)
          · have h := h.1 hb29
            refine jx_iconst 173 hX 0 (by decide) dX4_wind_172 rfl ?_
            exact jx_sub [1, 2, 5, 6, 0] rfl (b173 a0 a1 a4 a5 k0 0 s27 h)
          · have h := h.2 hb29
            exact jx_sub [1, 2, 3, 4, 5, 6, 0] rfl (b114 a0 a1 a2 a3 a4 a5 k0 s27 h)
  have b56 : ∀ (a0 : Nat) (a1 : Int32) (a2 : Int32) (a3 : Int32) (k0 : Int32) (s : jx_St), wX4_wind_b56 post a0 a1 a2 a3 k0 s → jx_J D jx_LM X 56 [(0, .ref (D.2.1 a0)), (1, .int a1), (2, .int a2), (3, .int a3)] [.int k0] s := by
    intro a0 a1 a2 a3 k0 s h
    unfold wX4_wind_b56 at h
    refine jx_istore 58 hX [(4, .int k0), (0, .ref (D.2.1 a0)), (1, .int a1), (2, .int a2), (3, .int a3)] (by decide) rfl dX4_wind_56 rfl (jx_aload_n 59 hX 1 rfl rfl dX4_wind_58 rfl (jx_iconst 60 hX 3 (by decide) dX4_wind_59 rfl (jx_iconst 61 hX 2 (by decide) dX4_wind_60 rfl ?_)))
    obtain ⟨hc17, h⟩ := h
    refine jx_callVi 64 hX (mX4_number _ D _ a0 3 2 s h) jv_X4_76 jn_4 hc17 ⟨rfl, rfl, by decide, by decide⟩ rfl rfl (Nat.le_of_ble_eq_true rfl) dX4_wind_61 rfl (fun r18 s19 h => ?_)
    refine jx_istore 66 hX [(5, .int r18), (4, .int k0), (0, .ref (D.2.1 a0)), (1, .int a1), (2, .int a2), (3, .int a3)] (by decide) rfl dX4_wind_64 rfl (jx_iload_n 67 hX 4 rfl rfl dX4_wind_66 rfl (jx_bipush 69 hX 10 (by decide) dX4_wind_67 rfl ?_))
    refine jx_icmp_ne 72 82 hX dX4_wind_69 rfl (by decide) (fun hb20 => ?_) (fun hb20 => ?_)
    · have h := h.1 hb20
      refine jx_iconst 83 hX 0 (by decide) dX4_wind_82 rfl ?_
      exact jx_sub [2, 3, 4, 5, 1, 0] rfl (b83 a0 a1 a2 a3 k0 r18 0 s19 h)
    · have h := h.2 hb20
      refine jx_aload_n 73 hX 2 rfl rfl dX4_wind_72 rfl (jx_bipush 75 hX 6 (by decide) dX4_wind_73 rfl (jx_iconst 76 hX 2 (by decide) dX4_wind_75 rfl ?_))
      refine jx_callVi 79 hX (mX4_number _ D _ a0 6 2 s19 h) jv_X4_76 jn_4 hc17 ⟨rfl, rfl, by decide, by decide⟩ rfl rfl (Nat.le_of_ble_eq_true rfl) dX4_wind_76 rfl (fun r21 s22 h => ?_)
      refine jx_goto 83 hX dX4_wind_79 (by decide) ?_
      exact jx_sub [2, 3, 4, 5, 1, 0] rfl (b83 a0 a1 a2 a3 k0 r18 r21 s22 h)
  have b40 : ∀ (a0 : Nat) (a1 : Int32) (a2 : Int32) (k0 : Int32) (s : jx_St), wX4_wind_b40 post a0 a1 a2 k0 s → jx_J D jx_LM X 40 [(0, .ref (D.2.1 a0)), (1, .int a1), (2, .int a2)] [.int k0] s := by
    intro a0 a1 a2 k0 s h
    unfold wX4_wind_b40 at h
    refine jx_istore_n 41 hX [(3, .int k0), (0, .ref (D.2.1 a0)), (1, .int a1), (2, .int a2)] rfl (by decide) rfl dX4_wind_40 rfl (jx_iload_n 42 hX 0 rfl rfl dX4_wind_41 rfl ?_)
    refine jx_if_eq 45 50 hX dX4_wind_42 rfl (by decide) (fun hb13 => ?_) (fun hb13 => ?_)
    · have h := h.1 hb13
      refine jx_aload_n 51 hX 1 rfl rfl dX4_wind_50 rfl (jx_iconst 52 hX 0 (by decide) dX4_wind_51 rfl (jx_iconst 53 hX 3 (by decide) dX4_wind_52 rfl ?_))
      obtain ⟨hc14, h⟩ := h
      refine jx_callVi 56 hX (mX4_number _ D _ a0 0 3 s h) jv_X4_76 jn_4 hc14 ⟨rfl, rfl, by decide, by decide⟩ rfl rfl (Nat.le_of_ble_eq_true rfl) dX4_wind_53 rfl (fun r15 s16 h => ?_)
      exact jx_sub [1, 2, 3, 0] rfl (b56 a0 a1 a2 k0 r15 s16 h)
    · have h := h.2 hb13
      refine jx_bipush 47 hX (-2) (by decide) dX4_wind_45 rfl (jx_goto 56 hX dX4_wind_47 (by decide) ?_)
      exact jx_sub [1, 2, 3, 0] rfl (b56 a0 a1 a2 k0 (-2) s h)
  unfold wX4_wind at h
  refine jx_aload_n 1 hX 0 rfl rfl dX4_wind_0 rfl ?_
  obtain ⟨hc1, h⟩ := h
  refine jx_callVi 4 hX (mX4_size _ D _ a0 s h) jv_X4_65 jn_4 hc1 ⟨rfl, rfl, by decide, by decide⟩ rfl rfl (Nat.le_of_ble_eq_true rfl) dX4_wind_1 rfl (fun r2 s3 h => ?_)
  refine jx_istore_n 5 hX [(2, .int r2), (0, .ref (D.2.1 a0)), (1, .int a1)] rfl (by decide) rfl dX4_wind_4 rfl (jx_aload_n 6 hX 1 rfl rfl dX4_wind_5 rfl (jx_iconst 7 hX 0 (by decide) dX4_wind_6 rfl ?_))
  refine jx_callVi 10 hX (mX4_sign _ D _ a0 0 s3 h) jv_X4_69 jn_4 hc1 ⟨rfl, rfl, by decide, by decide⟩ rfl rfl (Nat.le_of_ble_eq_true rfl) dX4_wind_7 rfl (fun r4 s5 h => ?_)
  refine jx_bipush 12 hX 86 (by decide) dX4_wind_10 rfl ?_
  refine jx_icmp_ne 15 39 hX dX4_wind_12 rfl (by decide) (fun hb6 => ?_) (fun hb6 => ?_)
  · have h := h.1 hb6
    refine jx_iconst 40 hX 0 (by decide) dX4_wind_39 rfl ?_
    exact jx_sub [1, 2, 0] rfl (b40 a0 a1 r2 0 s5 h)
  · have h := h.2 hb6
    refine jx_aload_n 16 hX 1 rfl rfl dX4_wind_15 rfl (jx_iconst 17 hX 1 (by decide) dX4_wind_16 rfl ?_)
    refine jx_callVi 20 hX (mX4_sign _ D _ a0 1 s5 h) jv_X4_69 jn_4 hc1 ⟨rfl, rfl, by decide, by decide⟩ rfl rfl (Nat.le_of_ble_eq_true rfl) dX4_wind_17 rfl (fun r7 s8 h => ?_)
    refine jx_bipush 22 hX 82 (by decide) dX4_wind_20 rfl ?_
    refine jx_icmp_ne 25 39 hX dX4_wind_22 rfl (by decide) (fun hb9 => ?_) (fun hb9 => ?_)
    · have h := h.1 hb9
      refine jx_iconst 40 hX 0 (by decide) dX4_wind_39 rfl ?_
      exact jx_sub [1, 2, 0] rfl (b40 a0 a1 r2 0 s8 h)
    · have h := h.2 hb9
      refine jx_aload_n 26 hX 1 rfl rfl dX4_wind_25 rfl (jx_iconst 27 hX 2 (by decide) dX4_wind_26 rfl ?_)
      refine jx_callVi 30 hX (mX4_sign _ D _ a0 2 s8 h) jv_X4_69 jn_4 hc1 ⟨rfl, rfl, by decide, by decide⟩ rfl rfl (Nat.le_of_ble_eq_true rfl) dX4_wind_27 rfl (fun r10 s11 h => ?_)
      refine jx_bipush 32 hX 66 (by decide) dX4_wind_30 rfl ?_
      refine jx_icmp_ne 35 39 hX dX4_wind_32 rfl (by decide) (fun hb12 => ?_) (fun hb12 => ?_)
      · have h := h.1 hb12
        refine jx_iconst 40 hX 0 (by decide) dX4_wind_39 rfl ?_
        exact jx_sub [1, 2, 0] rfl (b40 a0 a1 r2 0 s11 h)
      · have h := h.2 hb12
        refine jx_iconst 36 hX 1 (by decide) dX4_wind_35 rfl (jx_goto 40 hX dX4_wind_36 (by decide) ?_)
        exact jx_sub [1, 2, 0] rfl (b40 a0 a1 r2 1 s11 h)
set_option maxHeartbeats 4000000 in
set_option maxRecDepth 100000 in
theorem mX4_clear (l : Launch) (D : jx_Dt) (post : Int32 → jx_St → Prop) (a0 : Nat) (a1 : Int32) (s : jx_St) (h : wX4_clear post a0 a1 s) : jx_Met l yX4_clear cX4_clear 2 (some .boolean) (jx_r 3 64) D jx_LM [.ref (D.2.1 a0), .int a1] s (jx_Qi D jx_LM (fun r u => (r = 0 ∨ r = 1) ∧ post r u)) := by
  refine jx_ofJ (by decide) (Nat.le_of_ble_eq_true rfl) (fun X hl hX => ?_)
  subst hl
  replace hX : jx_K D jx_LM X cX4_clear RX4 2 (some .boolean) (jx_r 3 64) (jx_Qi D jx_LM (fun r u => (r = 0 ∨ r = 1) ∧ post r u)) := hX
  show jx_J D jx_LM X 0 [(0, .ref (D.2.1 a0)), (1, .int a1)] [] s
  unfold wX4_clear at h
  refine jx_aload_n 1 hX 0 rfl rfl dX4_clear_0 rfl ?_
  obtain ⟨hc1, h⟩ := h
  refine jx_callVl 4 hX (mX4_word _ D _ a0 s h) jv_X4_122 jn_4 hc1 ⟨rfl, rfl, by decide, by decide⟩ rfl rfl (Nat.le_of_ble_eq_true rfl) dX4_clear_1 rfl (fun r2 s3 h => ?_)
  refine jx_ldc2 7 hX jc_X4_131 dX4_clear_4 rfl (jx_lcmp 8 hX dX4_clear_7 rfl ?_)
  refine jx_if_eq 11 13 hX dX4_clear_8 rfl (by decide) (fun hb4 => ?_) (fun hb4 => ?_)
  · have h := h.1 hb4
    refine jx_aload_n 14 hX 0 rfl rfl dX4_clear_13 rfl (jx_getR 17 hX jf_X4_22 rfl hc1 dX4_clear_14 rfl (jx_bipush 19 hX 10 (by decide) dX4_clear_17 rfl (jx_iload_n 20 hX 1 rfl rfl dX4_clear_19 rfl (jx_imul 21 hX dX4_clear_20 rfl (jx_bipush 23 hX 7 (by decide) dX4_clear_21 rfl ?_)))))
    refine jx_iadd 24 hX dX4_clear_23 rfl (jx_sipush 27 hX 10000 (by decide) dX4_clear_24 rfl ?_)
    obtain ⟨hc5, h⟩ := h
    refine jx_iastore 28 hX hc5 dX4_clear_27 rfl ?_
    refine jx_namu (fun s6 hs6 => ?_)
    have h := h s6 hs6
    refine jx_aload_n 29 hX 0 rfl rfl dX4_clear_28 rfl (jx_getR 32 hX jf_X4_22 rfl hc1 dX4_clear_29 rfl (jx_bipush 34 hX 10 (by decide) dX4_clear_32 rfl (jx_iload_n 35 hX 1 rfl rfl dX4_clear_34 rfl (jx_imul 36 hX dX4_clear_35 rfl (jx_bipush 38 hX 8 (by decide) dX4_clear_36 rfl ?_)))))
    refine jx_iadd 39 hX dX4_clear_38 rfl (jx_iconst 40 hX 0 (by decide) dX4_clear_39 rfl ?_)
    obtain ⟨hc7, h⟩ := h
    refine jx_iastore 41 hX hc7 dX4_clear_40 rfl ?_
    refine jx_namu (fun s8 hs8 => ?_)
    have h := h s8 hs8
    refine jx_aload_n 42 hX 0 rfl rfl dX4_clear_41 rfl (jx_getR 45 hX jf_X4_22 rfl hc1 dX4_clear_42 rfl (jx_bipush 47 hX 10 (by decide) dX4_clear_45 rfl (jx_iload_n 48 hX 1 rfl rfl dX4_clear_47 rfl (jx_imul 49 hX dX4_clear_48 rfl (jx_bipush 51 hX 9 (by decide) dX4_clear_49 rfl ?_)))))
    refine jx_iadd 52 hX dX4_clear_51 rfl (jx_iconst 53 hX 0 (by decide) dX4_clear_52 rfl ?_)
    obtain ⟨hc9, h⟩ := h
    refine jx_iastore 54 hX hc9 dX4_clear_53 rfl ?_
    refine jx_namu (fun s10 hs10 => ?_)
    have h := h s10 hs10
    refine jx_aload_n 55 hX 0 rfl rfl dX4_clear_54 rfl (jx_dup 56 hX rfl dX4_clear_55 rfl (jx_getI 59 hX jf_X4_62 rfl hc1 dX4_clear_56 rfl (jx_iconst 60 hX 1 (by decide) dX4_clear_59 rfl (jx_iadd 61 hX dX4_clear_60 rfl (jx_putI 64 hX jp_X4_62 rfl hc1 dX4_clear_61 rfl ?_)))))
    refine jx_namu (fun s11 hs11 => ?_)
    have h := h s11 hs11
    refine jx_iconst 65 hX 1 (by decide) dX4_clear_64 rfl ?_
    exact jx_zret hX dX4_clear_65 (by decide) h
  · have h := h.2 hb4
    refine jx_iconst 12 hX 0 (by decide) dX4_clear_11 rfl ?_
    exact jx_zret hX dX4_clear_12 (by decide) h
set_option maxHeartbeats 4000000 in
set_option maxRecDepth 100000 in
theorem mX4_visibility (l : Launch) (D : jx_Dt) (post : Int32 → jx_St → Prop) (a0 : Nat) (a1 : Int32) (s : jx_St) (h : wX4_visibility post a0 a1 s) : jx_Met l yX4_visibility cX4_visibility 3 (some .boolean) (jx_r 3 65) D jx_LM [.ref (D.2.1 a0), .int a1] s (jx_Qi D jx_LM (fun r u => (r = 0 ∨ r = 1) ∧ post r u)) := by
  refine jx_ofJ (by decide) (Nat.le_of_ble_eq_true rfl) (fun X hl hX => ?_)
  subst hl
  replace hX : jx_K D jx_LM X cX4_visibility RX4 3 (some .boolean) (jx_r 3 65) (jx_Qi D jx_LM (fun r u => (r = 0 ∨ r = 1) ∧ post r u)) := hX
  show jx_J D jx_LM X 0 [(0, .ref (D.2.1 a0)), (1, .int a1)] [] s
  have b22 : ∀ (a0 : Nat) (a1 : Int32) (k0 : Int32) (s : jx_St), wX4_visibility_b22 post a0 a1 k0 s → jx_J D jx_LM X 22 [(0, .ref (D.2.1 a0)), (1, .int a1)] [.int k0] s := by
    intro a0 a1 k0 s h
    unfold wX4_visibility_b22 at h
    refine jx_istore_n 23 hX [(2, .int k0), (0, .ref (D.2.1 a0)), (1, .int a1)] rfl (by decide) rfl dX4_visibility_22 rfl (jx_iload_n 24 hX 0 rfl rfl dX4_visibility_23 rfl ?_)
    refine jx_if_eq 27 55 hX dX4_visibility_24 rfl (by decide) (fun hb8 => ?_) (fun hb8 => ?_)
    · have h := h.1 hb8
      refine jx_iload_n 56 hX 0 rfl rfl dX4_visibility_55 rfl ?_
      obtain ⟨hc9, h⟩ := h
      exact jx_zret hX dX4_visibility_56 hc9 h
    · have h := h.2 hb8
      refine jx_aload_n 28 hX 1 rfl rfl dX4_visibility_27 rfl ?_
      obtain ⟨hc10, h⟩ := h
      refine jx_getR 31 hX jf_X4_22 rfl hc10 dX4_visibility_28 rfl (jx_bipush 33 hX 10 (by decide) dX4_visibility_31 rfl (jx_iload_n 34 hX 2 rfl rfl dX4_visibility_33 rfl (jx_imul 35 hX dX4_visibility_34 rfl (jx_bipush 37 hX 7 (by decide) dX4_visibility_35 rfl (jx_iadd 38 hX dX4_visibility_37 rfl ?_)))))
      refine jx_aload_n 39 hX 1 rfl rfl dX4_visibility_38 rfl (jx_iconst 40 hX 0 (by decide) dX4_visibility_39 rfl (jx_iconst 41 hX 4 (by decide) dX4_visibility_40 rfl ?_))
      refine jx_callVi 44 hX (mX4_number _ D _ a0 0 4 s h) jv_X4_76 jn_4 hc10 ⟨rfl, rfl, by decide, by decide⟩ rfl rfl (Nat.le_of_ble_eq_true rfl) dX4_visibility_41 rfl (fun r11 s12 h => ?_)
      obtain ⟨hc13, h⟩ := h
      refine jx_iastore 45 hX hc13 dX4_visibility_44 rfl ?_
      refine jx_namu (fun s14 hs14 => ?_)
      have h := h s14 hs14
      refine jx_aload_n 46 hX 1 rfl rfl dX4_visibility_45 rfl (jx_dup 47 hX rfl dX4_visibility_46 rfl (jx_getI 50 hX jf_X4_62 rfl hc10 dX4_visibility_47 rfl (jx_iconst 51 hX 1 (by decide) dX4_visibility_50 rfl (jx_iadd 52 hX dX4_visibility_51 rfl (jx_putI 55 hX jp_X4_62 rfl hc10 dX4_visibility_52 rfl ?_)))))
      refine jx_namu (fun s15 hs15 => ?_)
      have h := h s15 hs15
      refine jx_iload_n 56 hX 0 rfl rfl dX4_visibility_55 rfl ?_
      obtain ⟨hc16, h⟩ := h
      exact jx_zret hX dX4_visibility_56 hc16 h
  unfold wX4_visibility at h
  refine jx_aload_n 1 hX 0 rfl rfl dX4_visibility_0 rfl ?_
  obtain ⟨hc1, h⟩ := h
  refine jx_callVi 4 hX (mX4_size _ D _ a0 s h) jv_X4_65 jn_4 hc1 ⟨rfl, rfl, by decide, by decide⟩ rfl rfl (Nat.le_of_ble_eq_true rfl) dX4_visibility_1 rfl (fun r2 s3 h => ?_)
  refine jx_iconst 5 hX 4 (by decide) dX4_visibility_4 rfl ?_
  refine jx_icmp_ne 8 21 hX dX4_visibility_5 rfl (by decide) (fun hb4 => ?_) (fun hb4 => ?_)
  · have h := h.1 hb4
    refine jx_iconst 22 hX 0 (by decide) dX4_visibility_21 rfl ?_
    exact jx_sub [0, 1] rfl (b22 a0 a1 0 s3 h)
  · have h := h.2 hb4
    refine jx_aload_n 9 hX 0 rfl rfl dX4_visibility_8 rfl (jx_iconst 10 hX 0 (by decide) dX4_visibility_9 rfl (jx_iconst 11 hX 4 (by decide) dX4_visibility_10 rfl ?_))
    refine jx_callVi 14 hX (mX4_number _ D _ a0 0 4 s3 h) jv_X4_76 jn_4 hc1 ⟨rfl, rfl, by decide, by decide⟩ rfl rfl (Nat.le_of_ble_eq_true rfl) dX4_visibility_11 rfl (fun r5 s6 h => ?_)
    refine jx_if_lt 17 21 hX dX4_visibility_14 rfl (by decide) (fun hb7 => ?_) (fun hb7 => ?_)
    · have h := h.1 hb7
      refine jx_iconst 22 hX 0 (by decide) dX4_visibility_21 rfl ?_
      exact jx_sub [0, 1] rfl (b22 a0 a1 0 s6 h)
    · have h := h.2 hb7
      refine jx_iconst 18 hX 1 (by decide) dX4_visibility_17 rfl (jx_goto 22 hX dX4_visibility_18 (by decide) ?_)
      exact jx_sub [0, 1] rfl (b22 a0 a1 1 s6 h)
set_option maxHeartbeats 4000000 in
set_option maxRecDepth 100000 in
theorem mX4_firstKind (l : Launch) (D : jx_Dt) (post : Int32 → jx_St → Prop) (a0 : Int32) (s : jx_St) (h : wX4_firstKind post a0 s) : jx_Met l yX4_firstKind cX4_firstKind 1 (some .int) (jx_r 0 0) D jx_LM [.int a0] s (jx_Qi D jx_LM post) := by
  refine jx_ofJ (by decide) (Nat.le_of_ble_eq_true rfl) (fun X hl hX => ?_)
  subst hl
  replace hX : jx_K D jx_LM X cX4_firstKind RX4 1 (some .int) (jx_r 0 0) (jx_Qi D jx_LM post) := hX
  show jx_J D jx_LM X 0 [(0, .int a0)] [] s
  unfold wX4_firstKind at h
  refine jx_iload_n 1 hX 0 rfl rfl dX4_firstKind_0 rfl ?_
  by_cases hb1 : a0 = 16963
  · have h := h.1 hb1
    refine jx_lookup 78 (off := 77) hX dX4_firstKind_1 (by decide) (by rw [hb1]; decide) (by decide) ?_
    refine jx_iconst 79 hX 1 (by decide) dX4_firstKind_78 rfl ?_
    exact jx_iret hX dX4_firstKind_79 h
  · have h := h.2
    by_cases hb2 : a0 = 16972
    · have h := h.1 hb2
      refine jx_lookup 84 (off := 83) hX dX4_firstKind_1 (by decide) (by rw [hb2]; decide) (by decide) ?_
      refine jx_iconst 85 hX 4 (by decide) dX4_firstKind_84 rfl ?_
      exact jx_iret hX dX4_firstKind_85 h
    · have h := h.2
      by_cases hb3 : a0 = 17490
      · have h := h.1 hb3
        refine jx_lookup 82 (off := 81) hX dX4_firstKind_1 (by decide) (by rw [hb3]; decide) (by decide) ?_
        refine jx_iconst 83 hX 3 (by decide) dX4_firstKind_82 rfl ?_
        exact jx_iret hX dX4_firstKind_83 h
      · have h := h.2
        by_cases hb4 : a0 = 18010
        · have h := h.1 hb4
          refine jx_lookup 91 (off := 90) hX dX4_firstKind_1 (by decide) (by rw [hb4]; decide) (by decide) ?_
          refine jx_bipush 93 hX 7 (by decide) dX4_firstKind_91 rfl ?_
          exact jx_iret hX dX4_firstKind_93 h
        · have h := h.2
          by_cases hb5 : a0 = 19785
          · have h := h.1 hb5
            refine jx_lookup 76 (off := 75) hX dX4_firstKind_1 (by decide) (by rw [hb5]; decide) (by decide) ?_
            refine jx_iconst 77 hX 0 (by decide) dX4_firstKind_76 rfl ?_
            exact jx_iret hX dX4_firstKind_77 h
          · have h := h.2
            by_cases hb6 : a0 = 20562
            · have h := h.1 hb6
              refine jx_lookup 80 (off := 79) hX dX4_firstKind_1 (by decide) (by rw [hb6]; decide) (by decide) ?_
              refine jx_iconst 81 hX 2 (by decide) dX4_firstKind_80 rfl ?_
              exact jx_iret hX dX4_firstKind_81 h
            · have h := h.2
              by_cases hb7 : a0 = 21320
              · have h := h.1 hb7
                refine jx_lookup 86 (off := 85) hX dX4_firstKind_1 (by decide) (by rw [hb7]; decide) (by decide) ?_
                refine jx_iconst 87 hX 5 (by decide) dX4_firstKind_86 rfl ?_
                exact jx_iret hX dX4_firstKind_87 h
              · have h := h.2
                by_cases hb8 : a0 = 21587
                · have h := h.1 hb8
                  refine jx_lookup 88 (off := 87) hX dX4_firstKind_1 (by decide) (by rw [hb8]; decide) (by decide) ?_
                  refine jx_bipush 90 hX 6 (by decide) dX4_firstKind_88 rfl ?_
                  exact jx_iret hX dX4_firstKind_90 h
                · have h := h.2
                  have h := h hb1 hb2 hb3 hb4 hb5 hb6 hb7 hb8
                  have ehb1 : (a0 : Int32).toInt ≠ 16963 := fun z => hb1 (Int32.toInt_inj.mp (z.trans (by decide)))
                  have ehb2 : (a0 : Int32).toInt ≠ 16972 := fun z => hb2 (Int32.toInt_inj.mp (z.trans (by decide)))
                  have ehb3 : (a0 : Int32).toInt ≠ 17490 := fun z => hb3 (Int32.toInt_inj.mp (z.trans (by decide)))
                  have ehb4 : (a0 : Int32).toInt ≠ 18010 := fun z => hb4 (Int32.toInt_inj.mp (z.trans (by decide)))
                  have ehb5 : (a0 : Int32).toInt ≠ 19785 := fun z => hb5 (Int32.toInt_inj.mp (z.trans (by decide)))
                  have ehb6 : (a0 : Int32).toInt ≠ 20562 := fun z => hb6 (Int32.toInt_inj.mp (z.trans (by decide)))
                  have ehb7 : (a0 : Int32).toInt ≠ 21320 := fun z => hb7 (Int32.toInt_inj.mp (z.trans (by decide)))
                  have ehb8 : (a0 : Int32).toInt ≠ 21587 := fun z => hb8 (Int32.toInt_inj.mp (z.trans (by decide)))
                  refine jx_lookup 94 (off := 93) hX dX4_firstKind_1 (by decide) (jx_lkd (by intro q hq; simp only [List.mem_cons, List.not_mem_nil, or_false] at hq; rcases hq with rfl | rfl | rfl | rfl | rfl | rfl | rfl | rfl <;> (dsimp only; omega))) (by decide) ?_
                  refine jx_iconst 95 hX (-1) (by decide) dX4_firstKind_94 rfl ?_
                  exact jx_iret hX dX4_firstKind_95 h
set_option maxHeartbeats 4000000 in
set_option maxRecDepth 100000 in
theorem mX4_thirdKind (l : Launch) (D : jx_Dt) (post : Int32 → jx_St → Prop) (a0 : Int32) (s : jx_St) (h : wX4_thirdKind post a0 s) : jx_Met l yX4_thirdKind cX4_thirdKind 1 (some .int) (jx_r 0 0) D jx_LM [.int a0] s (jx_Qi D jx_LM post) := by
  refine jx_ofJ (by decide) (Nat.le_of_ble_eq_true rfl) (fun X hl hX => ?_)
  subst hl
  replace hX : jx_K D jx_LM X cX4_thirdKind RX4 1 (some .int) (jx_r 0 0) (jx_Qi D jx_LM post) := hX
  show jx_J D jx_LM X 0 [(0, .int a0)] [] s
  unfold wX4_thirdKind at h
  refine jx_iload_n 1 hX 0 rfl rfl dX4_thirdKind_0 rfl ?_
  by_cases hb1 : a0 = 17491
  · have h := h.1 hb1
    refine jx_lookup 108 (off := 107) hX dX4_thirdKind_1 (by decide) (by rw [hb1]; decide) (by decide) ?_
    refine jx_bipush 110 hX 18 (by decide) dX4_thirdKind_108 rfl ?_
    exact jx_iret hX dX4_thirdKind_110 h
  · have h := h.2
    by_cases hb2 : a0 = 17493
    · have h := h.1 hb2
      refine jx_lookup 87 (off := 86) hX dX4_thirdKind_1 (by decide) (by rw [hb2]; decide) (by decide) ?_
      refine jx_bipush 89 hX 11 (by decide) dX4_thirdKind_87 rfl ?_
      exact jx_iret hX dX4_thirdKind_89 h
    · have h := h.2
      by_cases hb3 : a0 = 17987
      · have h := h.1 hb3
        refine jx_lookup 102 (off := 101) hX dX4_thirdKind_1 (by decide) (by rw [hb3]; decide) (by decide) ?_
        refine jx_bipush 104 hX 16 (by decide) dX4_thirdKind_102 rfl ?_
        exact jx_iret hX dX4_thirdKind_104 h
      · have h := h.2
        by_cases hb4 : a0 = 18522
        · have h := h.1 hb4
          refine jx_lookup 93 (off := 92) hX dX4_thirdKind_1 (by decide) (by rw [hb4]; decide) (by decide) ?_
          refine jx_bipush 95 hX 13 (by decide) dX4_thirdKind_93 rfl ?_
          exact jx_iret hX dX4_thirdKind_95 h
        · have h := h.2
          by_cases hb5 : a0 = 20559
          · have h := h.1 hb5
            refine jx_lookup 96 (off := 95) hX dX4_thirdKind_1 (by decide) (by rw [hb5]; decide) (by decide) ?_
            refine jx_bipush 98 hX 14 (by decide) dX4_thirdKind_96 rfl ?_
            exact jx_iret hX dX4_thirdKind_98 h
          · have h := h.2
            by_cases hb6 : a0 = 21313
            · have h := h.1 hb6
              refine jx_lookup 90 (off := 89) hX dX4_thirdKind_1 (by decide) (by rw [hb6]; decide) (by decide) ?_
              refine jx_bipush 92 hX 12 (by decide) dX4_thirdKind_90 rfl ?_
              exact jx_iret hX dX4_thirdKind_92 h
            · have h := h.2
              by_cases hb7 : a0 = 21329
              · have h := h.1 hb7
                refine jx_lookup 99 (off := 98) hX dX4_thirdKind_1 (by decide) (by rw [hb7]; decide) (by decide) ?_
                refine jx_bipush 101 hX 15 (by decide) dX4_thirdKind_99 rfl ?_
                exact jx_iret hX dX4_thirdKind_101 h
              · have h := h.2
                by_cases hb8 : a0 = 21331
                · have h := h.1 hb8
                  refine jx_lookup 105 (off := 104) hX dX4_thirdKind_1 (by decide) (by rw [hb8]; decide) (by decide) ?_
                  refine jx_bipush 107 hX 17 (by decide) dX4_thirdKind_105 rfl ?_
                  exact jx_iret hX dX4_thirdKind_107 h
                · have h := h.2
                  by_cases hb9 : a0 = 22081
                  · have h := h.1 hb9
                    refine jx_lookup 84 (off := 83) hX dX4_thirdKind_1 (by decide) (by rw [hb9]; decide) (by decide) ?_
                    refine jx_bipush 86 hX 10 (by decide) dX4_thirdKind_84 rfl ?_
                    exact jx_iret hX dX4_thirdKind_86 h
                  · have h := h.2
                    have h := h hb1 hb2 hb3 hb4 hb5 hb6 hb7 hb8 hb9
                    have ehb1 : (a0 : Int32).toInt ≠ 17491 := fun z => hb1 (Int32.toInt_inj.mp (z.trans (by decide)))
                    have ehb2 : (a0 : Int32).toInt ≠ 17493 := fun z => hb2 (Int32.toInt_inj.mp (z.trans (by decide)))
                    have ehb3 : (a0 : Int32).toInt ≠ 17987 := fun z => hb3 (Int32.toInt_inj.mp (z.trans (by decide)))
                    have ehb4 : (a0 : Int32).toInt ≠ 18522 := fun z => hb4 (Int32.toInt_inj.mp (z.trans (by decide)))
                    have ehb5 : (a0 : Int32).toInt ≠ 20559 := fun z => hb5 (Int32.toInt_inj.mp (z.trans (by decide)))
                    have ehb6 : (a0 : Int32).toInt ≠ 21313 := fun z => hb6 (Int32.toInt_inj.mp (z.trans (by decide)))
                    have ehb7 : (a0 : Int32).toInt ≠ 21329 := fun z => hb7 (Int32.toInt_inj.mp (z.trans (by decide)))
                    have ehb8 : (a0 : Int32).toInt ≠ 21331 := fun z => hb8 (Int32.toInt_inj.mp (z.trans (by decide)))
                    have ehb9 : (a0 : Int32).toInt ≠ 22081 := fun z => hb9 (Int32.toInt_inj.mp (z.trans (by decide)))
                    refine jx_lookup 111 (off := 110) hX dX4_thirdKind_1 (by decide) (jx_lkd (by intro q hq; simp only [List.mem_cons, List.not_mem_nil, or_false] at hq; rcases hq with rfl | rfl | rfl | rfl | rfl | rfl | rfl | rfl | rfl <;> (dsimp only; omega))) (by decide) ?_
                    refine jx_iconst 112 hX (-1) (by decide) dX4_thirdKind_111 rfl ?_
                    exact jx_iret hX dX4_thirdKind_112 h
set_option maxHeartbeats 4000000 in
set_option maxRecDepth 100000 in
theorem mX4_secondKind (l : Launch) (D : jx_Dt) (post : Int32 → jx_St → Prop) (a0 : Int32) (s : jx_St) (h : wX4_secondKind post a0 s) : jx_Met l yX4_secondKind cX4_secondKind 1 (some .int) (jx_r 1 20) D jx_LM [.int a0] s (jx_Qi D jx_LM post) := by
  refine jx_ofJ (by decide) (Nat.le_of_ble_eq_true rfl) (fun X hl hX => ?_)
  subst hl
  replace hX : jx_K D jx_LM X cX4_secondKind RX4 1 (some .int) (jx_r 1 20) (jx_Qi D jx_LM post) := hX
  show jx_J D jx_LM X 0 [(0, .int a0)] [] s
  unfold wX4_secondKind at h
  refine jx_iload_n 1 hX 0 rfl rfl dX4_secondKind_0 rfl ?_
  by_cases hb1 : a0 = 16978
  · have h := h.1 hb1
    refine jx_lookup 107 (off := 106) hX dX4_secondKind_1 (by decide) (by rw [hb1]; decide) (by decide) ?_
    refine jx_bipush 109 hX 7 (by decide) dX4_secondKind_107 rfl ?_
    exact jx_iret hX dX4_secondKind_109 h
  · have h := h.2
    by_cases hb2 : a0 = 17498
    · have h := h.1 hb2
      refine jx_lookup 92 (off := 91) hX dX4_secondKind_1 (by decide) (by rw [hb2]; decide) (by decide) ?_
      refine jx_iconst 93 hX 0 (by decide) dX4_secondKind_92 rfl ?_
      exact jx_iret hX dX4_secondKind_93 h
    · have h := h.2
      by_cases hb3 : a0 = 17991
      · have h := h.1 hb3
        refine jx_lookup 110 (off := 109) hX dX4_secondKind_1 (by decide) (by rw [hb3]; decide) (by decide) ?_
        refine jx_bipush 112 hX 8 (by decide) dX4_secondKind_110 rfl ?_
        exact jx_iret hX dX4_secondKind_112 h
      · have h := h.2
        by_cases hb4 : a0 = 18005
        · have h := h.1 hb4
          refine jx_lookup 113 (off := 112) hX dX4_secondKind_1 (by decide) (by rw [hb4]; decide) (by decide) ?_
          refine jx_bipush 115 hX 9 (by decide) dX4_secondKind_113 rfl ?_
          exact jx_iret hX dX4_secondKind_115 h
        · have h := h.2
          by_cases hb5 : a0 = 18258
          · have h := h.1 hb5
            refine jx_lookup 102 (off := 101) hX dX4_secondKind_1 (by decide) (by rw [hb5]; decide) (by decide) ?_
            refine jx_iconst 103 hX 5 (by decide) dX4_secondKind_102 rfl ?_
            exact jx_iret hX dX4_secondKind_103 h
          · have h := h.2
            by_cases hb6 : a0 = 18259
            · have h := h.1 hb6
              refine jx_lookup 104 (off := 103) hX dX4_secondKind_1 (by decide) (by rw [hb6]; decide) (by decide) ?_
              refine jx_bipush 106 hX 6 (by decide) dX4_secondKind_104 rfl ?_
              exact jx_iret hX dX4_secondKind_106 h
            · have h := h.2
              by_cases hb7 : a0 = 20556
              · have h := h.1 hb7
                refine jx_lookup 100 (off := 99) hX dX4_secondKind_1 (by decide) (by rw [hb7]; decide) (by decide) ?_
                refine jx_iconst 101 hX 4 (by decide) dX4_secondKind_100 rfl ?_
                exact jx_iret hX dX4_secondKind_101 h
              · have h := h.2
                by_cases hb8 : a0 = 21057
                · have h := h.1 hb8
                  refine jx_lookup 94 (off := 93) hX dX4_secondKind_1 (by decide) (by rw [hb8]; decide) (by decide) ?_
                  refine jx_iconst 95 hX 1 (by decide) dX4_secondKind_94 rfl ?_
                  exact jx_iret hX dX4_secondKind_95 h
                · have h := h.2
                  by_cases hb9 : a0 = 21319
                  · have h := h.1 hb9
                    refine jx_lookup 98 (off := 97) hX dX4_secondKind_1 (by decide) (by rw [hb9]; decide) (by decide) ?_
                    refine jx_iconst 99 hX 3 (by decide) dX4_secondKind_98 rfl ?_
                    exact jx_iret hX dX4_secondKind_99 h
                  · have h := h.2
                    by_cases hb10 : a0 = 21326
                    · have h := h.1 hb10
                      refine jx_lookup 96 (off := 95) hX dX4_secondKind_1 (by decide) (by rw [hb10]; decide) (by decide) ?_
                      refine jx_iconst 97 hX 2 (by decide) dX4_secondKind_96 rfl ?_
                      exact jx_iret hX dX4_secondKind_97 h
                    · have h := h.2
                      have h := h hb1 hb2 hb3 hb4 hb5 hb6 hb7 hb8 hb9 hb10
                      have ehb1 : (a0 : Int32).toInt ≠ 16978 := fun z => hb1 (Int32.toInt_inj.mp (z.trans (by decide)))
                      have ehb2 : (a0 : Int32).toInt ≠ 17498 := fun z => hb2 (Int32.toInt_inj.mp (z.trans (by decide)))
                      have ehb3 : (a0 : Int32).toInt ≠ 17991 := fun z => hb3 (Int32.toInt_inj.mp (z.trans (by decide)))
                      have ehb4 : (a0 : Int32).toInt ≠ 18005 := fun z => hb4 (Int32.toInt_inj.mp (z.trans (by decide)))
                      have ehb5 : (a0 : Int32).toInt ≠ 18258 := fun z => hb5 (Int32.toInt_inj.mp (z.trans (by decide)))
                      have ehb6 : (a0 : Int32).toInt ≠ 18259 := fun z => hb6 (Int32.toInt_inj.mp (z.trans (by decide)))
                      have ehb7 : (a0 : Int32).toInt ≠ 20556 := fun z => hb7 (Int32.toInt_inj.mp (z.trans (by decide)))
                      have ehb8 : (a0 : Int32).toInt ≠ 21057 := fun z => hb8 (Int32.toInt_inj.mp (z.trans (by decide)))
                      have ehb9 : (a0 : Int32).toInt ≠ 21319 := fun z => hb9 (Int32.toInt_inj.mp (z.trans (by decide)))
                      have ehb10 : (a0 : Int32).toInt ≠ 21326 := fun z => hb10 (Int32.toInt_inj.mp (z.trans (by decide)))
                      refine jx_lookup 116 (off := 115) hX dX4_secondKind_1 (by decide) (jx_lkd (by intro q hq; simp only [List.mem_cons, List.not_mem_nil, or_false] at hq; rcases hq with rfl | rfl | rfl | rfl | rfl | rfl | rfl | rfl | rfl | rfl <;> (dsimp only; omega))) (by decide) ?_
                      refine jx_iload_n 117 hX 0 rfl rfl dX4_secondKind_116 rfl ?_
                      refine jx_callSi 120 hX (mX4_thirdKind _ D _ a0 s h) js_X4_103 ⟨rfl, rfl, by decide, by decide⟩ rfl rfl (Nat.le_of_ble_eq_true rfl) dX4_secondKind_117 rfl (fun r11 s12 h => ?_)
                      exact jx_iret hX dX4_secondKind_120 h
set_option maxHeartbeats 4000000 in
set_option maxRecDepth 100000 in
theorem mX4_weatherHere (l : Launch) (D : jx_Dt) (post : Int32 → jx_St → Prop) (a0 : Nat) (s : jx_St) (h : wX4_weatherHere post a0 s) : jx_Met l yX4_weatherHere cX4_weatherHere 6 (some .int) (jx_r 3 62) D jx_LM [.ref (D.2.1 a0)] s (jx_Qi D jx_LM post) := by
  refine jx_ofJ (by decide) (Nat.le_of_ble_eq_true rfl) (fun X hl hX => ?_)
  subst hl
  replace hX : jx_K D jx_LM X cX4_weatherHere RX4 6 (some .int) (jx_r 3 62) (jx_Qi D jx_LM post) := hX
  show jx_J D jx_LM X 0 [(0, .ref (D.2.1 a0))] [] s
  have b174 : ∀ (a0 : Nat) (a1 : Int32) (a2 : Int32) (a3 : Int32) (a5 : Int32) (s : jx_St), wX4_weatherHere_b174 post a0 a1 a2 a3 a5 s → jx_J D jx_LM X 174 [(0, .ref (D.2.1 a0)), (1, .int a1), (2, .int a2), (3, .int a3), (5, .int a5)] [] s := by
    intro a0 a1 a2 a3 a5 s h
    unfold wX4_weatherHere_b174 at h
    refine jx_iload_n 175 hX 2 rfl rfl dX4_weatherHere_174 rfl (jx_aload_n 176 hX 0 rfl rfl dX4_weatherHere_175 rfl ?_)
    obtain ⟨hc42, h⟩ := h
    refine jx_callVi 179 hX (mX4_size _ D _ a0 s h) jv_X4_65 jn_4 hc42 ⟨rfl, rfl, by decide, by decide⟩ rfl rfl (Nat.le_of_ble_eq_true rfl) dX4_weatherHere_176 rfl (fun r43 s44 h => ?_)
    refine jx_icmp_ne 182 204 hX dX4_weatherHere_179 rfl (by decide) (fun hb45 => ?_) (fun hb45 => ?_)
    · have h := h.1 hb45
      refine jx_iconst 205 hX (-1) (by decide) dX4_weatherHere_204 rfl ?_
      exact jx_iret hX dX4_weatherHere_205 h
    · have h := h.2 hb45
      refine jx_aload_n 183 hX 0 rfl rfl dX4_weatherHere_182 rfl ?_
      refine jx_callVi 186 hX (mX4_size _ D _ a0 s44 h) jv_X4_65 jn_4 hc42 ⟨rfl, rfl, by decide, by decide⟩ rfl rfl (Nat.le_of_ble_eq_true rfl) dX4_weatherHere_183 rfl (fun r46 s47 h => ?_)
      refine jx_if_le 189 204 hX dX4_weatherHere_186 rfl (by decide) (fun hb48 => ?_) (fun hb48 => ?_)
      · have h := h.1 hb48
        refine jx_iconst 205 hX (-1) (by decide) dX4_weatherHere_204 rfl ?_
        exact jx_iret hX dX4_weatherHere_205 h
      · have h := h.2 hb48
        refine jx_iload 191 hX 4 rfl dX4_weatherHere_189 rfl ?_
        refine jx_if_gt 194 200 hX dX4_weatherHere_191 rfl (by decide) (fun hb49 => ?_) (fun hb49 => ?_)
        · have h := h.1 hb49
          refine jx_iload_n 201 hX 1 rfl rfl dX4_weatherHere_200 rfl (jx_goto 205 hX dX4_weatherHere_201 (by decide) ?_)
          exact jx_iret hX dX4_weatherHere_205 h
        · have h := h.2 hb49
          refine jx_iload_n 195 hX 3 rfl rfl dX4_weatherHere_194 rfl (jx_bipush 197 hX 6 (by decide) dX4_weatherHere_195 rfl ?_)
          refine jx_icmp_ne 200 204 hX dX4_weatherHere_197 rfl (by decide) (fun hb50 => ?_) (fun hb50 => ?_)
          · have h := h.1 hb50
            refine jx_iconst 205 hX (-1) (by decide) dX4_weatherHere_204 rfl ?_
            exact jx_iret hX dX4_weatherHere_205 h
          · have h := h.2 hb50
            refine jx_iload_n 201 hX 1 rfl rfl dX4_weatherHere_200 rfl (jx_goto 205 hX dX4_weatherHere_201 (by decide) ?_)
            exact jx_iret hX dX4_weatherHere_205 h
  have l117 : ∀ (n : Nat) (a0 : Nat) (a1 : Int32) (a2 : Int32) (a3 : Int32) (a4 : Int32) (a5 : Int32) (s : jx_St), wX4_weatherHere_l117 post n a0 a1 a2 a3 a4 a5 s → jx_J D jx_LM X 117 [(0, .ref (D.2.1 a0)), (1, .int a1), (2, .int a2), (3, .int a3), (4, .int a4), (5, .int a5)] [] s := by
    intro n
    induction n with
    | zero => intro a0 a1 a2 a3 a4 a5 s h; exact h.elim
    | succ n ih =>
      intro a0 a1 a2 a3 a4 a5 s h
      rw [wX4_weatherHere_l117] at h
      refine jx_iload 119 hX 5 rfl dX4_weatherHere_117 rfl (jx_iconst 120 hX 3 (by decide) dX4_weatherHere_119 rfl ?_)
      refine jx_icmp_ge 123 174 hX dX4_weatherHere_120 rfl (by decide) (fun hb24 => ?_) (fun hb24 => ?_)
      · have h := h.1 hb24
        exact jx_sub [0, 1, 2, 3, 5] rfl (b174 a0 a1 a2 a3 a5 s h)
      · have h := h.2 hb24
        refine jx_iload_n 124 hX 2 rfl rfl dX4_weatherHere_123 rfl (jx_aload_n 125 hX 0 rfl rfl dX4_weatherHere_124 rfl ?_)
        obtain ⟨hc25, h⟩ := h
        refine jx_callVi 128 hX (mX4_size _ D _ a0 s h) jv_X4_65 jn_4 hc25 ⟨rfl, rfl, by decide, by decide⟩ rfl rfl (Nat.le_of_ble_eq_true rfl) dX4_weatherHere_125 rfl (fun r26 s27 h => ?_)
        refine jx_icmp_ge 131 174 hX dX4_weatherHere_128 rfl (by decide) (fun hb28 => ?_) (fun hb28 => ?_)
        · have h := h.1 hb28
          exact jx_sub [0, 1, 2, 3, 5] rfl (b174 a0 a1 a2 a3 a5 s27 h)
        · have h := h.2 hb28
          refine jx_aload_n 132 hX 0 rfl rfl dX4_weatherHere_131 rfl (jx_iload_n 133 hX 2 rfl rfl dX4_weatherHere_132 rfl ?_)
          refine jx_callVi 136 hX (mX4_pair _ D _ a0 a2 s27 h) jv_X4_106 jn_4 hc25 ⟨rfl, rfl, by decide, by decide⟩ rfl rfl (Nat.le_of_ble_eq_true rfl) dX4_weatherHere_133 rfl (fun r29 s30 h => ?_)
          refine jx_callSi 139 hX (mX4_secondKind _ D _ r29 s30 h) js_X4_112 ⟨rfl, rfl, by decide, by decide⟩ rfl rfl (Nat.le_of_ble_eq_true rfl) dX4_weatherHere_136 rfl (fun r31 s32 h => ?_)
          refine jx_if_lt 142 174 hX dX4_weatherHere_139 rfl (by decide) (fun hb33 => ?_) (fun hb33 => ?_)
          · have h := h.1 hb33
            exact jx_sub [0, 1, 2, 3, 5] rfl (b174 a0 a1 a2 a3 a5 s32 h)
          · have h := h.2 hb33
            refine jx_iload_n 143 hX 1 rfl rfl dX4_weatherHere_142 rfl (jx_iload 145 hX 4 rfl dX4_weatherHere_143 rfl (jx_aload_n 146 hX 0 rfl rfl dX4_weatherHere_145 rfl (jx_iload_n 147 hX 2 rfl rfl dX4_weatherHere_146 rfl ?_)))
            refine jx_callVi 150 hX (mX4_pair _ D _ a0 a2 s32 h) jv_X4_106 jn_4 hc25 ⟨rfl, rfl, by decide, by decide⟩ rfl rfl (Nat.le_of_ble_eq_true rfl) dX4_weatherHere_147 rfl (fun r34 s35 h => ?_)
            refine jx_callSi 153 hX (mX4_secondKind _ D _ r34 s35 h) js_X4_112 ⟨rfl, rfl, by decide, by decide⟩ rfl rfl (Nat.le_of_ble_eq_true rfl) dX4_weatherHere_150 rfl (fun r36 s37 h => ?_)
            refine jx_iconst 154 hX 1 (by decide) dX4_weatherHere_153 rfl (jx_iadd 155 hX dX4_weatherHere_154 rfl (jx_imul 156 hX dX4_weatherHere_155 rfl (jx_iadd 157 hX dX4_weatherHere_156 rfl ?_)))
            refine jx_topi (fun x38 hx38 => ?_)
            have h := h x38 hx38
            refine jx_istore_n 158 hX [(1, .int x38), (0, .ref (D.2.1 a0)), (2, .int a2), (3, .int a3), (4, .int a4), (5, .int a5)] rfl (by decide) rfl dX4_weatherHere_157 rfl (jx_iload 160 hX 4 rfl dX4_weatherHere_158 rfl (jx_bipush 162 hX 32 (by decide) dX4_weatherHere_160 rfl (jx_imul 163 hX dX4_weatherHere_162 rfl ?_)))
            refine jx_topi (fun x39 hx39 => ?_)
            have h := h x39 hx39
            refine jx_istore 165 hX [(4, .int x39), (1, .int x38), (0, .ref (D.2.1 a0)), (2, .int a2), (3, .int a3), (5, .int a5)] (by decide) rfl dX4_weatherHere_163 rfl ?_
            obtain ⟨x40, hx40⟩ : ∃ y : Int32, y = a5 + 1 := ⟨_, rfl⟩
            have h := h x40 hx40
            refine jx_iinc 168 hX 5 x40 [(5, .int x40), (4, .int x39), (1, .int x38), (0, .ref (D.2.1 a0)), (2, .int a2), (3, .int a3)] rfl (by rw [hx40]; exact congrArg (fun z => a5 + z) (by decide)) (by decide) rfl dX4_weatherHere_165 rfl ?_
            obtain ⟨x41, hx41⟩ : ∃ y : Int32, y = a2 + 2 := ⟨_, rfl⟩
            have h := h x41 hx41
            refine jx_iinc 171 hX 4 x41 [(2, .int x41), (5, .int x40), (4, .int x39), (1, .int x38), (0, .ref (D.2.1 a0)), (3, .int a3)] rfl (by rw [hx41]; exact congrArg (fun z => a2 + z) (by decide)) (by decide) rfl dX4_weatherHere_168 rfl (jx_goto 117 hX dX4_weatherHere_171 (by decide) ?_)
            exact jx_sub [4, 3, 0, 5, 2, 1] rfl (ih a0 x38 x41 a3 x39 x40 s37 h)
  have b93 : ∀ (a0 : Nat) (a1 : Int32) (a3 : Int32) (k0 : Int32) (s : jx_St), wX4_weatherHere_b93 post a0 a1 a3 k0 s → jx_J D jx_LM X 93 [(0, .ref (D.2.1 a0)), (1, .int a1), (3, .int a3)] [.int k0] s := by
    intro a0 a1 a3 k0 s h
    unfold wX4_weatherHere_b93 at h
    refine jx_istore_n 94 hX [(2, .int k0), (0, .ref (D.2.1 a0)), (1, .int a1), (3, .int a3)] rfl (by decide) rfl dX4_weatherHere_93 rfl (jx_iload_n 95 hX 3 rfl rfl dX4_weatherHere_94 rfl ?_)
    refine jx_if_lt 98 108 hX dX4_weatherHere_95 rfl (by decide) (fun hb22 => ?_) (fun hb22 => ?_)
    · have h := h.1 hb22
      refine jx_iload_n 109 hX 2 rfl rfl dX4_weatherHere_108 rfl (jx_istore_n 110 hX [(1, .int a1), (2, .int k0), (0, .ref (D.2.1 a0)), (3, .int a3)] rfl (by decide) rfl dX4_weatherHere_109 rfl (jx_bipush 112 hX 64 (by decide) dX4_weatherHere_110 rfl (jx_istore 114 hX [(4, .int 64), (1, .int a1), (2, .int k0), (0, .ref (D.2.1 a0)), (3, .int a3)] (by decide) rfl dX4_weatherHere_112 rfl (jx_iconst 115 hX 0 (by decide) dX4_weatherHere_114 rfl (jx_istore 117 hX [(5, .int 0), (4, .int 64), (1, .int a1), (2, .int k0), (0, .ref (D.2.1 a0)), (3, .int a3)] (by decide) rfl dX4_weatherHere_115 rfl ?_)))))
      obtain ⟨n_, h⟩ := h
      exact jx_sub [4, 2, 3, 5, 1, 0] rfl (l117 n_ a0 a1 k0 a3 64 0 s h)
    · have h := h.2 hb22
      refine jx_iload_n 99 hX 2 rfl rfl dX4_weatherHere_98 rfl (jx_iconst 100 hX 4 (by decide) dX4_weatherHere_99 rfl (jx_iload_n 101 hX 3 rfl rfl dX4_weatherHere_100 rfl (jx_iconst 102 hX 1 (by decide) dX4_weatherHere_101 rfl (jx_iadd 103 hX dX4_weatherHere_102 rfl (jx_imul 104 hX dX4_weatherHere_103 rfl ?_)))))
      refine jx_iadd 105 hX dX4_weatherHere_104 rfl (jx_goto 109 hX dX4_weatherHere_105 (by decide) ?_)
      refine jx_topi (fun x23 hx23 => ?_)
      have h := h x23 hx23
      refine jx_istore_n 110 hX [(1, .int x23), (2, .int k0), (0, .ref (D.2.1 a0)), (3, .int a3)] rfl (by decide) rfl dX4_weatherHere_109 rfl (jx_bipush 112 hX 64 (by decide) dX4_weatherHere_110 rfl (jx_istore 114 hX [(4, .int 64), (1, .int x23), (2, .int k0), (0, .ref (D.2.1 a0)), (3, .int a3)] (by decide) rfl dX4_weatherHere_112 rfl (jx_iconst 115 hX 0 (by decide) dX4_weatherHere_114 rfl (jx_istore 117 hX [(5, .int 0), (4, .int 64), (1, .int x23), (2, .int k0), (0, .ref (D.2.1 a0)), (3, .int a3)] (by decide) rfl dX4_weatherHere_115 rfl ?_))))
      obtain ⟨n_, h⟩ := h
      exact jx_sub [4, 2, 3, 5, 1, 0] rfl (l117 n_ a0 x23 k0 a3 64 0 s h)
  have b72 : ∀ (a0 : Nat) (a1 : Int32) (k0 : Int32) (s : jx_St), wX4_weatherHere_b72 post a0 a1 k0 s → jx_J D jx_LM X 72 [(0, .ref (D.2.1 a0)), (1, .int a1)] [.int k0] s := by
    intro a0 a1 k0 s h
    unfold wX4_weatherHere_b72 at h
    refine jx_istore_n 73 hX [(2, .int k0), (0, .ref (D.2.1 a0)), (1, .int a1)] rfl (by decide) rfl dX4_weatherHere_72 rfl (jx_aload_n 74 hX 1 rfl rfl dX4_weatherHere_73 rfl (jx_iload_n 75 hX 0 rfl rfl dX4_weatherHere_74 rfl ?_))
    obtain ⟨hc16, h⟩ := h
    refine jx_callVi 78 hX (mX4_pair _ D _ a0 k0 s h) jv_X4_106 jn_4 hc16 ⟨rfl, rfl, by decide, by decide⟩ rfl rfl (Nat.le_of_ble_eq_true rfl) dX4_weatherHere_75 rfl (fun r17 s18 h => ?_)
    refine jx_callSi 81 hX (mX4_firstKind _ D _ r17 s18 h) js_X4_109 ⟨rfl, rfl, by decide, by decide⟩ rfl rfl (Nat.le_of_ble_eq_true rfl) dX4_weatherHere_78 rfl (fun r19 s20 h => ?_)
    refine jx_istore_n 82 hX [(3, .int r19), (2, .int k0), (0, .ref (D.2.1 a0)), (1, .int a1)] rfl (by decide) rfl dX4_weatherHere_81 rfl (jx_iload_n 83 hX 0 rfl rfl dX4_weatherHere_82 rfl ?_)
    refine jx_if_lt 86 92 hX dX4_weatherHere_83 rfl (by decide) (fun hb21 => ?_) (fun hb21 => ?_)
    · have h := h.1 hb21
      refine jx_iload_n 93 hX 1 rfl rfl dX4_weatherHere_92 rfl ?_
      exact jx_sub [2, 3, 0] rfl (b93 a0 a1 r19 k0 s20 h)
    · have h := h.2 hb21
      refine jx_iload_n 87 hX 1 rfl rfl dX4_weatherHere_86 rfl (jx_iconst 88 hX 2 (by decide) dX4_weatherHere_87 rfl (jx_iadd 89 hX dX4_weatherHere_88 rfl (jx_goto 93 hX dX4_weatherHere_89 (by decide) ?_)))
      exact jx_sub [2, 3, 0] rfl (b93 a0 a1 r19 (k0 + 2) s20 h)
  have b53 : ∀ (a0 : Nat) (k0 : Int32) (s : jx_St), wX4_weatherHere_b53 post a0 k0 s → jx_J D jx_LM X 53 [(0, .ref (D.2.1 a0))] [.int k0] s := by
    intro a0 k0 s h
    unfold wX4_weatherHere_b53 at h
    refine jx_istore_n 54 hX [(1, .int k0), (0, .ref (D.2.1 a0))] rfl (by decide) rfl dX4_weatherHere_53 rfl (jx_iload_n 55 hX 0 rfl rfl dX4_weatherHere_54 rfl (jx_iconst 56 hX 3 (by decide) dX4_weatherHere_55 rfl ?_))
    refine jx_icmp_ne 59 63 hX dX4_weatherHere_56 rfl (by decide) (fun hb14 => ?_) (fun hb14 => ?_)
    · have h := h.1 hb14
      refine jx_iload_n 64 hX 0 rfl rfl dX4_weatherHere_63 rfl ?_
      refine jx_if_le 67 71 hX dX4_weatherHere_64 rfl (by decide) (fun hb15 => ?_) (fun hb15 => ?_)
      · have h := h.1 hb15
        refine jx_iconst 72 hX 0 (by decide) dX4_weatherHere_71 rfl ?_
        exact jx_sub [1, 0] rfl (b72 a0 k0 0 s h)
      · have h := h.2 hb15
        refine jx_iconst 68 hX 1 (by decide) dX4_weatherHere_67 rfl (jx_goto 72 hX dX4_weatherHere_68 (by decide) ?_)
        exact jx_sub [1, 0] rfl (b72 a0 k0 1 s h)
    · have h := h.2 hb14
      refine jx_iconst 60 hX 2 (by decide) dX4_weatherHere_59 rfl (jx_goto 72 hX dX4_weatherHere_60 (by decide) ?_)
      exact jx_sub [1, 0] rfl (b72 a0 k0 2 s h)
  unfold wX4_weatherHere at h
  refine jx_aload_n 1 hX 0 rfl rfl dX4_weatherHere_0 rfl (jx_iconst 2 hX 0 (by decide) dX4_weatherHere_1 rfl ?_)
  obtain ⟨hc1, h⟩ := h
  refine jx_callVi 5 hX (mX4_sign _ D _ a0 0 s h) jv_X4_69 jn_4 hc1 ⟨rfl, rfl, by decide, by decide⟩ rfl rfl (Nat.le_of_ble_eq_true rfl) dX4_weatherHere_2 rfl (fun r2 s3 h => ?_)
  refine jx_bipush 7 hX 45 (by decide) dX4_weatherHere_5 rfl ?_
  refine jx_icmp_ne 10 14 hX dX4_weatherHere_7 rfl (by decide) (fun hb4 => ?_) (fun hb4 => ?_)
  · have h := h.1 hb4
    refine jx_aload_n 15 hX 0 rfl rfl dX4_weatherHere_14 rfl (jx_iconst 16 hX 0 (by decide) dX4_weatherHere_15 rfl ?_)
    refine jx_callVi 19 hX (mX4_sign _ D _ a0 0 s3 h) jv_X4_69 jn_4 hc1 ⟨rfl, rfl, by decide, by decide⟩ rfl rfl (Nat.le_of_ble_eq_true rfl) dX4_weatherHere_16 rfl (fun r5 s6 h => ?_)
    refine jx_bipush 21 hX 43 (by decide) dX4_weatherHere_19 rfl ?_
    refine jx_icmp_ne 24 28 hX dX4_weatherHere_21 rfl (by decide) (fun hb7 => ?_) (fun hb7 => ?_)
    · have h := h.1 hb7
      refine jx_aload_n 29 hX 0 rfl rfl dX4_weatherHere_28 rfl (jx_iconst 30 hX 0 (by decide) dX4_weatherHere_29 rfl ?_)
      refine jx_callVi 33 hX (mX4_sign _ D _ a0 0 s6 h) jv_X4_69 jn_4 hc1 ⟨rfl, rfl, by decide, by decide⟩ rfl rfl (Nat.le_of_ble_eq_true rfl) dX4_weatherHere_30 rfl (fun r8 s9 h => ?_)
      refine jx_bipush 35 hX 86 (by decide) dX4_weatherHere_33 rfl ?_
      refine jx_icmp_ne 38 52 hX dX4_weatherHere_35 rfl (by decide) (fun hb10 => ?_) (fun hb10 => ?_)
      · have h := h.1 hb10
        refine jx_iconst 53 hX 0 (by decide) dX4_weatherHere_52 rfl ?_
        exact jx_sub [0] rfl (b53 a0 0 s9 h)
      · have h := h.2 hb10
        refine jx_aload_n 39 hX 0 rfl rfl dX4_weatherHere_38 rfl (jx_iconst 40 hX 1 (by decide) dX4_weatherHere_39 rfl ?_)
        refine jx_callVi 43 hX (mX4_sign _ D _ a0 1 s9 h) jv_X4_69 jn_4 hc1 ⟨rfl, rfl, by decide, by decide⟩ rfl rfl (Nat.le_of_ble_eq_true rfl) dX4_weatherHere_40 rfl (fun r11 s12 h => ?_)
        refine jx_bipush 45 hX 67 (by decide) dX4_weatherHere_43 rfl ?_
        refine jx_icmp_ne 48 52 hX dX4_weatherHere_45 rfl (by decide) (fun hb13 => ?_) (fun hb13 => ?_)
        · have h := h.1 hb13
          refine jx_iconst 53 hX 0 (by decide) dX4_weatherHere_52 rfl ?_
          exact jx_sub [0] rfl (b53 a0 0 s12 h)
        · have h := h.2 hb13
          refine jx_iconst 49 hX 3 (by decide) dX4_weatherHere_48 rfl (jx_goto 53 hX dX4_weatherHere_49 (by decide) ?_)
          exact jx_sub [0] rfl (b53 a0 3 s12 h)
    · have h := h.2 hb7
      refine jx_iconst 25 hX 2 (by decide) dX4_weatherHere_24 rfl (jx_goto 53 hX dX4_weatherHere_25 (by decide) ?_)
      exact jx_sub [0] rfl (b53 a0 2 s6 h)
  · have h := h.2 hb4
    refine jx_iconst 11 hX 1 (by decide) dX4_weatherHere_10 rfl (jx_goto 53 hX dX4_weatherHere_11 (by decide) ?_)
    exact jx_sub [0] rfl (b53 a0 1 s3 h)
set_option maxHeartbeats 4000000 in
set_option maxRecDepth 100000 in
theorem mX4_weatherOf (l : Launch) (D : jx_Dt) (post : Int32 → jx_St → Prop) (a0 : Nat) (a1 : Int32) (s : jx_St) (h : wX4_weatherOf post a0 a1 s) : jx_Met l yX4_weatherOf cX4_weatherOf 3 (some .int) (jx_r 4 87) D jx_LM [.ref (D.2.1 a0), .int a1] s (jx_Qi D jx_LM post) := by
  refine jx_ofJ (by decide) (Nat.le_of_ble_eq_true rfl) (fun X hl hX => ?_)
  subst hl
  replace hX : jx_K D jx_LM X cX4_weatherOf RX4 3 (some .int) (jx_r 4 87) (jx_Qi D jx_LM post) := hX
  show jx_J D jx_LM X 0 [(0, .ref (D.2.1 a0)), (1, .int a1)] [] s
  have l2 : ∀ (n : Nat) (a0 : Nat) (a1 : Int32) (a2 : Int32) (s : jx_St), wX4_weatherOf_l2 post n a0 a1 a2 s → jx_J D jx_LM X 2 [(0, .ref (D.2.1 a0)), (1, .int a1), (2, .int a2)] [] s := by
    intro n
    induction n with
    | zero => intro a0 a1 a2 s h; exact h.elim
    | succ n ih =>
      intro a0 a1 a2 s h
      rw [wX4_weatherOf_l2] at h
      refine jx_iload_n 3 hX 2 rfl rfl dX4_weatherOf_2 rfl (jx_iconst 4 hX 3 (by decide) dX4_weatherOf_3 rfl ?_)
      refine jx_icmp_ge 7 44 hX dX4_weatherOf_4 rfl (by decide) (fun hb1 => ?_) (fun hb1 => ?_)
      · have h := h.1 hb1
        refine jx_iload_n 45 hX 2 rfl rfl dX4_weatherOf_44 rfl ?_
        exact jx_iret hX dX4_weatherOf_45 h
      · have h := h.2 hb1
        refine jx_aload_n 8 hX 0 rfl rfl dX4_weatherOf_7 rfl ?_
        obtain ⟨hc2, h⟩ := h
        refine jx_callVi 11 hX (mX4_weatherHere _ D _ a0 s h) jv_X4_119 jn_4 hc2 ⟨rfl, rfl, by decide, by decide⟩ rfl rfl (Nat.le_of_ble_eq_true rfl) dX4_weatherOf_8 rfl (fun r3 s4 h => ?_)
        refine jx_if_lt 14 44 hX dX4_weatherOf_11 rfl (by decide) (fun hb5 => ?_) (fun hb5 => ?_)
        · have h := h.1 hb5
          refine jx_iload_n 45 hX 2 rfl rfl dX4_weatherOf_44 rfl ?_
          exact jx_iret hX dX4_weatherOf_45 h
        · have h := h.2 hb5
          refine jx_aload_n 15 hX 0 rfl rfl dX4_weatherOf_14 rfl (jx_getR 18 hX jf_X4_25 rfl hc2 dX4_weatherOf_15 rfl (jx_iconst 19 hX 3 (by decide) dX4_weatherOf_18 rfl (jx_iload_n 20 hX 1 rfl rfl dX4_weatherOf_19 rfl (jx_imul 21 hX dX4_weatherOf_20 rfl (jx_iload_n 22 hX 2 rfl rfl dX4_weatherOf_21 rfl ?_)))))
          refine jx_iadd 23 hX dX4_weatherOf_22 rfl (jx_aload_n 24 hX 0 rfl rfl dX4_weatherOf_23 rfl ?_)
          refine jx_callVi 27 hX (mX4_weatherHere _ D _ a0 s4 h) jv_X4_119 jn_4 hc2 ⟨rfl, rfl, by decide, by decide⟩ rfl rfl (Nat.le_of_ble_eq_true rfl) dX4_weatherOf_24 rfl (fun r6 s7 h => ?_)
          obtain ⟨hc8, h⟩ := h
          refine jx_iastore 28 hX hc8 dX4_weatherOf_27 rfl ?_
          refine jx_namu (fun s9 hs9 => ?_)
          have h := h s9 hs9
          obtain ⟨x10, hx10⟩ : ∃ y : Int32, y = a2 + 1 := ⟨_, rfl⟩
          have h := h x10 hx10
          refine jx_iinc 31 hX 2 x10 [(2, .int x10), (0, .ref (D.2.1 a0)), (1, .int a1)] rfl (by rw [hx10]; exact congrArg (fun z => a2 + z) (by decide)) (by decide) rfl dX4_weatherOf_28 rfl (jx_aload_n 32 hX 1 rfl rfl dX4_weatherOf_31 rfl (jx_dup 33 hX rfl dX4_weatherOf_32 rfl (jx_getI 36 hX jf_X4_62 rfl hc2 dX4_weatherOf_33 rfl (jx_iconst 37 hX 1 (by decide) dX4_weatherOf_36 rfl (jx_iadd 38 hX dX4_weatherOf_37 rfl ?_)))))
          refine jx_putI 41 hX jp_X4_62 rfl hc2 dX4_weatherOf_38 rfl ?_
          refine jx_namu (fun s11 hs11 => ?_)
          have h := h s11 hs11
          refine jx_goto 2 hX dX4_weatherOf_41 (by decide) ?_
          exact jx_sub [1, 2, 0] rfl (ih a0 a1 x10 s11 h)
  unfold wX4_weatherOf at h
  refine jx_iconst 1 hX 0 (by decide) dX4_weatherOf_0 rfl (jx_istore_n 2 hX [(2, .int 0), (0, .ref (D.2.1 a0)), (1, .int a1)] rfl (by decide) rfl dX4_weatherOf_1 rfl ?_)
  obtain ⟨n_, h⟩ := h
  exact jx_sub [1, 2, 0] rfl (l2 n_ a0 a1 0 s h)
set_option maxHeartbeats 4000000 in
set_option maxRecDepth 100000 in
theorem mX4_cloudHere (l : Launch) (D : jx_Dt) (post : Int32 → jx_St → Prop) (a0 : Nat) (s : jx_St) (h : wX4_cloudHere post a0 s) : jx_Met l yX4_cloudHere cX4_cloudHere 6 (some .int) (jx_r 3 65) D jx_LM [.ref (D.2.1 a0)] s (jx_Qi D jx_LM post) := by
  refine jx_ofJ (by decide) (Nat.le_of_ble_eq_true rfl) (fun X hl hX => ?_)
  subst hl
  replace hX : jx_K D jx_LM X cX4_cloudHere RX4 6 (some .int) (jx_r 3 65) (jx_Qi D jx_LM post) := hX
  show jx_J D jx_LM X 0 [(0, .ref (D.2.1 a0))] [] s
  have b149 : ∀ (a3 : Int32) (a4 : Int32) (a5 : Int32) (s : jx_St), wX4_cloudHere_b149 post a3 a4 a5 s → jx_J D jx_LM X 149 [(3, .int a3), (4, .int a4), (5, .int a5)] [] s := by
    intro a3 a4 a5 s h
    unfold wX4_cloudHere_b149 at h
    refine jx_iload_n 150 hX 0 rfl rfl dX4_cloudHere_149 rfl (jx_bipush 152 hX 8 (by decide) dX4_cloudHere_150 rfl (jx_iload 154 hX 1 rfl dX4_cloudHere_152 rfl (jx_imul 155 hX dX4_cloudHere_154 rfl (jx_iadd 156 hX dX4_cloudHere_155 rfl (jx_sipush 159 hX 8192 (by decide) dX4_cloudHere_156 rfl ?_)))))
    refine jx_iload 161 hX 2 rfl dX4_cloudHere_159 rfl (jx_imul 162 hX dX4_cloudHere_161 rfl (jx_iadd 163 hX dX4_cloudHere_162 rfl (jx_goto 167 hX dX4_cloudHere_163 (by decide) ?_)))
    exact jx_iret hX dX4_cloudHere_167 h
  have b127 : ∀ (a1 : Int32) (a3 : Int32) (a4 : Int32) (k0 : Int32) (s : jx_St), wX4_cloudHere_b127 post a1 a3 a4 k0 s → jx_J D jx_LM X 127 [(1, .int a1), (3, .int a3), (4, .int a4)] [.int k0] s := by
    intro a1 a3 a4 k0 s h
    unfold wX4_cloudHere_b127 at h
    refine jx_istore 129 hX [(5, .int k0), (1, .int a1), (3, .int a3), (4, .int a4)] (by decide) rfl dX4_cloudHere_127 rfl (jx_iload_n 130 hX 2 rfl rfl dX4_cloudHere_129 rfl ?_)
    refine jx_if_le 133 166 hX dX4_cloudHere_130 rfl (by decide) (fun hb28 => ?_) (fun hb28 => ?_)
    · have h := h.1 hb28
      refine jx_iconst 167 hX (-1) (by decide) dX4_cloudHere_166 rfl ?_
      exact jx_iret hX dX4_cloudHere_167 h
    · have h := h.2 hb28
      refine jx_iload 135 hX 3 rfl dX4_cloudHere_133 rfl ?_
      refine jx_if_lt 138 166 hX dX4_cloudHere_135 rfl (by decide) (fun hb29 => ?_) (fun hb29 => ?_)
      · have h := h.1 hb29
        refine jx_iconst 167 hX (-1) (by decide) dX4_cloudHere_166 rfl ?_
        exact jx_iret hX dX4_cloudHere_167 h
      · have h := h.2 hb29
        refine jx_iload_n 139 hX 1 rfl rfl dX4_cloudHere_138 rfl (jx_bipush 141 hX 6 (by decide) dX4_cloudHere_139 rfl ?_)
        refine jx_icmp_eq 144 149 hX dX4_cloudHere_141 rfl (by decide) (fun hb30 => ?_) (fun hb30 => ?_)
        · have h := h.1 hb30
          exact jx_sub [2, 3, 0] rfl (b149 a3 a4 k0 s h)
        · have h := h.2 hb30
          refine jx_iload 146 hX 0 rfl dX4_cloudHere_144 rfl ?_
          refine jx_if_le 149 166 hX dX4_cloudHere_146 rfl (by decide) (fun hb31 => ?_) (fun hb31 => ?_)
          · have h := h.1 hb31
            refine jx_iconst 167 hX (-1) (by decide) dX4_cloudHere_166 rfl ?_
            exact jx_iret hX dX4_cloudHere_167 h
          · have h := h.2 hb31
            exact jx_sub [2, 3, 0] rfl (b149 a3 a4 k0 s h)
  have b93 : ∀ (a0 : Nat) (a1 : Int32) (a3 : Int32) (a4 : Int32) (s : jx_St), wX4_cloudHere_b93 post a0 a1 a3 a4 s → jx_J D jx_LM X 93 [(0, .ref (D.2.1 a0)), (1, .int a1), (3, .int a3), (4, .int a4)] [] s := by
    intro a0 a1 a3 a4 s h
    unfold wX4_cloudHere_b93 at h
    refine jx_iload_n 94 hX 1 rfl rfl dX4_cloudHere_93 rfl (jx_bipush 96 hX 9 (by decide) dX4_cloudHere_94 rfl ?_)
    refine jx_icmp_ne 99 126 hX dX4_cloudHere_96 rfl (by decide) (fun hb20 => ?_) (fun hb20 => ?_)
    · have h := h.1 hb20
      refine jx_iconst 127 hX 0 (by decide) dX4_cloudHere_126 rfl ?_
      exact jx_sub [1, 2, 3] rfl (b127 a1 a3 a4 0 s h)
    · have h := h.2 hb20
      refine jx_aload_n 100 hX 0 rfl rfl dX4_cloudHere_99 rfl (jx_bipush 102 hX 6 (by decide) dX4_cloudHere_100 rfl ?_)
      obtain ⟨hc21, h⟩ := h
      refine jx_callVi 105 hX (mX4_sign _ D _ a0 6 s h) jv_X4_69 jn_4 hc21 ⟨rfl, rfl, by decide, by decide⟩ rfl rfl (Nat.le_of_ble_eq_true rfl) dX4_cloudHere_102 rfl (fun r22 s23 h => ?_)
      refine jx_bipush 107 hX 84 (by decide) dX4_cloudHere_105 rfl ?_
      refine jx_icmp_ne 110 126 hX dX4_cloudHere_107 rfl (by decide) (fun hb24 => ?_) (fun hb24 => ?_)
      · have h := h.1 hb24
        refine jx_iconst 127 hX 0 (by decide) dX4_cloudHere_126 rfl ?_
        exact jx_sub [1, 2, 3] rfl (b127 a1 a3 a4 0 s23 h)
      · have h := h.2 hb24
        refine jx_aload_n 111 hX 0 rfl rfl dX4_cloudHere_110 rfl (jx_bipush 113 hX 7 (by decide) dX4_cloudHere_111 rfl ?_)
        refine jx_callVi 116 hX (mX4_pair _ D _ a0 7 s23 h) jv_X4_106 jn_4 hc21 ⟨rfl, rfl, by decide, by decide⟩ rfl rfl (Nat.le_of_ble_eq_true rfl) dX4_cloudHere_113 rfl (fun r25 s26 h => ?_)
        refine jx_sipush 119 hX 17237 (by decide) dX4_cloudHere_116 rfl ?_
        refine jx_icmp_ne 122 126 hX dX4_cloudHere_119 rfl (by decide) (fun hb27 => ?_) (fun hb27 => ?_)
        · have h := h.1 hb27
          refine jx_iconst 127 hX 0 (by decide) dX4_cloudHere_126 rfl ?_
          exact jx_sub [1, 2, 3] rfl (b127 a1 a3 a4 0 s26 h)
        · have h := h.2 hb27
          refine jx_iconst 123 hX 2 (by decide) dX4_cloudHere_122 rfl (jx_goto 127 hX dX4_cloudHere_123 (by decide) ?_)
          exact jx_sub [1, 2, 3] rfl (b127 a1 a3 a4 2 s26 h)
  have b62 : ∀ (a0 : Nat) (a1 : Int32) (k0 : Int32) (s : jx_St), wX4_cloudHere_b62 post a0 a1 k0 s → jx_J D jx_LM X 62 [(0, .ref (D.2.1 a0)), (1, .int a1)] [.int k0] s := by
    intro a0 a1 k0 s h
    unfold wX4_cloudHere_b62 at h
    refine jx_istore_n 63 hX [(3, .int k0), (0, .ref (D.2.1 a0)), (1, .int a1)] rfl (by decide) rfl dX4_cloudHere_62 rfl (jx_aload_n 64 hX 1 rfl rfl dX4_cloudHere_63 rfl (jx_iconst 65 hX 3 (by decide) dX4_cloudHere_64 rfl (jx_iconst 66 hX 3 (by decide) dX4_cloudHere_65 rfl ?_)))
    obtain ⟨hc13, h⟩ := h
    refine jx_callVi 69 hX (mX4_number _ D _ a0 3 3 s h) jv_X4_76 jn_4 hc13 ⟨rfl, rfl, by decide, by decide⟩ rfl rfl (Nat.le_of_ble_eq_true rfl) dX4_cloudHere_66 rfl (fun r14 s15 h => ?_)
    refine jx_istore 71 hX [(4, .int r14), (3, .int k0), (0, .ref (D.2.1 a0)), (1, .int a1)] (by decide) rfl dX4_cloudHere_69 rfl (jx_iload_n 72 hX 3 rfl rfl dX4_cloudHere_71 rfl (jx_bipush 74 hX 8 (by decide) dX4_cloudHere_72 rfl ?_))
    refine jx_icmp_ne 77 93 hX dX4_cloudHere_74 rfl (by decide) (fun hb16 => ?_) (fun hb16 => ?_)
    · have h := h.1 hb16
      exact jx_sub [2, 3, 1, 0] rfl (b93 a0 a1 k0 r14 s15 h)
    · have h := h.2 hb16
      refine jx_aload_n 78 hX 2 rfl rfl dX4_cloudHere_77 rfl (jx_bipush 80 hX 6 (by decide) dX4_cloudHere_78 rfl ?_)
      refine jx_callVi 83 hX (mX4_pair _ D _ a0 6 s15 h) jv_X4_106 jn_4 hc13 ⟨rfl, rfl, by decide, by decide⟩ rfl rfl (Nat.le_of_ble_eq_true rfl) dX4_cloudHere_80 rfl (fun r17 s18 h => ?_)
      refine jx_sipush 86 hX 17218 (by decide) dX4_cloudHere_83 rfl ?_
      refine jx_icmp_ne 89 93 hX dX4_cloudHere_86 rfl (by decide) (fun hb19 => ?_) (fun hb19 => ?_)
      · have h := h.1 hb19
        exact jx_sub [2, 3, 1, 0] rfl (b93 a0 a1 k0 r14 s18 h)
      · have h := h.2 hb19
        refine jx_iconst 90 hX 1 (by decide) dX4_cloudHere_89 rfl (jx_goto 127 hX dX4_cloudHere_90 (by decide) ?_)
        exact jx_sub [3, 1, 0] rfl (b127 a1 k0 r14 1 s18 h)
  unfold wX4_cloudHere at h
  refine jx_aload_n 1 hX 0 rfl rfl dX4_cloudHere_0 rfl ?_
  obtain ⟨hc1, h⟩ := h
  refine jx_callVi 4 hX (mX4_size _ D _ a0 s h) jv_X4_65 jn_4 hc1 ⟨rfl, rfl, by decide, by decide⟩ rfl rfl (Nat.le_of_ble_eq_true rfl) dX4_cloudHere_1 rfl (fun r2 s3 h => ?_)
  refine jx_istore_n 5 hX [(1, .int r2), (0, .ref (D.2.1 a0))] rfl (by decide) rfl dX4_cloudHere_4 rfl (jx_sipush 8 hX 256 (by decide) dX4_cloudHere_5 rfl (jx_aload_n 9 hX 1 rfl rfl dX4_cloudHere_8 rfl (jx_iconst 10 hX 0 (by decide) dX4_cloudHere_9 rfl ?_)))
  refine jx_callVi 13 hX (mX4_pair _ D _ a0 0 s3 h) jv_X4_106 jn_4 hc1 ⟨rfl, rfl, by decide, by decide⟩ rfl rfl (Nat.le_of_ble_eq_true rfl) dX4_cloudHere_10 rfl (fun r4 s5 h => ?_)
  refine jx_imul 14 hX dX4_cloudHere_13 rfl (jx_aload_n 15 hX 1 rfl rfl dX4_cloudHere_14 rfl (jx_iconst 16 hX 2 (by decide) dX4_cloudHere_15 rfl ?_))
  refine jx_callVi 19 hX (mX4_sign _ D _ a0 2 s5 h) jv_X4_69 jn_4 hc1 ⟨rfl, rfl, by decide, by decide⟩ rfl rfl (Nat.le_of_ble_eq_true rfl) dX4_cloudHere_16 rfl (fun r6 s7 h => ?_)
  refine jx_iadd 20 hX dX4_cloudHere_19 rfl ?_
  refine jx_topi (fun x8 hx8 => ?_)
  have h := h x8 hx8
  refine jx_istore_n 21 hX [(2, .int x8), (1, .int r2), (0, .ref (D.2.1 a0))] rfl (by decide) rfl dX4_cloudHere_20 rfl (jx_iload_n 22 hX 0 rfl rfl dX4_cloudHere_21 rfl (jx_ldc 24 hX jc_X4_115 dX4_cloudHere_22 rfl ?_))
  refine jx_icmp_ne 27 31 hX dX4_cloudHere_24 rfl (by decide) (fun hb9 => ?_) (fun hb9 => ?_)
  · have h := h.1 hb9
    refine jx_iload_n 32 hX 0 rfl rfl dX4_cloudHere_31 rfl (jx_ldc 34 hX jc_X4_116 dX4_cloudHere_32 rfl ?_)
    refine jx_icmp_ne 37 41 hX dX4_cloudHere_34 rfl (by decide) (fun hb10 => ?_) (fun hb10 => ?_)
    · have h := h.1 hb10
      refine jx_iload_n 42 hX 0 rfl rfl dX4_cloudHere_41 rfl (jx_ldc 44 hX jc_X4_117 dX4_cloudHere_42 rfl ?_)
      refine jx_icmp_ne 47 51 hX dX4_cloudHere_44 rfl (by decide) (fun hb11 => ?_) (fun hb11 => ?_)
      · have h := h.1 hb11
        refine jx_iload_n 52 hX 0 rfl rfl dX4_cloudHere_51 rfl (jx_ldc 54 hX jc_X4_118 dX4_cloudHere_52 rfl ?_)
        refine jx_icmp_ne 57 61 hX dX4_cloudHere_54 rfl (by decide) (fun hb12 => ?_) (fun hb12 => ?_)
        · have h := h.1 hb12
          refine jx_iconst 62 hX 0 (by decide) dX4_cloudHere_61 rfl ?_
          exact jx_sub [2, 1] rfl (b62 a0 r2 0 s7 h)
        · have h := h.2 hb12
          refine jx_iconst 58 hX 4 (by decide) dX4_cloudHere_57 rfl (jx_goto 62 hX dX4_cloudHere_58 (by decide) ?_)
          exact jx_sub [2, 1] rfl (b62 a0 r2 4 s7 h)
      · have h := h.2 hb11
        refine jx_iconst 48 hX 3 (by decide) dX4_cloudHere_47 rfl (jx_goto 62 hX dX4_cloudHere_48 (by decide) ?_)
        exact jx_sub [2, 1] rfl (b62 a0 r2 3 s7 h)
    · have h := h.2 hb10
      refine jx_iconst 38 hX 2 (by decide) dX4_cloudHere_37 rfl (jx_goto 62 hX dX4_cloudHere_38 (by decide) ?_)
      exact jx_sub [2, 1] rfl (b62 a0 r2 2 s7 h)
  · have h := h.2 hb9
    refine jx_iconst 28 hX 1 (by decide) dX4_cloudHere_27 rfl (jx_goto 62 hX dX4_cloudHere_28 (by decide) ?_)
    exact jx_sub [2, 1] rfl (b62 a0 r2 1 s7 h)
set_option maxHeartbeats 4000000 in
set_option maxRecDepth 100000 in
theorem mX4_cloudsOf (l : Launch) (D : jx_Dt) (post : Int32 → jx_St → Prop) (a0 : Nat) (a1 : Int32) (s : jx_St) (h : wX4_cloudsOf post a0 a1 s) : jx_Met l yX4_cloudsOf cX4_cloudsOf 4 (some .boolean) (jx_r 4 90) D jx_LM [.ref (D.2.1 a0), .int a1] s (jx_Qi D jx_LM (fun r u => (r = 0 ∨ r = 1) ∧ post r u)) := by
  refine jx_ofJ (by decide) (Nat.le_of_ble_eq_true rfl) (fun X hl hX => ?_)
  subst hl
  replace hX : jx_K D jx_LM X cX4_cloudsOf RX4 4 (some .boolean) (jx_r 4 90) (jx_Qi D jx_LM (fun r u => (r = 0 ∨ r = 1) ∧ post r u)) := hX
  show jx_J D jx_LM X 0 [(0, .ref (D.2.1 a0)), (1, .int a1)] [] s
  have b181 : ∀ (a0 : Nat) (a1 : Int32) (a2 : Int32) (s : jx_St), wX4_cloudsOf_b181 post a0 a1 a2 s → jx_J D jx_LM X 181 [(0, .ref (D.2.1 a0)), (1, .int a1), (2, .int a2)] [] s := by
    intro a0 a1 a2 s h
    unfold wX4_cloudsOf_b181 at h
    refine jx_aload_n 182 hX 0 rfl rfl dX4_cloudsOf_181 rfl ?_
    obtain ⟨hc41, h⟩ := h
    refine jx_getR 185 hX jf_X4_22 rfl hc41 dX4_cloudsOf_182 rfl (jx_bipush 187 hX 10 (by decide) dX4_cloudsOf_185 rfl (jx_iload_n 188 hX 1 rfl rfl dX4_cloudsOf_187 rfl (jx_imul 189 hX dX4_cloudsOf_188 rfl (jx_bipush 191 hX 9 (by decide) dX4_cloudsOf_189 rfl (jx_iadd 192 hX dX4_cloudsOf_191 rfl ?_)))))
    refine jx_iload_n 193 hX 2 rfl rfl dX4_cloudsOf_192 rfl ?_
    refine jx_if_le 196 200 hX dX4_cloudsOf_193 rfl (by decide) (fun hb42 => ?_) (fun hb42 => ?_)
    · have h := h.1 hb42
      refine jx_iconst 201 hX (-1) (by decide) dX4_cloudsOf_200 rfl ?_
      obtain ⟨hc43, h⟩ := h
      refine jx_iastore 202 hX hc43 dX4_cloudsOf_201 rfl ?_
      refine jx_namu (fun s44 hs44 => ?_)
      have h := h s44 hs44
      refine jx_iload_n 203 hX 2 rfl rfl dX4_cloudsOf_202 rfl ?_
      refine jx_if_le 206 210 hX dX4_cloudsOf_203 rfl (by decide) (fun hb45 => ?_) (fun hb45 => ?_)
      · have h := h.1 hb45
        refine jx_iconst 211 hX 0 (by decide) dX4_cloudsOf_210 rfl ?_
        exact jx_zret hX dX4_cloudsOf_211 (by decide) h
      · have h := h.2 hb45
        refine jx_iconst 207 hX 1 (by decide) dX4_cloudsOf_206 rfl (jx_goto 211 hX dX4_cloudsOf_207 (by decide) ?_)
        exact jx_zret hX dX4_cloudsOf_211 (by decide) h
    · have h := h.2 hb42
      refine jx_iload_n 197 hX 2 rfl rfl dX4_cloudsOf_196 rfl (jx_goto 201 hX dX4_cloudsOf_197 (by decide) ?_)
      obtain ⟨hc46, h⟩ := h
      refine jx_iastore 202 hX hc46 dX4_cloudsOf_201 rfl ?_
      refine jx_namu (fun s47 hs47 => ?_)
      have h := h s47 hs47
      refine jx_iload_n 203 hX 2 rfl rfl dX4_cloudsOf_202 rfl ?_
      refine jx_if_le 206 210 hX dX4_cloudsOf_203 rfl (by decide) (fun hb48 => ?_) (fun hb48 => ?_)
      · have h := h.1 hb48
        refine jx_iconst 211 hX 0 (by decide) dX4_cloudsOf_210 rfl ?_
        exact jx_zret hX dX4_cloudsOf_211 (by decide) h
      · have h := h.2 hb48
        refine jx_iconst 207 hX 1 (by decide) dX4_cloudsOf_206 rfl (jx_goto 211 hX dX4_cloudsOf_207 (by decide) ?_)
        exact jx_zret hX dX4_cloudsOf_211 (by decide) h
  have l112 : ∀ (n : Nat) (a0 : Nat) (a1 : Int32) (a2 : Int32) (a3 : Int32) (s : jx_St), wX4_cloudsOf_l112 post n a0 a1 a2 a3 s → jx_J D jx_LM X 112 [(0, .ref (D.2.1 a0)), (1, .int a1), (2, .int a2), (3, .int a3)] [] s := by
    intro n
    induction n with
    | zero => intro a0 a1 a2 a3 s h; exact h.elim
    | succ n ih =>
      intro a0 a1 a2 a3 s h
      rw [wX4_cloudsOf_l112] at h
      refine jx_iload_n 113 hX 2 rfl rfl dX4_cloudsOf_112 rfl (jx_iconst 114 hX 4 (by decide) dX4_cloudsOf_113 rfl ?_)
      refine jx_icmp_ge 117 181 hX dX4_cloudsOf_114 rfl (by decide) (fun hb24 => ?_) (fun hb24 => ?_)
      · have h := h.1 hb24
        exact jx_sub [0, 1, 2] rfl (b181 a0 a1 a2 s h)
      · have h := h.2 hb24
        refine jx_aload_n 118 hX 0 rfl rfl dX4_cloudsOf_117 rfl ?_
        obtain ⟨hc25, h⟩ := h
        refine jx_callVi 121 hX (mX4_cloudHere _ D _ a0 s h) jv_X4_128 jn_4 hc25 ⟨rfl, rfl, by decide, by decide⟩ rfl rfl (Nat.le_of_ble_eq_true rfl) dX4_cloudsOf_118 rfl (fun r26 s27 h => ?_)
        refine jx_if_lt 124 181 hX dX4_cloudsOf_121 rfl (by decide) (fun hb28 => ?_) (fun hb28 => ?_)
        · have h := h.1 hb28
          exact jx_sub [0, 1, 2] rfl (b181 a0 a1 a2 s27 h)
        · have h := h.2 hb28
          refine jx_aload_n 125 hX 0 rfl rfl dX4_cloudsOf_124 rfl ?_
          refine jx_callVi 128 hX (mX4_cloudHere _ D _ a0 s27 h) jv_X4_128 jn_4 hc25 ⟨rfl, rfl, by decide, by decide⟩ rfl rfl (Nat.le_of_ble_eq_true rfl) dX4_cloudsOf_125 rfl (fun r29 s30 h => ?_)
          refine jx_sipush 131 hX 8192 (by decide) dX4_cloudsOf_128 rfl (jx_irem 132 hX (by decide) dX4_cloudsOf_131 rfl (jx_bipush 134 hX 8 (by decide) dX4_cloudsOf_132 rfl (jx_idiv 135 hX (by decide) dX4_cloudsOf_134 rfl (jx_iload_n 136 hX 3 rfl rfl dX4_cloudsOf_135 rfl ?_))))
          refine jx_icmp_lt 139 181 hX dX4_cloudsOf_136 rfl (by decide) (fun hb31 => ?_) (fun hb31 => ?_)
          · have h := h.1 hb31
            exact jx_sub [0, 1, 2] rfl (b181 a0 a1 a2 s30 h)
          · have h := h.2 hb31
            refine jx_aload_n 140 hX 0 rfl rfl dX4_cloudsOf_139 rfl ?_
            refine jx_callVi 143 hX (mX4_cloudHere _ D _ a0 s30 h) jv_X4_128 jn_4 hc25 ⟨rfl, rfl, by decide, by decide⟩ rfl rfl (Nat.le_of_ble_eq_true rfl) dX4_cloudsOf_140 rfl (fun r32 s33 h => ?_)
            refine jx_sipush 146 hX 8192 (by decide) dX4_cloudsOf_143 rfl (jx_irem 147 hX (by decide) dX4_cloudsOf_146 rfl (jx_bipush 149 hX 8 (by decide) dX4_cloudsOf_147 rfl (jx_idiv 150 hX (by decide) dX4_cloudsOf_149 rfl ?_)))
            refine jx_topi (fun x34 hx34 => ?_)
            have h := h x34 hx34
            refine jx_istore_n 151 hX [(3, .int x34), (0, .ref (D.2.1 a0)), (1, .int a1), (2, .int a2)] rfl (by decide) rfl dX4_cloudsOf_150 rfl (jx_aload_n 152 hX 1 rfl rfl dX4_cloudsOf_151 rfl (jx_getR 155 hX jf_X4_28 rfl hc25 dX4_cloudsOf_152 rfl (jx_iconst 156 hX 4 (by decide) dX4_cloudsOf_155 rfl (jx_iload_n 157 hX 2 rfl rfl dX4_cloudsOf_156 rfl (jx_imul 158 hX dX4_cloudsOf_157 rfl ?_)))))
            refine jx_iload_n 159 hX 3 rfl rfl dX4_cloudsOf_158 rfl (jx_iadd 160 hX dX4_cloudsOf_159 rfl (jx_aload_n 161 hX 1 rfl rfl dX4_cloudsOf_160 rfl ?_))
            refine jx_callVi 164 hX (mX4_cloudHere _ D _ a0 s33 h) jv_X4_128 jn_4 hc25 ⟨rfl, rfl, by decide, by decide⟩ rfl rfl (Nat.le_of_ble_eq_true rfl) dX4_cloudsOf_161 rfl (fun r35 s36 h => ?_)
            obtain ⟨hc37, h⟩ := h
            refine jx_iastore 165 hX hc37 dX4_cloudsOf_164 rfl ?_
            refine jx_namu (fun s38 hs38 => ?_)
            have h := h s38 hs38
            obtain ⟨x39, hx39⟩ : ∃ y : Int32, y = a2 + 1 := ⟨_, rfl⟩
            have h := h x39 hx39
            refine jx_iinc 168 hX 3 x39 [(2, .int x39), (3, .int x34), (0, .ref (D.2.1 a0)), (1, .int a1)] rfl (by rw [hx39]; exact congrArg (fun z => a2 + z) (by decide)) (by decide) rfl dX4_cloudsOf_165 rfl (jx_aload_n 169 hX 2 rfl rfl dX4_cloudsOf_168 rfl (jx_dup 170 hX rfl dX4_cloudsOf_169 rfl (jx_getI 173 hX jf_X4_62 rfl hc25 dX4_cloudsOf_170 rfl (jx_iconst 174 hX 1 (by decide) dX4_cloudsOf_173 rfl (jx_iadd 175 hX dX4_cloudsOf_174 rfl ?_)))))
            refine jx_putI 178 hX jp_X4_62 rfl hc25 dX4_cloudsOf_175 rfl ?_
            refine jx_namu (fun s40 hs40 => ?_)
            have h := h s40 hs40
            refine jx_goto 112 hX dX4_cloudsOf_178 (by decide) ?_
            exact jx_sub [2, 3, 0, 1] rfl (ih a0 a1 x39 x34 s40 h)
  unfold wX4_cloudsOf at h
  refine jx_aload_n 1 hX 0 rfl rfl dX4_cloudsOf_0 rfl ?_
  obtain ⟨hc1, h⟩ := h
  refine jx_callVl 4 hX (mX4_word _ D _ a0 s h) jv_X4_122 jn_4 hc1 ⟨rfl, rfl, by decide, by decide⟩ rfl rfl (Nat.le_of_ble_eq_true rfl) dX4_cloudsOf_1 rfl (fun r2 s3 h => ?_)
  refine jx_ldc2 7 hX jc_X4_126 dX4_cloudsOf_4 rfl (jx_lcmp 8 hX dX4_cloudsOf_7 rfl ?_)
  refine jx_if_ne 11 36 hX dX4_cloudsOf_8 rfl (by decide) (fun hb4 => ?_) (fun hb4 => ?_)
  · have h := h.1 hb4
    refine jx_aload_n 37 hX 0 rfl rfl dX4_cloudsOf_36 rfl ?_
    refine jx_callVi 40 hX (mX4_size _ D _ a0 s3 h) jv_X4_65 jn_4 hc1 ⟨rfl, rfl, by decide, by decide⟩ rfl rfl (Nat.le_of_ble_eq_true rfl) dX4_cloudsOf_37 rfl (fun r5 s6 h => ?_)
    refine jx_iconst 41 hX 5 (by decide) dX4_cloudsOf_40 rfl ?_
    refine jx_icmp_ne 44 108 hX dX4_cloudsOf_41 rfl (by decide) (fun hb7 => ?_) (fun hb7 => ?_)
    · have h := h.1 hb7
      refine jx_iconst 109 hX 0 (by decide) dX4_cloudsOf_108 rfl (jx_istore_n 110 hX [(2, .int 0), (0, .ref (D.2.1 a0)), (1, .int a1)] rfl (by decide) rfl dX4_cloudsOf_109 rfl (jx_iconst 111 hX 0 (by decide) dX4_cloudsOf_110 rfl (jx_istore_n 112 hX [(3, .int 0), (2, .int 0), (0, .ref (D.2.1 a0)), (1, .int a1)] rfl (by decide) rfl dX4_cloudsOf_111 rfl ?_)))
      obtain ⟨n_, h⟩ := h
      exact jx_sub [2, 3, 1, 0] rfl (l112 n_ a0 a1 0 0 s6 h)
    · have h := h.2 hb7
      refine jx_aload_n 45 hX 0 rfl rfl dX4_cloudsOf_44 rfl (jx_iconst 46 hX 0 (by decide) dX4_cloudsOf_45 rfl ?_)
      refine jx_callVi 49 hX (mX4_pair _ D _ a0 0 s6 h) jv_X4_106 jn_4 hc1 ⟨rfl, rfl, by decide, by decide⟩ rfl rfl (Nat.le_of_ble_eq_true rfl) dX4_cloudsOf_46 rfl (fun r8 s9 h => ?_)
      refine jx_sipush 52 hX 22102 (by decide) dX4_cloudsOf_49 rfl ?_
      refine jx_icmp_ne 55 108 hX dX4_cloudsOf_52 rfl (by decide) (fun hb10 => ?_) (fun hb10 => ?_)
      · have h := h.1 hb10
        refine jx_iconst 109 hX 0 (by decide) dX4_cloudsOf_108 rfl (jx_istore_n 110 hX [(2, .int 0), (0, .ref (D.2.1 a0)), (1, .int a1)] rfl (by decide) rfl dX4_cloudsOf_109 rfl (jx_iconst 111 hX 0 (by decide) dX4_cloudsOf_110 rfl (jx_istore_n 112 hX [(3, .int 0), (2, .int 0), (0, .ref (D.2.1 a0)), (1, .int a1)] rfl (by decide) rfl dX4_cloudsOf_111 rfl ?_)))
        obtain ⟨n_, h⟩ := h
        exact jx_sub [2, 3, 1, 0] rfl (l112 n_ a0 a1 0 0 s9 h)
      · have h := h.2 hb10
        refine jx_aload_n 56 hX 0 rfl rfl dX4_cloudsOf_55 rfl (jx_iconst 57 hX 2 (by decide) dX4_cloudsOf_56 rfl (jx_iconst 58 hX 3 (by decide) dX4_cloudsOf_57 rfl ?_))
        refine jx_callVi 61 hX (mX4_number _ D _ a0 2 3 s9 h) jv_X4_76 jn_4 hc1 ⟨rfl, rfl, by decide, by decide⟩ rfl rfl (Nat.le_of_ble_eq_true rfl) dX4_cloudsOf_58 rfl (fun r11 s12 h => ?_)
        refine jx_if_lt 64 108 hX dX4_cloudsOf_61 rfl (by decide) (fun hb13 => ?_) (fun hb13 => ?_)
        · have h := h.1 hb13
          refine jx_iconst 109 hX 0 (by decide) dX4_cloudsOf_108 rfl (jx_istore_n 110 hX [(2, .int 0), (0, .ref (D.2.1 a0)), (1, .int a1)] rfl (by decide) rfl dX4_cloudsOf_109 rfl (jx_iconst 111 hX 0 (by decide) dX4_cloudsOf_110 rfl (jx_istore_n 112 hX [(3, .int 0), (2, .int 0), (0, .ref (D.2.1 a0)), (1, .int a1)] rfl (by decide) rfl dX4_cloudsOf_111 rfl ?_)))
          obtain ⟨n_, h⟩ := h
          exact jx_sub [2, 3, 1, 0] rfl (l112 n_ a0 a1 0 0 s12 h)
        · have h := h.2 hb13
          refine jx_aload_n 65 hX 0 rfl rfl dX4_cloudsOf_64 rfl (jx_getR 68 hX jf_X4_28 rfl hc1 dX4_cloudsOf_65 rfl (jx_iconst 69 hX 4 (by decide) dX4_cloudsOf_68 rfl (jx_iload_n 70 hX 1 rfl rfl dX4_cloudsOf_69 rfl (jx_imul 71 hX dX4_cloudsOf_70 rfl (jx_iconst 72 hX 5 (by decide) dX4_cloudsOf_71 rfl ?_)))))
          refine jx_bipush 74 hX 8 (by decide) dX4_cloudsOf_72 rfl (jx_aload_n 75 hX 0 rfl rfl dX4_cloudsOf_74 rfl (jx_iconst 76 hX 2 (by decide) dX4_cloudsOf_75 rfl (jx_iconst 77 hX 3 (by decide) dX4_cloudsOf_76 rfl ?_)))
          refine jx_callVi 80 hX (mX4_number _ D _ a0 2 3 s12 h) jv_X4_76 jn_4 hc1 ⟨rfl, rfl, by decide, by decide⟩ rfl rfl (Nat.le_of_ble_eq_true rfl) dX4_cloudsOf_77 rfl (fun r14 s15 h => ?_)
          refine jx_imul 81 hX dX4_cloudsOf_80 rfl (jx_iadd 82 hX dX4_cloudsOf_81 rfl ?_)
          obtain ⟨hc16, h⟩ := h
          refine jx_iastore 83 hX hc16 dX4_cloudsOf_82 rfl ?_
          refine jx_namu (fun s17 hs17 => ?_)
          have h := h s17 hs17
          refine jx_aload_n 84 hX 0 rfl rfl dX4_cloudsOf_83 rfl (jx_getR 87 hX jf_X4_22 rfl hc1 dX4_cloudsOf_84 rfl (jx_bipush 89 hX 10 (by decide) dX4_cloudsOf_87 rfl (jx_iload_n 90 hX 1 rfl rfl dX4_cloudsOf_89 rfl (jx_imul 91 hX dX4_cloudsOf_90 rfl (jx_bipush 93 hX 9 (by decide) dX4_cloudsOf_91 rfl ?_)))))
          refine jx_iadd 94 hX dX4_cloudsOf_93 rfl (jx_iconst 95 hX 1 (by decide) dX4_cloudsOf_94 rfl ?_)
          obtain ⟨hc18, h⟩ := h
          refine jx_iastore 96 hX hc18 dX4_cloudsOf_95 rfl ?_
          refine jx_namu (fun s19 hs19 => ?_)
          have h := h s19 hs19
          refine jx_aload_n 97 hX 0 rfl rfl dX4_cloudsOf_96 rfl (jx_dup 98 hX rfl dX4_cloudsOf_97 rfl (jx_getI 101 hX jf_X4_62 rfl hc1 dX4_cloudsOf_98 rfl (jx_iconst 102 hX 1 (by decide) dX4_cloudsOf_101 rfl (jx_iadd 103 hX dX4_cloudsOf_102 rfl (jx_putI 106 hX jp_X4_62 rfl hc1 dX4_cloudsOf_103 rfl ?_)))))
          refine jx_namu (fun s20 hs20 => ?_)
          have h := h s20 hs20
          refine jx_iconst 107 hX 1 (by decide) dX4_cloudsOf_106 rfl ?_
          exact jx_zret hX dX4_cloudsOf_107 (by decide) h
  · have h := h.2 hb4
    refine jx_aload_n 12 hX 0 rfl rfl dX4_cloudsOf_11 rfl (jx_getR 15 hX jf_X4_22 rfl hc1 dX4_cloudsOf_12 rfl (jx_bipush 17 hX 10 (by decide) dX4_cloudsOf_15 rfl (jx_iload_n 18 hX 1 rfl rfl dX4_cloudsOf_17 rfl (jx_imul 19 hX dX4_cloudsOf_18 rfl (jx_bipush 21 hX 9 (by decide) dX4_cloudsOf_19 rfl ?_)))))
    refine jx_iadd 22 hX dX4_cloudsOf_21 rfl (jx_iconst 23 hX 0 (by decide) dX4_cloudsOf_22 rfl ?_)
    obtain ⟨hc21, h⟩ := h
    refine jx_iastore 24 hX hc21 dX4_cloudsOf_23 rfl ?_
    refine jx_namu (fun s22 hs22 => ?_)
    have h := h s22 hs22
    refine jx_aload_n 25 hX 0 rfl rfl dX4_cloudsOf_24 rfl (jx_dup 26 hX rfl dX4_cloudsOf_25 rfl (jx_getI 29 hX jf_X4_62 rfl hc1 dX4_cloudsOf_26 rfl (jx_iconst 30 hX 1 (by decide) dX4_cloudsOf_29 rfl (jx_iadd 31 hX dX4_cloudsOf_30 rfl (jx_putI 34 hX jp_X4_62 rfl hc1 dX4_cloudsOf_31 rfl ?_)))))
    refine jx_namu (fun s23 hs23 => ?_)
    have h := h s23 hs23
    refine jx_iconst 35 hX 1 (by decide) dX4_cloudsOf_34 rfl ?_
    exact jx_zret hX dX4_cloudsOf_35 (by decide) h
set_option maxHeartbeats 4000000 in
set_option maxRecDepth 100000 in
theorem mX4_sky (l : Launch) (D : jx_Dt) (post : Int32 → jx_St → Prop) (a0 : Nat) (a1 : Int32) (s : jx_St) (h : wX4_sky post a0 a1 s) : jx_Met l yX4_sky cX4_sky 2 (some .boolean) (jx_r 5 113) D jx_LM [.ref (D.2.1 a0), .int a1] s (jx_Qi D jx_LM (fun r u => (r = 0 ∨ r = 1) ∧ post r u)) := by
  refine jx_ofJ (by decide) (Nat.le_of_ble_eq_true rfl) (fun X hl hX => ?_)
  subst hl
  replace hX : jx_K D jx_LM X cX4_sky RX4 2 (some .boolean) (jx_r 5 113) (jx_Qi D jx_LM (fun r u => (r = 0 ∨ r = 1) ∧ post r u)) := hX
  show jx_J D jx_LM X 0 [(0, .ref (D.2.1 a0)), (1, .int a1)] [] s
  unfold wX4_sky at h
  refine jx_aload_n 1 hX 0 rfl rfl dX4_sky_0 rfl (jx_iload_n 2 hX 1 rfl rfl dX4_sky_1 rfl ?_)
  obtain ⟨hc1, h⟩ := h
  refine jx_callVi 5 hX (mX4_clear _ D _ a0 a1 s h) jv_X4_133 jn_4 hc1 ⟨rfl, rfl, by decide, by decide⟩ rfl rfl (Nat.le_of_ble_eq_true rfl) dX4_sky_2 rfl (fun r2 s3 h => ?_)
  obtain ⟨hz4, h⟩ := h
  have h := h hz4
  refine jx_if_eq 8 10 hX dX4_sky_5 rfl (by decide) (fun hb5 => ?_) (fun hb5 => ?_)
  · have h := h.1 hb5
    refine jx_aload_n 11 hX 0 rfl rfl dX4_sky_10 rfl (jx_iload_n 12 hX 1 rfl rfl dX4_sky_11 rfl ?_)
    refine jx_callVi 15 hX (mX4_visibility _ D _ a0 a1 s3 h) jv_X4_136 jn_4 hc1 ⟨rfl, rfl, by decide, by decide⟩ rfl rfl (Nat.le_of_ble_eq_true rfl) dX4_sky_12 rfl (fun r6 s7 h => ?_)
    obtain ⟨hz8, h⟩ := h
    have h := h hz8
    refine jx_if_ne 18 20 hX dX4_sky_15 rfl (by decide) (fun hb9 => ?_) (fun hb9 => ?_)
    · have h := h.1 hb9
      refine jx_aload_n 21 hX 0 rfl rfl dX4_sky_20 rfl (jx_getR 24 hX jf_X4_22 rfl hc1 dX4_sky_21 rfl (jx_bipush 26 hX 10 (by decide) dX4_sky_24 rfl (jx_iload_n 27 hX 1 rfl rfl dX4_sky_26 rfl (jx_imul 28 hX dX4_sky_27 rfl (jx_bipush 30 hX 8 (by decide) dX4_sky_28 rfl ?_)))))
      refine jx_iadd 31 hX dX4_sky_30 rfl (jx_aload_n 32 hX 0 rfl rfl dX4_sky_31 rfl (jx_iload_n 33 hX 1 rfl rfl dX4_sky_32 rfl ?_))
      refine jx_callVi 36 hX (mX4_weatherOf _ D _ a0 a1 s7 h) jv_X4_139 jn_4 hc1 ⟨rfl, rfl, by decide, by decide⟩ rfl rfl (Nat.le_of_ble_eq_true rfl) dX4_sky_33 rfl (fun r10 s11 h => ?_)
      obtain ⟨hc12, h⟩ := h
      refine jx_iastore 37 hX hc12 dX4_sky_36 rfl ?_
      refine jx_namu (fun s13 hs13 => ?_)
      have h := h s13 hs13
      refine jx_aload_n 38 hX 0 rfl rfl dX4_sky_37 rfl (jx_iload_n 39 hX 1 rfl rfl dX4_sky_38 rfl ?_)
      refine jx_callVi 42 hX (mX4_cloudsOf _ D _ a0 a1 s13 h) jv_X4_142 jn_4 hc1 ⟨rfl, rfl, by decide, by decide⟩ rfl rfl (Nat.le_of_ble_eq_true rfl) dX4_sky_39 rfl (fun r14 s15 h => ?_)
      obtain ⟨hz16, h⟩ := h
      have h := h hz16
      exact jx_zret hX dX4_sky_42 hz16 h
    · have h := h.2 hb9
      refine jx_iconst 19 hX 0 (by decide) dX4_sky_18 rfl ?_
      exact jx_zret hX dX4_sky_19 (by decide) h
  · have h := h.2 hb5
    refine jx_iconst 9 hX 1 (by decide) dX4_sky_8 rfl ?_
    exact jx_zret hX dX4_sky_9 (by decide) h
set_option maxHeartbeats 4000000 in
set_option maxRecDepth 100000 in
theorem mX4_isPeriod (l : Launch) (D : jx_Dt) (post : Int32 → jx_St → Prop) (a0 : Nat) (s : jx_St) (h : wX4_isPeriod post a0 s) : jx_Met l yX4_isPeriod cX4_isPeriod 1 (some .boolean) (jx_r 3 65) D jx_LM [.ref (D.2.1 a0)] s (jx_Qi D jx_LM (fun r u => (r = 0 ∨ r = 1) ∧ post r u)) := by
  refine jx_ofJ (by decide) (Nat.le_of_ble_eq_true rfl) (fun X hl hX => ?_)
  subst hl
  replace hX : jx_K D jx_LM X cX4_isPeriod RX4 1 (some .boolean) (jx_r 3 65) (jx_Qi D jx_LM (fun r u => (r = 0 ∨ r = 1) ∧ post r u)) := hX
  show jx_J D jx_LM X 0 [(0, .ref (D.2.1 a0))] [] s
  unfold wX4_isPeriod at h
  refine jx_aload_n 1 hX 0 rfl rfl dX4_isPeriod_0 rfl ?_
  obtain ⟨hc1, h⟩ := h
  refine jx_callVi 4 hX (mX4_size _ D _ a0 s h) jv_X4_65 jn_4 hc1 ⟨rfl, rfl, by decide, by decide⟩ rfl rfl (Nat.le_of_ble_eq_true rfl) dX4_isPeriod_1 rfl (fun r2 s3 h => ?_)
  refine jx_bipush 6 hX 9 (by decide) dX4_isPeriod_4 rfl ?_
  refine jx_icmp_ne 9 80 hX dX4_isPeriod_6 rfl (by decide) (fun hb4 => ?_) (fun hb4 => ?_)
  · have h := h.1 hb4
    refine jx_iconst 81 hX 0 (by decide) dX4_isPeriod_80 rfl ?_
    exact jx_zret hX dX4_isPeriod_81 (by decide) h
  · have h := h.2 hb4
    refine jx_aload_n 10 hX 0 rfl rfl dX4_isPeriod_9 rfl (jx_iconst 11 hX 4 (by decide) dX4_isPeriod_10 rfl ?_)
    refine jx_callVi 14 hX (mX4_sign _ D _ a0 4 s3 h) jv_X4_69 jn_4 hc1 ⟨rfl, rfl, by decide, by decide⟩ rfl rfl (Nat.le_of_ble_eq_true rfl) dX4_isPeriod_11 rfl (fun r5 s6 h => ?_)
    refine jx_bipush 16 hX 47 (by decide) dX4_isPeriod_14 rfl ?_
    refine jx_icmp_ne 19 80 hX dX4_isPeriod_16 rfl (by decide) (fun hb7 => ?_) (fun hb7 => ?_)
    · have h := h.1 hb7
      refine jx_iconst 81 hX 0 (by decide) dX4_isPeriod_80 rfl ?_
      exact jx_zret hX dX4_isPeriod_81 (by decide) h
    · have h := h.2 hb7
      refine jx_aload_n 20 hX 0 rfl rfl dX4_isPeriod_19 rfl (jx_aload_n 21 hX 0 rfl rfl dX4_isPeriod_20 rfl (jx_iconst 22 hX 0 (by decide) dX4_isPeriod_21 rfl (jx_iconst 23 hX 2 (by decide) dX4_isPeriod_22 rfl ?_)))
      refine jx_callVi 26 hX (mX4_number _ D _ a0 0 2 s6 h) jv_X4_76 jn_4 hc1 ⟨rfl, rfl, by decide, by decide⟩ rfl rfl (Nat.le_of_ble_eq_true rfl) dX4_isPeriod_23 rfl (fun r8 s9 h => ?_)
      refine jx_callVi 29 hX (mX4_isDay _ D _ a0 r8 s9 h) jv_X4_83 jn_4 hc1 ⟨rfl, rfl, by decide, by decide⟩ rfl rfl (Nat.le_of_ble_eq_true rfl) dX4_isPeriod_26 rfl (fun r10 s11 h => ?_)
      obtain ⟨hz12, h⟩ := h
      have h := h hz12
      refine jx_if_eq 32 80 hX dX4_isPeriod_29 rfl (by decide) (fun hb13 => ?_) (fun hb13 => ?_)
      · have h := h.1 hb13
        refine jx_iconst 81 hX 0 (by decide) dX4_isPeriod_80 rfl ?_
        exact jx_zret hX dX4_isPeriod_81 (by decide) h
      · have h := h.2 hb13
        refine jx_aload_n 33 hX 0 rfl rfl dX4_isPeriod_32 rfl (jx_aload_n 34 hX 0 rfl rfl dX4_isPeriod_33 rfl (jx_iconst 35 hX 2 (by decide) dX4_isPeriod_34 rfl (jx_iconst 36 hX 2 (by decide) dX4_isPeriod_35 rfl ?_)))
        refine jx_callVi 39 hX (mX4_number _ D _ a0 2 2 s11 h) jv_X4_76 jn_4 hc1 ⟨rfl, rfl, by decide, by decide⟩ rfl rfl (Nat.le_of_ble_eq_true rfl) dX4_isPeriod_36 rfl (fun r14 s15 h => ?_)
        refine jx_bipush 41 hX 23 (by decide) dX4_isPeriod_39 rfl ?_
        refine jx_callVi 44 hX (mX4_isIn _ D _ a0 r14 23 s15 h) jv_X4_87 jn_4 hc1 ⟨rfl, rfl, by decide, by decide⟩ rfl rfl (Nat.le_of_ble_eq_true rfl) dX4_isPeriod_41 rfl (fun r16 s17 h => ?_)
        obtain ⟨hz18, h⟩ := h
        have h := h hz18
        refine jx_if_eq 47 80 hX dX4_isPeriod_44 rfl (by decide) (fun hb19 => ?_) (fun hb19 => ?_)
        · have h := h.1 hb19
          refine jx_iconst 81 hX 0 (by decide) dX4_isPeriod_80 rfl ?_
          exact jx_zret hX dX4_isPeriod_81 (by decide) h
        · have h := h.2 hb19
          refine jx_aload_n 48 hX 0 rfl rfl dX4_isPeriod_47 rfl (jx_aload_n 49 hX 0 rfl rfl dX4_isPeriod_48 rfl (jx_iconst 50 hX 5 (by decide) dX4_isPeriod_49 rfl (jx_iconst 51 hX 2 (by decide) dX4_isPeriod_50 rfl ?_)))
          refine jx_callVi 54 hX (mX4_number _ D _ a0 5 2 s17 h) jv_X4_76 jn_4 hc1 ⟨rfl, rfl, by decide, by decide⟩ rfl rfl (Nat.le_of_ble_eq_true rfl) dX4_isPeriod_51 rfl (fun r20 s21 h => ?_)
          refine jx_callVi 57 hX (mX4_isDay _ D _ a0 r20 s21 h) jv_X4_83 jn_4 hc1 ⟨rfl, rfl, by decide, by decide⟩ rfl rfl (Nat.le_of_ble_eq_true rfl) dX4_isPeriod_54 rfl (fun r22 s23 h => ?_)
          obtain ⟨hz24, h⟩ := h
          have h := h hz24
          refine jx_if_eq 60 80 hX dX4_isPeriod_57 rfl (by decide) (fun hb25 => ?_) (fun hb25 => ?_)
          · have h := h.1 hb25
            refine jx_iconst 81 hX 0 (by decide) dX4_isPeriod_80 rfl ?_
            exact jx_zret hX dX4_isPeriod_81 (by decide) h
          · have h := h.2 hb25
            refine jx_aload_n 61 hX 0 rfl rfl dX4_isPeriod_60 rfl (jx_aload_n 62 hX 0 rfl rfl dX4_isPeriod_61 rfl (jx_bipush 64 hX 7 (by decide) dX4_isPeriod_62 rfl (jx_iconst 65 hX 2 (by decide) dX4_isPeriod_64 rfl ?_)))
            refine jx_callVi 68 hX (mX4_number _ D _ a0 7 2 s23 h) jv_X4_76 jn_4 hc1 ⟨rfl, rfl, by decide, by decide⟩ rfl rfl (Nat.le_of_ble_eq_true rfl) dX4_isPeriod_65 rfl (fun r26 s27 h => ?_)
            refine jx_bipush 70 hX 24 (by decide) dX4_isPeriod_68 rfl ?_
            refine jx_callVi 73 hX (mX4_isIn _ D _ a0 r26 24 s27 h) jv_X4_87 jn_4 hc1 ⟨rfl, rfl, by decide, by decide⟩ rfl rfl (Nat.le_of_ble_eq_true rfl) dX4_isPeriod_70 rfl (fun r28 s29 h => ?_)
            obtain ⟨hz30, h⟩ := h
            have h := h hz30
            refine jx_if_eq 76 80 hX dX4_isPeriod_73 rfl (by decide) (fun hb31 => ?_) (fun hb31 => ?_)
            · have h := h.1 hb31
              refine jx_iconst 81 hX 0 (by decide) dX4_isPeriod_80 rfl ?_
              exact jx_zret hX dX4_isPeriod_81 (by decide) h
            · have h := h.2 hb31
              refine jx_iconst 77 hX 1 (by decide) dX4_isPeriod_76 rfl (jx_goto 81 hX dX4_isPeriod_77 (by decide) ?_)
              exact jx_zret hX dX4_isPeriod_81 (by decide) h
set_option maxHeartbeats 4000000 in
set_option maxRecDepth 100000 in
theorem mX4_period (l : Launch) (D : jx_Dt) (post : Int32 → jx_St → Prop) (a0 : Nat) (a1 : Int32) (s : jx_St) (h : wX4_period post a0 a1 s) : jx_Met l yX4_period cX4_period 6 (some .boolean) (jx_r 4 85) D jx_LM [.ref (D.2.1 a0), .int a1] s (jx_Qi D jx_LM (fun r u => (r = 0 ∨ r = 1) ∧ post r u)) := by
  refine jx_ofJ (by decide) (Nat.le_of_ble_eq_true rfl) (fun X hl hX => ?_)
  subst hl
  replace hX : jx_K D jx_LM X cX4_period RX4 6 (some .boolean) (jx_r 4 85) (jx_Qi D jx_LM (fun r u => (r = 0 ∨ r = 1) ∧ post r u)) := hX
  show jx_J D jx_LM X 0 [(0, .ref (D.2.1 a0)), (1, .int a1)] [] s
  have b213 : ∀ (a0 : Nat) (k0 : Int32) (s : jx_St), wX4_period_b213 post a0 k0 s → jx_J D jx_LM X 213 [(0, .ref (D.2.1 a0))] [.int k0] s := by
    intro a0 k0 s h
    unfold wX4_period_b213 at h
    refine jx_istore 215 hX [(5, .int k0), (0, .ref (D.2.1 a0))] (by decide) rfl dX4_period_213 rfl (jx_aload_n 216 hX 1 rfl rfl dX4_period_215 rfl (jx_iload 218 hX 0 rfl dX4_period_216 rfl ?_))
    refine jx_if_eq 221 230 hX dX4_period_218 rfl (by decide) (fun hb40 => ?_) (fun hb40 => ?_)
    · have h := h.1 hb40
      refine jx_aload_n 231 hX 1 rfl rfl dX4_period_230 rfl ?_
      obtain ⟨hc41, h⟩ := h
      refine jx_getI 234 hX jf_X4_62 rfl hc41 dX4_period_231 rfl (jx_putI 237 hX jp_X4_62 rfl hc41 dX4_period_234 rfl ?_)
      refine jx_namu (fun s42 hs42 => ?_)
      have h := h s42 hs42
      refine jx_iload 239 hX 0 rfl dX4_period_237 rfl ?_
      obtain ⟨hc43, h⟩ := h
      exact jx_zret hX dX4_period_239 hc43 h
    · have h := h.2 hb40
      refine jx_aload_n 222 hX 1 rfl rfl dX4_period_221 rfl ?_
      obtain ⟨hc44, h⟩ := h
      refine jx_getI 225 hX jf_X4_62 rfl hc44 dX4_period_222 rfl (jx_iconst 226 hX 1 (by decide) dX4_period_225 rfl (jx_iadd 227 hX dX4_period_226 rfl (jx_goto 234 hX dX4_period_227 (by decide) (jx_putI 237 hX jp_X4_62 rfl hc44 dX4_period_234 rfl ?_))))
      refine jx_namu (fun s45 hs45 => ?_)
      have h := h s45 hs45
      refine jx_iload 239 hX 0 rfl dX4_period_237 rfl ?_
      obtain ⟨hc46, h⟩ := h
      exact jx_zret hX dX4_period_239 hc46 h
  have b142 : ∀ (a0 : Nat) (a1 : Int32) (a2 : Int32) (k0 : Int32) (s : jx_St), wX4_period_b142 post a0 a1 a2 k0 s → jx_J D jx_LM X 142 [(0, .ref (D.2.1 a0)), (1, .int a1), (2, .int a2)] [.int k0] s := by
    intro a0 a1 a2 k0 s h
    unfold wX4_period_b142 at h
    refine jx_istore_n 143 hX [(3, .int k0), (0, .ref (D.2.1 a0)), (1, .int a1), (2, .int a2)] rfl (by decide) rfl dX4_period_142 rfl (jx_aload_n 144 hX 1 rfl rfl dX4_period_143 rfl ?_)
    obtain ⟨hc28, h⟩ := h
    refine jx_getR 147 hX jf_X4_22 rfl hc28 dX4_period_144 rfl (jx_bipush 149 hX 10 (by decide) dX4_period_147 rfl (jx_iload_n 150 hX 2 rfl rfl dX4_period_149 rfl (jx_imul 151 hX dX4_period_150 rfl (jx_iconst 152 hX 2 (by decide) dX4_period_151 rfl (jx_iadd 153 hX dX4_period_152 rfl ?_)))))
    refine jx_iload_n 154 hX 3 rfl rfl dX4_period_153 rfl ?_
    obtain ⟨hc29, h⟩ := h
    refine jx_iastore 155 hX hc29 dX4_period_154 rfl ?_
    refine jx_namu (fun s30 hs30 => ?_)
    have h := h s30 hs30
    refine jx_aload_n 156 hX 1 rfl rfl dX4_period_155 rfl (jx_getR 159 hX jf_X4_22 rfl hc28 dX4_period_156 rfl (jx_bipush 161 hX 10 (by decide) dX4_period_159 rfl (jx_iload_n 162 hX 2 rfl rfl dX4_period_161 rfl (jx_imul 163 hX dX4_period_162 rfl (jx_iconst 164 hX 3 (by decide) dX4_period_163 rfl ?_)))))
    refine jx_iadd 165 hX dX4_period_164 rfl (jx_iload_n 166 hX 0 rfl rfl dX4_period_165 rfl ?_)
    obtain ⟨hc31, h⟩ := h
    refine jx_iastore 167 hX hc31 dX4_period_166 rfl ?_
    refine jx_namu (fun s32 hs32 => ?_)
    have h := h s32 hs32
    refine jx_iload_n 168 hX 0 rfl rfl dX4_period_167 rfl (jx_iload_n 169 hX 3 rfl rfl dX4_period_168 rfl ?_)
    refine jx_icmp_le 172 212 hX dX4_period_169 rfl (by decide) (fun hb33 => ?_) (fun hb33 => ?_)
    · have h := h.1 hb33
      refine jx_iconst 213 hX 0 (by decide) dX4_period_212 rfl ?_
      exact jx_sub [1] rfl (b213 a0 0 s32 h)
    · have h := h.2 hb33
      refine jx_iload_n 173 hX 2 rfl rfl dX4_period_172 rfl ?_
      refine jx_if_ne 176 188 hX dX4_period_173 rfl (by decide) (fun hb34 => ?_) (fun hb34 => ?_)
      · have h := h.1 hb34
        refine jx_iload_n 189 hX 3 rfl rfl dX4_period_188 rfl (jx_aload_n 190 hX 1 rfl rfl dX4_period_189 rfl (jx_getR 193 hX jf_X4_22 rfl hc28 dX4_period_190 rfl (jx_iconst 194 hX 2 (by decide) dX4_period_193 rfl ?_)))
        obtain ⟨hc35, h⟩ := h
        refine jx_iaload 195 hX hc35 dX4_period_194 rfl ?_
        refine jx_icmp_lt 198 212 hX dX4_period_195 rfl (by decide) (fun hb36 => ?_) (fun hb36 => ?_)
        · have h := h.1 hb36
          refine jx_iconst 213 hX 0 (by decide) dX4_period_212 rfl ?_
          exact jx_sub [1] rfl (b213 a0 0 s32 h)
        · have h := h.2 hb36
          refine jx_iload_n 199 hX 0 rfl rfl dX4_period_198 rfl (jx_aload_n 200 hX 1 rfl rfl dX4_period_199 rfl (jx_getR 203 hX jf_X4_22 rfl hc28 dX4_period_200 rfl (jx_iconst 204 hX 3 (by decide) dX4_period_203 rfl ?_)))
          obtain ⟨hc37, h⟩ := h
          refine jx_iaload 205 hX hc37 dX4_period_204 rfl ?_
          refine jx_icmp_gt 208 212 hX dX4_period_205 rfl (by decide) (fun hb38 => ?_) (fun hb38 => ?_)
          · have h := h.1 hb38
            refine jx_iconst 213 hX 0 (by decide) dX4_period_212 rfl ?_
            exact jx_sub [1] rfl (b213 a0 0 s32 h)
          · have h := h.2 hb38
            refine jx_iconst 209 hX 1 (by decide) dX4_period_208 rfl (jx_goto 213 hX dX4_period_209 (by decide) ?_)
            exact jx_sub [1] rfl (b213 a0 1 s32 h)
      · have h := h.2 hb34
        refine jx_iload_n 177 hX 0 rfl rfl dX4_period_176 rfl (jx_iload_n 178 hX 3 rfl rfl dX4_period_177 rfl (jx_isub 179 hX dX4_period_178 rfl (jx_sipush 182 hX 1800 (by decide) dX4_period_179 rfl ?_)))
        refine jx_icmp_gt 185 212 hX dX4_period_182 rfl (by decide) (fun hb39 => ?_) (fun hb39 => ?_)
        · have h := h.1 hb39
          refine jx_iconst 213 hX 0 (by decide) dX4_period_212 rfl ?_
          exact jx_sub [1] rfl (b213 a0 0 s32 h)
        · have h := h.2 hb39
          refine jx_goto 208 hX dX4_period_185 (by decide) (jx_iconst 209 hX 1 (by decide) dX4_period_208 rfl (jx_goto 213 hX dX4_period_209 (by decide) ?_))
          exact jx_sub [1] rfl (b213 a0 1 s32 h)
  have b117 : ∀ (a0 : Nat) (a1 : Int32) (a3 : Int32) (a4 : Int32) (k0 : Int32) (s : jx_St), wX4_period_b117 post a0 a1 a3 a4 k0 s → jx_J D jx_LM X 117 [(0, .ref (D.2.1 a0)), (1, .int a1), (3, .int a3), (4, .int a4)] [.int k0] s := by
    intro a0 a1 a3 a4 k0 s h
    unfold wX4_period_b117 at h
    refine jx_istore_n 118 hX [(2, .int k0), (0, .ref (D.2.1 a0)), (1, .int a1), (3, .int a3), (4, .int a4)] rfl (by decide) rfl dX4_period_117 rfl (jx_iload 120 hX 4 rfl dX4_period_118 rfl ?_)
    refine jx_if_ne 123 128 hX dX4_period_120 rfl (by decide) (fun hb24 => ?_) (fun hb24 => ?_)
    · have h := h.1 hb24
      refine jx_iload_n 129 hX 3 rfl rfl dX4_period_128 rfl (jx_sipush 132 hX 1440 (by decide) dX4_period_129 rfl (jx_aload_n 133 hX 1 rfl rfl dX4_period_132 rfl ?_))
      obtain ⟨hc25, h⟩ := h
      refine jx_getI 136 hX jf_X4_73 rfl hc25 dX4_period_133 rfl (jx_imul 137 hX dX4_period_136 rfl (jx_iadd 138 hX dX4_period_137 rfl (jx_goto 142 hX dX4_period_138 (by decide) ?_)))
      exact jx_sub [1, 2, 0] rfl (b142 a0 a1 k0 (a3 + (1440 * (s.1 a0 8))) s h)
    · have h := h.2 hb24
      refine jx_iload_n 124 hX 3 rfl rfl dX4_period_123 rfl (jx_iload_n 125 hX 0 rfl rfl dX4_period_124 rfl ?_)
      refine jx_icmp_gt 128 141 hX dX4_period_125 rfl (by decide) (fun hb26 => ?_) (fun hb26 => ?_)
      · have h := h.1 hb26
        refine jx_iload_n 142 hX 3 rfl rfl dX4_period_141 rfl ?_
        exact jx_sub [1, 2, 0] rfl (b142 a0 a1 k0 a3 s h)
      · have h := h.2 hb26
        refine jx_iload_n 129 hX 3 rfl rfl dX4_period_128 rfl (jx_sipush 132 hX 1440 (by decide) dX4_period_129 rfl (jx_aload_n 133 hX 1 rfl rfl dX4_period_132 rfl ?_))
        obtain ⟨hc27, h⟩ := h
        refine jx_getI 136 hX jf_X4_73 rfl hc27 dX4_period_133 rfl (jx_imul 137 hX dX4_period_136 rfl (jx_iadd 138 hX dX4_period_137 rfl (jx_goto 142 hX dX4_period_138 (by decide) ?_)))
        exact jx_sub [1, 2, 0] rfl (b142 a0 a1 k0 (a3 + (1440 * (s.1 a0 8))) s h)
  have b96 : ∀ (a0 : Nat) (a1 : Int32) (a2 : Int32) (a3 : Int32) (k0 : Int32) (s : jx_St), wX4_period_b96 post a0 a1 a2 a3 k0 s → jx_J D jx_LM X 96 [(0, .ref (D.2.1 a0)), (1, .int a1), (2, .int a2), (3, .int a3)] [.int k0] s := by
    intro a0 a1 a2 a3 k0 s h
    unfold wX4_period_b96 at h
    refine jx_istore 98 hX [(4, .int k0), (0, .ref (D.2.1 a0)), (1, .int a1), (2, .int a2), (3, .int a3)] (by decide) rfl dX4_period_96 rfl (jx_iload 100 hX 0 rfl dX4_period_98 rfl ?_)
    refine jx_if_eq 103 116 hX dX4_period_100 rfl (by decide) (fun hb22 => ?_) (fun hb22 => ?_)
    · have h := h.1 hb22
      refine jx_iload_n 117 hX 3 rfl rfl dX4_period_116 rfl ?_
      exact jx_sub [1, 2, 4, 0] rfl (b117 a0 a1 a3 k0 a2 s h)
    · have h := h.2 hb22
      refine jx_iload_n 104 hX 3 rfl rfl dX4_period_103 rfl (jx_sipush 107 hX 1440 (by decide) dX4_period_104 rfl (jx_aload_n 108 hX 1 rfl rfl dX4_period_107 rfl ?_))
      obtain ⟨hc23, h⟩ := h
      refine jx_getI 111 hX jf_X4_73 rfl hc23 dX4_period_108 rfl (jx_imul 112 hX dX4_period_111 rfl (jx_iadd 113 hX dX4_period_112 rfl (jx_goto 117 hX dX4_period_113 (by decide) ?_)))
      exact jx_sub [1, 2, 4, 0] rfl (b117 a0 a1 a3 k0 (a2 + (1440 * (s.1 a0 8))) s h)
  unfold wX4_period at h
  refine jx_aload_n 1 hX 0 rfl rfl dX4_period_0 rfl ?_
  obtain ⟨hc1, h⟩ := h
  refine jx_callVi 4 hX (mX4_isPeriod _ D _ a0 s h) jv_X4_150 jn_4 hc1 ⟨rfl, rfl, by decide, by decide⟩ rfl rfl (Nat.le_of_ble_eq_true rfl) dX4_period_1 rfl (fun r2 s3 h => ?_)
  obtain ⟨hz4, h⟩ := h
  have h := h hz4
  refine jx_if_ne 7 9 hX dX4_period_4 rfl (by decide) (fun hb5 => ?_) (fun hb5 => ?_)
  · have h := h.1 hb5
    refine jx_sipush 12 hX 1440 (by decide) dX4_period_9 rfl (jx_aload_n 13 hX 0 rfl rfl dX4_period_12 rfl (jx_iconst 14 hX 0 (by decide) dX4_period_13 rfl (jx_iconst 15 hX 2 (by decide) dX4_period_14 rfl ?_)))
    refine jx_callVi 18 hX (mX4_number _ D _ a0 0 2 s3 h) jv_X4_76 jn_4 hc1 ⟨rfl, rfl, by decide, by decide⟩ rfl rfl (Nat.le_of_ble_eq_true rfl) dX4_period_15 rfl (fun r6 s7 h => ?_)
    refine jx_iconst 19 hX 1 (by decide) dX4_period_18 rfl (jx_isub 20 hX dX4_period_19 rfl (jx_imul 21 hX dX4_period_20 rfl (jx_bipush 23 hX 60 (by decide) dX4_period_21 rfl (jx_aload_n 24 hX 0 rfl rfl dX4_period_23 rfl (jx_iconst 25 hX 2 (by decide) dX4_period_24 rfl ?_)))))
    refine jx_iconst 26 hX 2 (by decide) dX4_period_25 rfl ?_
    refine jx_callVi 29 hX (mX4_number _ D _ a0 2 2 s7 h) jv_X4_76 jn_4 hc1 ⟨rfl, rfl, by decide, by decide⟩ rfl rfl (Nat.le_of_ble_eq_true rfl) dX4_period_26 rfl (fun r8 s9 h => ?_)
    refine jx_imul 30 hX dX4_period_29 rfl (jx_iadd 31 hX dX4_period_30 rfl ?_)
    refine jx_topi (fun x10 hx10 => ?_)
    have h := h x10 hx10
    refine jx_istore_n 32 hX [(2, .int x10), (0, .ref (D.2.1 a0)), (1, .int a1)] rfl (by decide) rfl dX4_period_31 rfl (jx_sipush 35 hX 1440 (by decide) dX4_period_32 rfl (jx_aload_n 36 hX 1 rfl rfl dX4_period_35 rfl (jx_iconst 37 hX 5 (by decide) dX4_period_36 rfl (jx_iconst 38 hX 2 (by decide) dX4_period_37 rfl ?_))))
    refine jx_callVi 41 hX (mX4_number _ D _ a0 5 2 s9 h) jv_X4_76 jn_4 hc1 ⟨rfl, rfl, by decide, by decide⟩ rfl rfl (Nat.le_of_ble_eq_true rfl) dX4_period_38 rfl (fun r11 s12 h => ?_)
    refine jx_iconst 42 hX 1 (by decide) dX4_period_41 rfl (jx_isub 43 hX dX4_period_42 rfl (jx_imul 44 hX dX4_period_43 rfl (jx_bipush 46 hX 60 (by decide) dX4_period_44 rfl (jx_aload_n 47 hX 1 rfl rfl dX4_period_46 rfl (jx_bipush 49 hX 7 (by decide) dX4_period_47 rfl ?_)))))
    refine jx_iconst 50 hX 2 (by decide) dX4_period_49 rfl ?_
    refine jx_callVi 53 hX (mX4_number _ D _ a0 7 2 s12 h) jv_X4_76 jn_4 hc1 ⟨rfl, rfl, by decide, by decide⟩ rfl rfl (Nat.le_of_ble_eq_true rfl) dX4_period_50 rfl (fun r13 s14 h => ?_)
    refine jx_imul 54 hX dX4_period_53 rfl (jx_iadd 55 hX dX4_period_54 rfl ?_)
    refine jx_topi (fun x15 hx15 => ?_)
    have h := h x15 hx15
    refine jx_istore_n 56 hX [(3, .int x15), (2, .int x10), (0, .ref (D.2.1 a0)), (1, .int a1)] rfl (by decide) rfl dX4_period_55 rfl (jx_iload_n 57 hX 3 rfl rfl dX4_period_56 rfl ?_)
    refine jx_if_ne 60 81 hX dX4_period_57 rfl (by decide) (fun hb16 => ?_) (fun hb16 => ?_)
    · have h := h.1 hb16
      refine jx_iload_n 82 hX 1 rfl rfl dX4_period_81 rfl (jx_aload_n 83 hX 2 rfl rfl dX4_period_82 rfl (jx_getR 86 hX jf_X4_22 rfl hc1 dX4_period_83 rfl (jx_iconst 87 hX 2 (by decide) dX4_period_86 rfl ?_)))
      obtain ⟨hc17, h⟩ := h
      refine jx_iaload 88 hX hc17 dX4_period_87 rfl ?_
      refine jx_icmp_ge 91 95 hX dX4_period_88 rfl (by decide) (fun hb18 => ?_) (fun hb18 => ?_)
      · have h := h.1 hb18
        refine jx_iconst 96 hX 0 (by decide) dX4_period_95 rfl ?_
        exact jx_sub [2, 3, 1, 0] rfl (b96 a0 a1 x10 x15 0 s14 h)
      · have h := h.2 hb18
        refine jx_iconst 92 hX 1 (by decide) dX4_period_91 rfl (jx_goto 96 hX dX4_period_92 (by decide) ?_)
        exact jx_sub [2, 3, 1, 0] rfl (b96 a0 a1 x10 x15 1 s14 h)
    · have h := h.2 hb16
      refine jx_aload_n 61 hX 2 rfl rfl dX4_period_60 rfl (jx_iconst 62 hX 0 (by decide) dX4_period_61 rfl (jx_iconst 63 hX 2 (by decide) dX4_period_62 rfl ?_))
      refine jx_callVi 66 hX (mX4_number _ D _ a0 0 2 s14 h) jv_X4_76 jn_4 hc1 ⟨rfl, rfl, by decide, by decide⟩ rfl rfl (Nat.le_of_ble_eq_true rfl) dX4_period_63 rfl (fun r19 s20 h => ?_)
      refine jx_aload_n 67 hX 2 rfl rfl dX4_period_66 rfl (jx_getI 70 hX jf_X4_80 rfl hc1 dX4_period_67 rfl ?_)
      refine jx_icmp_ge 73 77 hX dX4_period_70 rfl (by decide) (fun hb21 => ?_) (fun hb21 => ?_)
      · have h := h.1 hb21
        refine jx_iconst 78 hX 0 (by decide) dX4_period_77 rfl (jx_goto 96 hX dX4_period_78 (by decide) ?_)
        exact jx_sub [2, 3, 1, 0] rfl (b96 a0 a1 x10 x15 0 s20 h)
      · have h := h.2 hb21
        refine jx_iconst 74 hX 1 (by decide) dX4_period_73 rfl (jx_goto 96 hX dX4_period_74 (by decide) ?_)
        exact jx_sub [2, 3, 1, 0] rfl (b96 a0 a1 x10 x15 1 s20 h)
  · have h := h.2 hb5
    refine jx_iconst 8 hX 0 (by decide) dX4_period_7 rfl ?_
    exact jx_zret hX dX4_period_8 (by decide) h
set_option maxHeartbeats 4000000 in
set_option maxRecDepth 100000 in
theorem mX4_parts (l : Launch) (D : jx_Dt) (post : Int32 → jx_St → Prop) (a0 : Nat) (a1 : Int32) (s : jx_St) (h : wX4_parts post a0 a1 s) : jx_Met l yX4_parts cX4_parts 4 (some .boolean) (jx_r 5 113) D jx_LM [.ref (D.2.1 a0), .int a1] s (jx_Qi D jx_LM (fun r u => (r = 0 ∨ r = 1) ∧ post r u)) := by
  refine jx_ofJ (by decide) (Nat.le_of_ble_eq_true rfl) (fun X hl hX => ?_)
  subst hl
  replace hX : jx_K D jx_LM X cX4_parts RX4 4 (some .boolean) (jx_r 5 113) (jx_Qi D jx_LM (fun r u => (r = 0 ∨ r = 1) ∧ post r u)) := hX
  show jx_J D jx_LM X 0 [(0, .ref (D.2.1 a0)), (1, .int a1)] [] s
  have b114 : ∀ (a0 : Nat) (a1 : Int32) (a2 : Int32) (s : jx_St), wX4_parts_b114 post a0 a1 a2 s → jx_J D jx_LM X 114 [(0, .ref (D.2.1 a0)), (1, .int a1), (2, .int a2)] [] s := by
    intro a0 a1 a2 s h
    unfold wX4_parts_b114 at h
    refine jx_aload_n 115 hX 0 rfl rfl dX4_parts_114 rfl (jx_iload_n 116 hX 1 rfl rfl dX4_parts_115 rfl ?_)
    obtain ⟨hc28, h⟩ := h
    refine jx_callVi 119 hX (mX4_cloudsOf _ D _ a0 a1 s h) jv_X4_142 jn_4 hc28 ⟨rfl, rfl, by decide, by decide⟩ rfl rfl (Nat.le_of_ble_eq_true rfl) dX4_parts_116 rfl (fun r29 s30 h => ?_)
    obtain ⟨hz31, h⟩ := h
    have h := h hz31
    refine jx_if_ne 122 126 hX dX4_parts_119 rfl (by decide) (fun hb32 => ?_) (fun hb32 => ?_)
    · have h := h.1 hb32
      refine jx_iconst 127 hX 1 (by decide) dX4_parts_126 rfl (jx_goto 131 hX dX4_parts_127 (by decide) ?_)
      exact jx_zret hX dX4_parts_131 (by decide) h
    · have h := h.2 hb32
      refine jx_iload_n 123 hX 2 rfl rfl dX4_parts_122 rfl ?_
      refine jx_if_eq 126 130 hX dX4_parts_123 rfl (by decide) (fun hb33 => ?_) (fun hb33 => ?_)
      · have h := h.1 hb33
        refine jx_iconst 131 hX 0 (by decide) dX4_parts_130 rfl ?_
        exact jx_zret hX dX4_parts_131 (by decide) h
      · have h := h.2 hb33
        refine jx_iconst 127 hX 1 (by decide) dX4_parts_126 rfl (jx_goto 131 hX dX4_parts_127 (by decide) ?_)
        exact jx_zret hX dX4_parts_131 (by decide) h
  have b99 : ∀ (a0 : Nat) (a1 : Int32) (a2 : Int32) (a3 : Int32) (k0 : Nat) (k1 : Int32) (k2 : Int32) (s : jx_St), wX4_parts_b99 post a0 a1 a2 a3 k0 k1 k2 s → jx_J D jx_LM X 99 [(0, .ref (D.2.1 a0)), (1, .int a1), (2, .int a2), (3, .int a3)] [.int k2, .int k1, .ref (D.2.1 k0)] s := by
    intro a0 a1 a2 a3 k0 k1 k2 s h
    unfold wX4_parts_b99 at h
    obtain ⟨hc24, h⟩ := h
    refine jx_iastore 100 hX hc24 dX4_parts_99 rfl ?_
    refine jx_namu (fun s25 hs25 => ?_)
    have h := h s25 hs25
    refine jx_iload_n 101 hX 2 rfl rfl dX4_parts_100 rfl ?_
    refine jx_if_ne 104 108 hX dX4_parts_101 rfl (by decide) (fun hb26 => ?_) (fun hb26 => ?_)
    · have h := h.1 hb26
      refine jx_iconst 109 hX 1 (by decide) dX4_parts_108 rfl (jx_goto 113 hX dX4_parts_109 (by decide) (jx_istore_n 114 hX [(2, .int 1), (0, .ref (D.2.1 a0)), (1, .int a1), (3, .int a3)] rfl (by decide) rfl dX4_parts_113 rfl ?_))
      exact jx_sub [1, 2, 0] rfl (b114 a0 a1 1 s25 h)
    · have h := h.2 hb26
      refine jx_iload_n 105 hX 3 rfl rfl dX4_parts_104 rfl ?_
      refine jx_if_le 108 112 hX dX4_parts_105 rfl (by decide) (fun hb27 => ?_) (fun hb27 => ?_)
      · have h := h.1 hb27
        refine jx_iconst 113 hX 0 (by decide) dX4_parts_112 rfl (jx_istore_n 114 hX [(2, .int 0), (0, .ref (D.2.1 a0)), (1, .int a1), (3, .int a3)] rfl (by decide) rfl dX4_parts_113 rfl ?_)
        exact jx_sub [1, 2, 0] rfl (b114 a0 a1 0 s25 h)
      · have h := h.2 hb27
        refine jx_iconst 109 hX 1 (by decide) dX4_parts_108 rfl (jx_goto 113 hX dX4_parts_109 (by decide) (jx_istore_n 114 hX [(2, .int 1), (0, .ref (D.2.1 a0)), (1, .int a1), (3, .int a3)] rfl (by decide) rfl dX4_parts_113 rfl ?_))
        exact jx_sub [1, 2, 0] rfl (b114 a0 a1 1 s25 h)
  have b33 : ∀ (a0 : Nat) (a1 : Int32) (k0 : Int32) (s : jx_St), wX4_parts_b33 post a0 a1 k0 s → jx_J D jx_LM X 33 [(0, .ref (D.2.1 a0)), (1, .int a1)] [.int k0] s := by
    intro a0 a1 k0 s h
    unfold wX4_parts_b33 at h
    refine jx_istore_n 34 hX [(2, .int k0), (0, .ref (D.2.1 a0)), (1, .int a1)] rfl (by decide) rfl dX4_parts_33 rfl (jx_aload_n 35 hX 1 rfl rfl dX4_parts_34 rfl ?_)
    obtain ⟨hc14, h⟩ := h
    refine jx_callVl 38 hX (mX4_word _ D _ a0 s h) jv_X4_122 jn_4 hc14 ⟨rfl, rfl, by decide, by decide⟩ rfl rfl (Nat.le_of_ble_eq_true rfl) dX4_parts_35 rfl (fun r15 s16 h => ?_)
    refine jx_ldc2 41 hX jc_X4_148 dX4_parts_38 rfl (jx_lcmp 42 hX dX4_parts_41 rfl ?_)
    refine jx_if_ne 45 73 hX dX4_parts_42 rfl (by decide) (fun hb17 => ?_) (fun hb17 => ?_)
    · have h := h.1 hb17
      refine jx_aload_n 74 hX 1 rfl rfl dX4_parts_73 rfl (jx_iload_n 75 hX 2 rfl rfl dX4_parts_74 rfl ?_)
      refine jx_callVi 78 hX (mX4_weatherOf _ D _ a0 a1 s16 h) jv_X4_139 jn_4 hc14 ⟨rfl, rfl, by decide, by decide⟩ rfl rfl (Nat.le_of_ble_eq_true rfl) dX4_parts_75 rfl (fun r18 s19 h => ?_)
      refine jx_istore_n 79 hX [(3, .int r18), (2, .int k0), (0, .ref (D.2.1 a0)), (1, .int a1)] rfl (by decide) rfl dX4_parts_78 rfl (jx_aload_n 80 hX 2 rfl rfl dX4_parts_79 rfl (jx_getR 83 hX jf_X4_22 rfl hc14 dX4_parts_80 rfl (jx_bipush 85 hX 10 (by decide) dX4_parts_83 rfl (jx_iload_n 86 hX 3 rfl rfl dX4_parts_85 rfl (jx_imul 87 hX dX4_parts_86 rfl ?_)))))
      refine jx_bipush 89 hX 8 (by decide) dX4_parts_87 rfl (jx_iadd 90 hX dX4_parts_89 rfl (jx_iload_n 91 hX 0 rfl rfl dX4_parts_90 rfl ?_))
      refine jx_if_le 94 98 hX dX4_parts_91 rfl (by decide) (fun hb20 => ?_) (fun hb20 => ?_)
      · have h := h.1 hb20
        refine jx_iconst 99 hX (-1) (by decide) dX4_parts_98 rfl ?_
        exact jx_sub [2, 3, 1, 0] rfl (b99 a0 a1 k0 r18 (s19.2 a0 15) ((10 * a1) + 8) (-1) s19 h)
      · have h := h.2 hb20
        refine jx_iload_n 95 hX 0 rfl rfl dX4_parts_94 rfl (jx_goto 99 hX dX4_parts_95 (by decide) ?_)
        exact jx_sub [2, 3, 1, 0] rfl (b99 a0 a1 k0 r18 (s19.2 a0 15) ((10 * a1) + 8) r18 s19 h)
    · have h := h.2 hb17
      refine jx_aload_n 46 hX 1 rfl rfl dX4_parts_45 rfl (jx_getR 49 hX jf_X4_22 rfl hc14 dX4_parts_46 rfl (jx_bipush 51 hX 10 (by decide) dX4_parts_49 rfl (jx_iload_n 52 hX 2 rfl rfl dX4_parts_51 rfl (jx_imul 53 hX dX4_parts_52 rfl (jx_bipush 55 hX 8 (by decide) dX4_parts_53 rfl ?_)))))
      refine jx_iadd 56 hX dX4_parts_55 rfl (jx_iconst 57 hX 0 (by decide) dX4_parts_56 rfl ?_)
      obtain ⟨hc21, h⟩ := h
      refine jx_iastore 58 hX hc21 dX4_parts_57 rfl ?_
      refine jx_namu (fun s22 hs22 => ?_)
      have h := h s22 hs22
      refine jx_iconst 59 hX 1 (by decide) dX4_parts_58 rfl (jx_istore_n 60 hX [(2, .int 1), (0, .ref (D.2.1 a0)), (1, .int a1)] rfl (by decide) rfl dX4_parts_59 rfl (jx_aload_n 61 hX 1 rfl rfl dX4_parts_60 rfl (jx_dup 62 hX rfl dX4_parts_61 rfl (jx_getI 65 hX jf_X4_62 rfl hc14 dX4_parts_62 rfl (jx_iconst 66 hX 1 (by decide) dX4_parts_65 rfl ?_)))))
      refine jx_iadd 67 hX dX4_parts_66 rfl (jx_putI 70 hX jp_X4_62 rfl hc14 dX4_parts_67 rfl ?_)
      refine jx_namu (fun s23 hs23 => ?_)
      have h := h s23 hs23
      refine jx_goto 114 hX dX4_parts_70 (by decide) ?_
      exact jx_sub [1, 2, 0] rfl (b114 a0 a1 1 s23 h)
  unfold wX4_parts at h
  refine jx_aload_n 1 hX 0 rfl rfl dX4_parts_0 rfl (jx_iload_n 2 hX 1 rfl rfl dX4_parts_1 rfl ?_)
  obtain ⟨hc1, h⟩ := h
  refine jx_callVi 5 hX (mX4_wind _ D _ a0 a1 s h) jv_X4_145 jn_4 hc1 ⟨rfl, rfl, by decide, by decide⟩ rfl rfl (Nat.le_of_ble_eq_true rfl) dX4_parts_2 rfl (fun r2 s3 h => ?_)
  obtain ⟨hz4, h⟩ := h
  have h := h hz4
  refine jx_istore_n 6 hX [(2, .int r2), (0, .ref (D.2.1 a0)), (1, .int a1)] rfl (by decide) rfl dX4_parts_5 rfl (jx_aload_n 7 hX 1 rfl rfl dX4_parts_6 rfl (jx_iload_n 8 hX 2 rfl rfl dX4_parts_7 rfl ?_))
  refine jx_callVi 11 hX (mX4_clear _ D _ a0 a1 s3 h) jv_X4_133 jn_4 hc1 ⟨rfl, rfl, by decide, by decide⟩ rfl rfl (Nat.le_of_ble_eq_true rfl) dX4_parts_8 rfl (fun r5 s6 h => ?_)
  obtain ⟨hz7, h⟩ := h
  have h := h hz7
  refine jx_if_eq 14 16 hX dX4_parts_11 rfl (by decide) (fun hb8 => ?_) (fun hb8 => ?_)
  · have h := h.1 hb8
    refine jx_aload_n 17 hX 1 rfl rfl dX4_parts_16 rfl (jx_iload_n 18 hX 2 rfl rfl dX4_parts_17 rfl ?_)
    refine jx_callVi 21 hX (mX4_visibility _ D _ a0 a1 s6 h) jv_X4_136 jn_4 hc1 ⟨rfl, rfl, by decide, by decide⟩ rfl rfl (Nat.le_of_ble_eq_true rfl) dX4_parts_18 rfl (fun r9 s10 h => ?_)
    obtain ⟨hz11, h⟩ := h
    have h := h hz11
    refine jx_if_ne 24 28 hX dX4_parts_21 rfl (by decide) (fun hb12 => ?_) (fun hb12 => ?_)
    · have h := h.1 hb12
      refine jx_iconst 29 hX 1 (by decide) dX4_parts_28 rfl (jx_goto 33 hX dX4_parts_29 (by decide) ?_)
      exact jx_sub [1, 2] rfl (b33 a0 a1 1 s10 h)
    · have h := h.2 hb12
      refine jx_iload_n 25 hX 0 rfl rfl dX4_parts_24 rfl ?_
      refine jx_if_eq 28 32 hX dX4_parts_25 rfl (by decide) (fun hb13 => ?_) (fun hb13 => ?_)
      · have h := h.1 hb13
        refine jx_iconst 33 hX 0 (by decide) dX4_parts_32 rfl ?_
        exact jx_sub [1, 2] rfl (b33 a0 a1 0 s10 h)
      · have h := h.2 hb13
        refine jx_iconst 29 hX 1 (by decide) dX4_parts_28 rfl (jx_goto 33 hX dX4_parts_29 (by decide) ?_)
        exact jx_sub [1, 2] rfl (b33 a0 a1 1 s10 h)
  · have h := h.2 hb8
    refine jx_iconst 15 hX 1 (by decide) dX4_parts_14 rfl ?_
    exact jx_zret hX dX4_parts_15 (by decide) h
set_option maxHeartbeats 4000000 in
set_option maxRecDepth 100000 in
theorem mX4_change (l : Launch) (D : jx_Dt) (post : Int32 → jx_St → Prop) (a0 : Nat) (a1 : Int32) (a2 : Int32) (s : jx_St) (h : wX4_change post a0 a1 a2 s) : jx_Met l yX4_change cX4_change 6 (some .boolean) (jx_r 6 136) D jx_LM [.ref (D.2.1 a0), .int a1, .int a2] s (jx_Qi D jx_LM (fun r u => (r = 0 ∨ r = 1) ∧ post r u)) := by
  refine jx_ofJ (by decide) (Nat.le_of_ble_eq_true rfl) (fun X hl hX => ?_)
  subst hl
  replace hX : jx_K D jx_LM X cX4_change RX4 6 (some .boolean) (jx_r 6 136) (jx_Qi D jx_LM (fun r u => (r = 0 ∨ r = 1) ∧ post r u)) := hX
  show jx_J D jx_LM X 0 [(0, .ref (D.2.1 a0)), (1, .int a1), (2, .int a2)] [] s
  have b202 : ∀ (a0 : Nat) (a1 : Int32) (s : jx_St), wX4_change_b202 post a0 a1 s → jx_J D jx_LM X 202 [(0, .ref (D.2.1 a0)), (1, .int a1)] [] s := by
    intro a0 a1 s h
    unfold wX4_change_b202 at h
    refine jx_aload_n 203 hX 0 rfl rfl dX4_change_202 rfl (jx_iload_n 204 hX 1 rfl rfl dX4_change_203 rfl ?_)
    obtain ⟨hc42, h⟩ := h
    refine jx_callVi 207 hX (mX4_period _ D _ a0 a1 s h) jv_X4_168 jn_4 hc42 ⟨rfl, rfl, by decide, by decide⟩ rfl rfl (Nat.le_of_ble_eq_true rfl) dX4_change_204 rfl (fun r43 s44 h => ?_)
    obtain ⟨hz45, h⟩ := h
    have h := h hz45
    refine jx_if_eq 210 222 hX dX4_change_207 rfl (by decide) (fun hb46 => ?_) (fun hb46 => ?_)
    · have h := h.1 hb46
      refine jx_iconst 223 hX 0 (by decide) dX4_change_222 rfl ?_
      exact jx_zret hX dX4_change_223 (by decide) h
    · have h := h.2 hb46
      refine jx_aload_n 211 hX 0 rfl rfl dX4_change_210 rfl (jx_iload_n 212 hX 1 rfl rfl dX4_change_211 rfl ?_)
      refine jx_callVi 215 hX (mX4_parts _ D _ a0 a1 s44 h) jv_X4_171 jn_4 hc42 ⟨rfl, rfl, by decide, by decide⟩ rfl rfl (Nat.le_of_ble_eq_true rfl) dX4_change_212 rfl (fun r47 s48 h => ?_)
      obtain ⟨hz49, h⟩ := h
      have h := h hz49
      refine jx_if_eq 218 222 hX dX4_change_215 rfl (by decide) (fun hb50 => ?_) (fun hb50 => ?_)
      · have h := h.1 hb50
        refine jx_iconst 223 hX 0 (by decide) dX4_change_222 rfl ?_
        exact jx_zret hX dX4_change_223 (by decide) h
      · have h := h.2 hb50
        refine jx_iconst 219 hX 1 (by decide) dX4_change_218 rfl (jx_goto 223 hX dX4_change_219 (by decide) ?_)
        exact jx_zret hX dX4_change_223 (by decide) h
  have b141 : ∀ (a0 : Nat) (a1 : Int32) (a5 : Int32) (k0 : Nat) (k1 : Int32) (k2 : Int32) (s : jx_St), wX4_change_b141 post a0 a1 a5 k0 k1 k2 s → jx_J D jx_LM X 141 [(0, .ref (D.2.1 a0)), (1, .int a1), (5, .int a5)] [.int k2, .int k1, .ref (D.2.1 k0)] s := by
    intro a0 a1 a5 k0 k1 k2 s h
    unfold wX4_change_b141 at h
    obtain ⟨hc29, h⟩ := h
    refine jx_iastore 142 hX hc29 dX4_change_141 rfl ?_
    refine jx_namu (fun s30 hs30 => ?_)
    have h := h s30 hs30
    refine jx_aload_n 143 hX 0 rfl rfl dX4_change_142 rfl ?_
    obtain ⟨hc31, h⟩ := h
    refine jx_getR 146 hX jf_X4_22 rfl hc31 dX4_change_143 rfl (jx_bipush 148 hX 10 (by decide) dX4_change_146 rfl (jx_iload_n 149 hX 1 rfl rfl dX4_change_148 rfl (jx_imul 150 hX dX4_change_149 rfl ?_)))
    obtain ⟨hc32, h⟩ := h
    refine jx_iaload 151 hX hc32 dX4_change_150 rfl ?_
    refine jx_if_ne 154 156 hX dX4_change_151 rfl (by decide) (fun hb33 => ?_) (fun hb33 => ?_)
    · have h := h.1 hb33
      refine jx_aload_n 157 hX 0 rfl rfl dX4_change_156 rfl (jx_dup 158 hX rfl dX4_change_157 rfl (jx_getI 161 hX jf_X4_62 rfl hc31 dX4_change_158 rfl (jx_iconst 162 hX 1 (by decide) dX4_change_161 rfl (jx_iadd 163 hX dX4_change_162 rfl (jx_putI 166 hX jp_X4_62 rfl hc31 dX4_change_163 rfl ?_)))))
      refine jx_namu (fun s34 hs34 => ?_)
      have h := h s34 hs34
      refine jx_iload 168 hX 2 rfl dX4_change_166 rfl ?_
      refine jx_if_le 171 202 hX dX4_change_168 rfl (by decide) (fun hb35 => ?_) (fun hb35 => ?_)
      · have h := h.1 hb35
        exact jx_sub [0, 1] rfl (b202 a0 a1 s34 h)
      · have h := h.2 hb35
        refine jx_aload_n 172 hX 0 rfl rfl dX4_change_171 rfl ?_
        refine jx_callVl 175 hX (mX4_word _ D _ a0 s34 h) jv_X4_122 jn_4 hc31 ⟨rfl, rfl, by decide, by decide⟩ rfl rfl (Nat.le_of_ble_eq_true rfl) dX4_change_172 rfl (fun r36 s37 h => ?_)
        refine jx_ldc2 178 hX jc_X4_166 dX4_change_175 rfl (jx_lcmp 179 hX dX4_change_178 rfl ?_)
        refine jx_if_ne 182 202 hX dX4_change_179 rfl (by decide) (fun hb38 => ?_) (fun hb38 => ?_)
        · have h := h.1 hb38
          exact jx_sub [0, 1] rfl (b202 a0 a1 s37 h)
        · have h := h.2 hb38
          refine jx_aload_n 183 hX 0 rfl rfl dX4_change_182 rfl (jx_getR 186 hX jf_X4_22 rfl hc31 dX4_change_183 rfl (jx_bipush 188 hX 10 (by decide) dX4_change_186 rfl (jx_iload_n 189 hX 1 rfl rfl dX4_change_188 rfl (jx_imul 190 hX dX4_change_189 rfl (jx_iconst 191 hX 5 (by decide) dX4_change_190 rfl ?_)))))
          obtain ⟨hc39, h⟩ := h
          refine jx_iastore 192 hX hc39 dX4_change_191 rfl ?_
          refine jx_namu (fun s40 hs40 => ?_)
          have h := h s40 hs40
          refine jx_aload_n 193 hX 0 rfl rfl dX4_change_192 rfl (jx_dup 194 hX rfl dX4_change_193 rfl (jx_getI 197 hX jf_X4_62 rfl hc31 dX4_change_194 rfl (jx_iconst 198 hX 1 (by decide) dX4_change_197 rfl (jx_iadd 199 hX dX4_change_198 rfl (jx_putI 202 hX jp_X4_62 rfl hc31 dX4_change_199 rfl ?_)))))
          refine jx_namu (fun s41 hs41 => ?_)
          have h := h s41 hs41
          exact jx_sub [0, 1] rfl (b202 a0 a1 s41 h)
    · have h := h.2 hb33
      refine jx_iconst 155 hX 0 (by decide) dX4_change_154 rfl ?_
      exact jx_zret hX dX4_change_155 (by decide) h
  have b84 : ∀ (a0 : Nat) (a1 : Int32) (a3 : Int64) (k0 : Int32) (s : jx_St), wX4_change_b84 post a0 a1 a3 k0 s → jx_J D jx_LM X 84 [(0, .ref (D.2.1 a0)), (1, .int a1), (3, .long a3)] [.int k0] s := by
    intro a0 a1 a3 k0 s h
    unfold wX4_change_b84 at h
    refine jx_istore 86 hX [(5, .int k0), (0, .ref (D.2.1 a0)), (1, .int a1), (3, .long a3)] (by decide) rfl dX4_change_84 rfl (jx_aload_n 87 hX 1 rfl rfl dX4_change_86 rfl ?_)
    obtain ⟨hc23, h⟩ := h
    refine jx_getR 90 hX jf_X4_22 rfl hc23 dX4_change_87 rfl (jx_bipush 92 hX 10 (by decide) dX4_change_90 rfl (jx_iload_n 93 hX 2 rfl rfl dX4_change_92 rfl (jx_imul 94 hX dX4_change_93 rfl (jx_iconst 95 hX 1 (by decide) dX4_change_94 rfl (jx_iadd 96 hX dX4_change_95 rfl ?_)))))
    refine jx_iload 98 hX 0 rfl dX4_change_96 rfl ?_
    obtain ⟨hc24, h⟩ := h
    refine jx_iastore 99 hX hc24 dX4_change_98 rfl ?_
    refine jx_namu (fun s25 hs25 => ?_)
    have h := h s25 hs25
    refine jx_aload_n 100 hX 1 rfl rfl dX4_change_99 rfl (jx_getR 103 hX jf_X4_22 rfl hc23 dX4_change_100 rfl (jx_bipush 105 hX 10 (by decide) dX4_change_103 rfl (jx_iload_n 106 hX 2 rfl rfl dX4_change_105 rfl (jx_imul 107 hX dX4_change_106 rfl (jx_lload_n 108 hX 3 rfl rfl dX4_change_107 rfl ?_)))))
    refine jx_ldc2 111 hX jc_X4_164 dX4_change_108 rfl (jx_lcmp 112 hX dX4_change_111 rfl ?_)
    refine jx_if_ne 115 119 hX dX4_change_112 rfl (by decide) (fun hb26 => ?_) (fun hb26 => ?_)
    · have h := h.1 hb26
      refine jx_lload_n 120 hX 3 rfl rfl dX4_change_119 rfl (jx_ldc2 123 hX jc_X4_166 dX4_change_120 rfl (jx_lcmp 124 hX dX4_change_123 rfl ?_))
      refine jx_if_ne 127 131 hX dX4_change_124 rfl (by decide) (fun hb27 => ?_) (fun hb27 => ?_)
      · have h := h.1 hb27
        refine jx_iload 133 hX 0 rfl dX4_change_131 rfl ?_
        refine jx_if_le 136 140 hX dX4_change_133 rfl (by decide) (fun hb28 => ?_) (fun hb28 => ?_)
        · have h := h.1 hb28
          refine jx_iconst 141 hX 0 (by decide) dX4_change_140 rfl ?_
          exact jx_sub [1, 2, 0] rfl (b141 a0 a1 k0 (s25.2 a0 15) (10 * a1) 0 s25 h)
        · have h := h.2 hb28
          refine jx_iconst 137 hX 4 (by decide) dX4_change_136 rfl (jx_goto 141 hX dX4_change_137 (by decide) ?_)
          exact jx_sub [1, 2, 0] rfl (b141 a0 a1 k0 (s25.2 a0 15) (10 * a1) 4 s25 h)
      · have h := h.2 hb27
        refine jx_iconst 128 hX 3 (by decide) dX4_change_127 rfl (jx_goto 141 hX dX4_change_128 (by decide) ?_)
        exact jx_sub [1, 2, 0] rfl (b141 a0 a1 k0 (s25.2 a0 15) (10 * a1) 3 s25 h)
    · have h := h.2 hb26
      refine jx_iconst 116 hX 2 (by decide) dX4_change_115 rfl (jx_goto 141 hX dX4_change_116 (by decide) ?_)
      exact jx_sub [1, 2, 0] rfl (b141 a0 a1 k0 (s25.2 a0 15) (10 * a1) 2 s25 h)
  unfold wX4_change at h
  refine jx_aload_n 1 hX 0 rfl rfl dX4_change_0 rfl ?_
  obtain ⟨hc1, h⟩ := h
  refine jx_callVl 4 hX (mX4_word _ D _ a0 s h) jv_X4_122 jn_4 hc1 ⟨rfl, rfl, by decide, by decide⟩ rfl rfl (Nat.le_of_ble_eq_true rfl) dX4_change_1 rfl (fun r2 s3 h => ?_)
  refine jx_lstore_n 5 hX [(3, .long r2), (0, .ref (D.2.1 a0)), (1, .int a1), (2, .int a2)] rfl (by decide) rfl dX4_change_4 rfl (jx_aload_n 6 hX 1 rfl rfl dX4_change_5 rfl (jx_iconst 7 hX 0 (by decide) dX4_change_6 rfl ?_))
  refine jx_callVi 10 hX (mX4_pair _ D _ a0 0 s3 h) jv_X4_106 jn_4 hc1 ⟨rfl, rfl, by decide, by decide⟩ rfl rfl (Nat.le_of_ble_eq_true rfl) dX4_change_7 rfl (fun r4 s5 h => ?_)
  refine jx_sipush 13 hX 17997 (by decide) dX4_change_10 rfl ?_
  refine jx_icmp_ne 16 57 hX dX4_change_13 rfl (by decide) (fun hb6 => ?_) (fun hb6 => ?_)
  · have h := h.1 hb6
    refine jx_lload_n 58 hX 0 rfl rfl dX4_change_57 rfl (jx_ldc2 61 hX jc_X4_160 dX4_change_58 rfl (jx_lcmp 62 hX dX4_change_61 rfl ?_))
    refine jx_if_ne 65 70 hX dX4_change_62 rfl (by decide) (fun hb7 => ?_) (fun hb7 => ?_)
    · have h := h.1 hb7
      refine jx_lload_n 71 hX 0 rfl rfl dX4_change_70 rfl (jx_ldc2 74 hX jc_X4_162 dX4_change_71 rfl (jx_lcmp 75 hX dX4_change_74 rfl ?_))
      refine jx_if_ne 78 83 hX dX4_change_75 rfl (by decide) (fun hb8 => ?_) (fun hb8 => ?_)
      · have h := h.1 hb8
        refine jx_iconst 84 hX 0 (by decide) dX4_change_83 rfl ?_
        exact jx_sub [1, 2, 0] rfl (b84 a0 a1 r2 0 s5 h)
      · have h := h.2 hb8
        refine jx_bipush 80 hX 40 (by decide) dX4_change_78 rfl (jx_goto 84 hX dX4_change_80 (by decide) ?_)
        exact jx_sub [1, 2, 0] rfl (b84 a0 a1 r2 40 s5 h)
    · have h := h.2 hb7
      refine jx_bipush 67 hX 30 (by decide) dX4_change_65 rfl (jx_goto 84 hX dX4_change_67 (by decide) ?_)
      exact jx_sub [1, 2, 0] rfl (b84 a0 a1 r2 30 s5 h)
  · have h := h.2 hb6
    refine jx_aload_n 17 hX 1 rfl rfl dX4_change_16 rfl (jx_getR 20 hX jf_X4_22 rfl hc1 dX4_change_17 rfl (jx_bipush 22 hX 10 (by decide) dX4_change_20 rfl (jx_iload_n 23 hX 2 rfl rfl dX4_change_22 rfl (jx_imul 24 hX dX4_change_23 rfl (jx_iconst 25 hX 1 (by decide) dX4_change_24 rfl ?_)))))
    obtain ⟨hc9, h⟩ := h
    refine jx_iastore 26 hX hc9 dX4_change_25 rfl ?_
    refine jx_namu (fun s10 hs10 => ?_)
    have h := h s10 hs10
    refine jx_aload_n 27 hX 1 rfl rfl dX4_change_26 rfl (jx_iload_n 28 hX 2 rfl rfl dX4_change_27 rfl (jx_iload_n 29 hX 3 rfl rfl dX4_change_28 rfl ?_))
    refine jx_callVi 32 hX (mX4_since _ D _ a0 a1 a2 s10 h) jv_X4_154 jn_4 hc1 ⟨rfl, rfl, by decide, by decide⟩ rfl rfl (Nat.le_of_ble_eq_true rfl) dX4_change_29 rfl (fun r11 s12 h => ?_)
    obtain ⟨hz13, h⟩ := h
    have h := h hz13
    refine jx_if_eq 35 55 hX dX4_change_32 rfl (by decide) (fun hb14 => ?_) (fun hb14 => ?_)
    · have h := h.1 hb14
      refine jx_iconst 56 hX 0 (by decide) dX4_change_55 rfl ?_
      exact jx_zret hX dX4_change_56 (by decide) h
    · have h := h.2 hb14
      refine jx_aload_n 36 hX 1 rfl rfl dX4_change_35 rfl (jx_iload_n 37 hX 2 rfl rfl dX4_change_36 rfl ?_)
      refine jx_callVi 40 hX (mX4_wind _ D _ a0 a1 s12 h) jv_X4_145 jn_4 hc1 ⟨rfl, rfl, by decide, by decide⟩ rfl rfl (Nat.le_of_ble_eq_true rfl) dX4_change_37 rfl (fun r15 s16 h => ?_)
      obtain ⟨hz17, h⟩ := h
      have h := h hz17
      refine jx_if_eq 43 55 hX dX4_change_40 rfl (by decide) (fun hb18 => ?_) (fun hb18 => ?_)
      · have h := h.1 hb18
        refine jx_iconst 56 hX 0 (by decide) dX4_change_55 rfl ?_
        exact jx_zret hX dX4_change_56 (by decide) h
      · have h := h.2 hb18
        refine jx_aload_n 44 hX 1 rfl rfl dX4_change_43 rfl (jx_iload_n 45 hX 2 rfl rfl dX4_change_44 rfl ?_)
        refine jx_callVi 48 hX (mX4_sky _ D _ a0 a1 s16 h) jv_X4_157 jn_4 hc1 ⟨rfl, rfl, by decide, by decide⟩ rfl rfl (Nat.le_of_ble_eq_true rfl) dX4_change_45 rfl (fun r19 s20 h => ?_)
        obtain ⟨hz21, h⟩ := h
        have h := h hz21
        refine jx_if_eq 51 55 hX dX4_change_48 rfl (by decide) (fun hb22 => ?_) (fun hb22 => ?_)
        · have h := h.1 hb22
          refine jx_iconst 56 hX 0 (by decide) dX4_change_55 rfl ?_
          exact jx_zret hX dX4_change_56 (by decide) h
        · have h := h.2 hb22
          refine jx_iconst 52 hX 1 (by decide) dX4_change_51 rfl (jx_goto 56 hX dX4_change_52 (by decide) ?_)
          exact jx_zret hX dX4_change_56 (by decide) h
set_option maxHeartbeats 4000000 in
set_option maxRecDepth 100000 in
theorem mX4_character (l : Launch) (D : jx_Dt) (post : Int32 → jx_St → Prop) (a0 : Nat) (a1 : Int32) (s : jx_St) (h : wX4_character post a0 a1 s) : jx_Met l yX4_character cX4_character 2 (some .int) (jx_r 0 0) D jx_LM [.ref (D.2.1 a0), .int a1] s (jx_Qi D jx_LM post) := by
  refine jx_ofJ (by decide) (Nat.le_of_ble_eq_true rfl) (fun X hl hX => ?_)
  subst hl
  replace hX : jx_K D jx_LM X cX4_character RX4 2 (some .int) (jx_r 0 0) (jx_Qi D jx_LM post) := hX
  show jx_J D jx_LM X 0 [(0, .ref (D.2.1 a0)), (1, .int a1)] [] s
  unfold wX4_character at h
  refine jx_iload_n 1 hX 1 rfl rfl dX4_character_0 rfl ?_
  refine jx_if_lt 4 21 hX dX4_character_1 rfl (by decide) (fun hb1 => ?_) (fun hb1 => ?_)
  · have h := h.1 hb1
    refine jx_iconst 22 hX (-1) (by decide) dX4_character_21 rfl ?_
    exact jx_iret hX dX4_character_22 h
  · have h := h.2 hb1
    refine jx_iload_n 5 hX 1 rfl rfl dX4_character_4 rfl (jx_aload_n 6 hX 0 rfl rfl dX4_character_5 rfl ?_)
    obtain ⟨hc2, h⟩ := h
    refine jx_getI 9 hX jf_X4_253 rfl hc2 dX4_character_6 rfl ?_
    refine jx_icmp_ge 12 21 hX dX4_character_9 rfl (by decide) (fun hb3 => ?_) (fun hb3 => ?_)
    · have h := h.1 hb3
      refine jx_iconst 22 hX (-1) (by decide) dX4_character_21 rfl ?_
      exact jx_iret hX dX4_character_22 h
    · have h := h.2 hb3
      refine jx_aload_n 13 hX 0 rfl rfl dX4_character_12 rfl (jx_getR 16 hX jf_X4_46 rfl hc2 dX4_character_13 rfl (jx_iload_n 17 hX 1 rfl rfl dX4_character_16 rfl ?_))
      obtain ⟨hc4, h⟩ := h
      refine jx_iaload 18 hX hc4 dX4_character_17 rfl (jx_goto 22 hX dX4_character_18 (by decide) ?_)
      exact jx_iret hX dX4_character_22 h
set_option maxHeartbeats 4000000 in
set_option maxRecDepth 100000 in
theorem mX4_check (l : Launch) (D : jx_Dt) (post : Int32 → jx_St → Prop) (a0 : Nat) (s : jx_St) (h : wX4_check post a0 s) : jx_Met l yX4_check cX4_check 1 (some .int) (jx_r 0 0) D jx_LM [.ref (D.2.1 a0)] s (jx_Qi D jx_LM post) := by
  refine jx_ofJ (by decide) (Nat.le_of_ble_eq_true rfl) (fun X hl hX => ?_)
  subst hl
  replace hX : jx_K D jx_LM X cX4_check RX4 1 (some .int) (jx_r 0 0) (jx_Qi D jx_LM post) := hX
  show jx_J D jx_LM X 0 [(0, .ref (D.2.1 a0))] [] s
  unfold wX4_check at h
  refine jx_iconst 1 hX 1 (by decide) dX4_check_0 rfl ?_
  exact jx_iret hX dX4_check_1 h
set_option maxHeartbeats 4000000 in
set_option maxRecDepth 100000 in
theorem mX4_isGroup (l : Launch) (D : jx_Dt) (post : Int32 → jx_St → Prop) (a0 : Nat) (a1 : Int32) (s : jx_St) (h : wX4_isGroup post a0 a1 s) : jx_Met l yX4_isGroup cX4_isGroup 2 (some .boolean) (jx_r 0 0) D jx_LM [.ref (D.2.1 a0), .int a1] s (jx_Qi D jx_LM (fun r u => (r = 0 ∨ r = 1) ∧ post r u)) := by
  refine jx_ofJ (by decide) (Nat.le_of_ble_eq_true rfl) (fun X hl hX => ?_)
  subst hl
  replace hX : jx_K D jx_LM X cX4_isGroup RX4 2 (some .boolean) (jx_r 0 0) (jx_Qi D jx_LM (fun r u => (r = 0 ∨ r = 1) ∧ post r u)) := hX
  show jx_J D jx_LM X 0 [(0, .ref (D.2.1 a0)), (1, .int a1)] [] s
  unfold wX4_isGroup at h
  refine jx_aload_n 1 hX 0 rfl rfl dX4_isGroup_0 rfl ?_
  obtain ⟨hc1, h⟩ := h
  refine jx_getI 4 hX jf_X4_211 rfl hc1 dX4_isGroup_1 rfl ?_
  refine jx_if_le 7 23 hX dX4_isGroup_4 rfl (by decide) (fun hb2 => ?_) (fun hb2 => ?_)
  · have h := h.1 hb2
    refine jx_iconst 24 hX 0 (by decide) dX4_isGroup_23 rfl ?_
    exact jx_zret hX dX4_isGroup_24 (by decide) h
  · have h := h.2 hb2
    refine jx_iload_n 8 hX 1 rfl rfl dX4_isGroup_7 rfl ?_
    refine jx_if_lt 11 23 hX dX4_isGroup_8 rfl (by decide) (fun hb3 => ?_) (fun hb3 => ?_)
    · have h := h.1 hb3
      refine jx_iconst 24 hX 0 (by decide) dX4_isGroup_23 rfl ?_
      exact jx_zret hX dX4_isGroup_24 (by decide) h
    · have h := h.2 hb3
      refine jx_iload_n 12 hX 1 rfl rfl dX4_isGroup_11 rfl (jx_aload_n 13 hX 0 rfl rfl dX4_isGroup_12 rfl (jx_getI 16 hX jf_X4_214 rfl hc1 dX4_isGroup_13 rfl ?_))
      refine jx_icmp_ge 19 23 hX dX4_isGroup_16 rfl (by decide) (fun hb4 => ?_) (fun hb4 => ?_)
      · have h := h.1 hb4
        refine jx_iconst 24 hX 0 (by decide) dX4_isGroup_23 rfl ?_
        exact jx_zret hX dX4_isGroup_24 (by decide) h
      · have h := h.2 hb4
        refine jx_iconst 20 hX 1 (by decide) dX4_isGroup_19 rfl (jx_goto 24 hX dX4_isGroup_20 (by decide) ?_)
        exact jx_zret hX dX4_isGroup_24 (by decide) h
set_option maxHeartbeats 4000000 in
set_option maxRecDepth 100000 in
theorem mX4_cloud (l : Launch) (D : jx_Dt) (post : Int32 → jx_St → Prop) (a0 : Nat) (a1 : Int32) (a2 : Int32) (s : jx_St) (h : wX4_cloud post a0 a1 a2 s) : jx_Met l yX4_cloud cX4_cloud 3 (some .int) (jx_r 1 21) D jx_LM [.ref (D.2.1 a0), .int a1, .int a2] s (jx_Qi D jx_LM post) := by
  refine jx_ofJ (by decide) (Nat.le_of_ble_eq_true rfl) (fun X hl hX => ?_)
  subst hl
  replace hX : jx_K D jx_LM X cX4_cloud RX4 3 (some .int) (jx_r 1 21) (jx_Qi D jx_LM post) := hX
  show jx_J D jx_LM X 0 [(0, .ref (D.2.1 a0)), (1, .int a1), (2, .int a2)] [] s
  unfold wX4_cloud at h
  refine jx_aload_n 1 hX 0 rfl rfl dX4_cloud_0 rfl (jx_iload_n 2 hX 1 rfl rfl dX4_cloud_1 rfl ?_)
  obtain ⟨hc1, h⟩ := h
  refine jx_callVi 5 hX (mX4_isGroup _ D _ a0 a1 s h) jv_X4_232 jn_4 hc1 ⟨rfl, rfl, by decide, by decide⟩ rfl rfl (Nat.le_of_ble_eq_true rfl) dX4_cloud_2 rfl (fun r2 s3 h => ?_)
  obtain ⟨hz4, h⟩ := h
  have h := h hz4
  refine jx_if_eq 8 41 hX dX4_cloud_5 rfl (by decide) (fun hb5 => ?_) (fun hb5 => ?_)
  · have h := h.1 hb5
    refine jx_iconst 42 hX (-1) (by decide) dX4_cloud_41 rfl ?_
    exact jx_iret hX dX4_cloud_42 h
  · have h := h.2 hb5
    refine jx_iload_n 9 hX 2 rfl rfl dX4_cloud_8 rfl ?_
    refine jx_if_lt 12 41 hX dX4_cloud_9 rfl (by decide) (fun hb6 => ?_) (fun hb6 => ?_)
    · have h := h.1 hb6
      refine jx_iconst 42 hX (-1) (by decide) dX4_cloud_41 rfl ?_
      exact jx_iret hX dX4_cloud_42 h
    · have h := h.2 hb6
      refine jx_iload_n 13 hX 2 rfl rfl dX4_cloud_12 rfl (jx_aload_n 14 hX 0 rfl rfl dX4_cloud_13 rfl (jx_getR 17 hX jf_X4_34 rfl hc1 dX4_cloud_14 rfl (jx_bipush 19 hX 10 (by decide) dX4_cloud_17 rfl (jx_iload_n 20 hX 1 rfl rfl dX4_cloud_19 rfl (jx_imul 21 hX dX4_cloud_20 rfl ?_)))))
      refine jx_bipush 23 hX 9 (by decide) dX4_cloud_21 rfl (jx_iadd 24 hX dX4_cloud_23 rfl ?_)
      obtain ⟨hc7, h⟩ := h
      refine jx_iaload 25 hX hc7 dX4_cloud_24 rfl ?_
      refine jx_icmp_ge 28 41 hX dX4_cloud_25 rfl (by decide) (fun hb8 => ?_) (fun hb8 => ?_)
      · have h := h.1 hb8
        refine jx_iconst 42 hX (-1) (by decide) dX4_cloud_41 rfl ?_
        exact jx_iret hX dX4_cloud_42 h
      · have h := h.2 hb8
        refine jx_aload_n 29 hX 0 rfl rfl dX4_cloud_28 rfl (jx_getR 32 hX jf_X4_40 rfl hc1 dX4_cloud_29 rfl (jx_iconst 33 hX 4 (by decide) dX4_cloud_32 rfl (jx_iload_n 34 hX 1 rfl rfl dX4_cloud_33 rfl (jx_imul 35 hX dX4_cloud_34 rfl (jx_iload_n 36 hX 2 rfl rfl dX4_cloud_35 rfl ?_)))))
        refine jx_iadd 37 hX dX4_cloud_36 rfl ?_
        obtain ⟨hc9, h⟩ := h
        refine jx_iaload 38 hX hc9 dX4_cloud_37 rfl (jx_goto 42 hX dX4_cloud_38 (by decide) ?_)
        exact jx_iret hX dX4_cloud_42 h
set_option maxHeartbeats 4000000 in
set_option maxRecDepth 100000 in
theorem mX4_ends (l : Launch) (D : jx_Dt) (post : Int32 → jx_St → Prop) (a0 : Nat) (s : jx_St) (h : wX4_ends post a0 s) : jx_Met l yX4_ends cX4_ends 6 (some .boolean) (jx_r 3 65) D jx_LM [.ref (D.2.1 a0)] s (jx_Qi D jx_LM (fun r u => (r = 0 ∨ r = 1) ∧ post r u)) := by
  refine jx_ofJ (by decide) (Nat.le_of_ble_eq_true rfl) (fun X hl hX => ?_)
  subst hl
  replace hX : jx_K D jx_LM X cX4_ends RX4 6 (some .boolean) (jx_r 3 65) (jx_Qi D jx_LM (fun r u => (r = 0 ∨ r = 1) ∧ post r u)) := hX
  show jx_J D jx_LM X 0 [(0, .ref (D.2.1 a0))] [] s
  have b237 : ∀ (a0 : Nat) (a5 : Int32) (k0 : Nat) (k1 : Int32) (s : jx_St), wX4_ends_b237 post a0 a5 k0 k1 s → jx_J D jx_LM X 237 [(0, .ref (D.2.1 a0)), (5, .int a5)] [.int k1, .ref (D.2.1 k0)] s := by
    intro a0 a5 k0 k1 s h
    unfold wX4_ends_b237 at h
    obtain ⟨hc55, h⟩ := h
    refine jx_putI 240 hX jp_X4_62 rfl hc55 dX4_ends_237 rfl ?_
    refine jx_namu (fun s56 hs56 => ?_)
    have h := h s56 hs56
    refine jx_iload 242 hX 1 rfl dX4_ends_240 rfl ?_
    refine jx_if_eq 245 260 hX dX4_ends_242 rfl (by decide) (fun hb57 => ?_) (fun hb57 => ?_)
    · have h := h.1 hb57
      refine jx_iconst 261 hX 0 (by decide) dX4_ends_260 rfl ?_
      exact jx_zret hX dX4_ends_261 (by decide) h
    · have h := h.2 hb57
      refine jx_aload_n 246 hX 0 rfl rfl dX4_ends_245 rfl ?_
      obtain ⟨hc58, h⟩ := h
      refine jx_getI 249 hX jf_X4_62 rfl hc58 dX4_ends_246 rfl (jx_aload_n 250 hX 0 rfl rfl dX4_ends_249 rfl (jx_getI 253 hX jf_X4_59 rfl hc58 dX4_ends_250 rfl ?_))
      refine jx_icmp_ne 256 260 hX dX4_ends_253 rfl (by decide) (fun hb59 => ?_) (fun hb59 => ?_)
      · have h := h.1 hb59
        refine jx_iconst 261 hX 0 (by decide) dX4_ends_260 rfl ?_
        exact jx_zret hX dX4_ends_261 (by decide) h
      · have h := h.2 hb59
        refine jx_iconst 257 hX 1 (by decide) dX4_ends_256 rfl (jx_goto 261 hX dX4_ends_257 (by decide) ?_)
        exact jx_zret hX dX4_ends_261 (by decide) h
  have b216 : ∀ (a0 : Nat) (k0 : Int32) (s : jx_St), wX4_ends_b216 post a0 k0 s → jx_J D jx_LM X 216 [(0, .ref (D.2.1 a0))] [.int k0] s := by
    intro a0 k0 s h
    unfold wX4_ends_b216 at h
    refine jx_istore 218 hX [(5, .int k0), (0, .ref (D.2.1 a0))] (by decide) rfl dX4_ends_216 rfl (jx_aload_n 219 hX 1 rfl rfl dX4_ends_218 rfl (jx_iload 221 hX 0 rfl dX4_ends_219 rfl ?_))
    refine jx_if_eq 224 233 hX dX4_ends_221 rfl (by decide) (fun hb52 => ?_) (fun hb52 => ?_)
    · have h := h.1 hb52
      refine jx_aload_n 234 hX 1 rfl rfl dX4_ends_233 rfl ?_
      obtain ⟨hc53, h⟩ := h
      refine jx_getI 237 hX jf_X4_62 rfl hc53 dX4_ends_234 rfl ?_
      exact jx_sub [1, 0] rfl (b237 a0 k0 a0 (s.1 a0 5) s h)
    · have h := h.2 hb52
      refine jx_aload_n 225 hX 1 rfl rfl dX4_ends_224 rfl ?_
      obtain ⟨hc54, h⟩ := h
      refine jx_getI 228 hX jf_X4_62 rfl hc54 dX4_ends_225 rfl (jx_iconst 229 hX 1 (by decide) dX4_ends_228 rfl (jx_iadd 230 hX dX4_ends_229 rfl (jx_goto 237 hX dX4_ends_230 (by decide) ?_)))
      exact jx_sub [1, 0] rfl (b237 a0 k0 a0 ((s.1 a0 5) + 1) s h)
  have b166 : ∀ (a0 : Nat) (a4 : Int32) (k0 : Nat) (k1 : Int32) (s : jx_St), wX4_ends_b166 post a0 a4 k0 k1 s → jx_J D jx_LM X 166 [(0, .ref (D.2.1 a0)), (4, .int a4)] [.int k1, .ref (D.2.1 k0)] s := by
    intro a0 a4 k0 k1 s h
    unfold wX4_ends_b166 at h
    obtain ⟨hc38, h⟩ := h
    refine jx_putI 169 hX jp_X4_62 rfl hc38 dX4_ends_166 rfl ?_
    refine jx_namu (fun s39 hs39 => ?_)
    have h := h s39 hs39
    refine jx_iload 171 hX 1 rfl dX4_ends_169 rfl ?_
    refine jx_if_ne 174 176 hX dX4_ends_171 rfl (by decide) (fun hb40 => ?_) (fun hb40 => ?_)
    · have h := h.1 hb40
      refine jx_aload_n 177 hX 0 rfl rfl dX4_ends_176 rfl (jx_aload_n 178 hX 0 rfl rfl dX4_ends_177 rfl (jx_iconst 179 hX 1 (by decide) dX4_ends_178 rfl (jx_iconst 180 hX 4 (by decide) dX4_ends_179 rfl ?_)))
      obtain ⟨hc41, h⟩ := h
      refine jx_callVi 183 hX (mX4_number _ D _ a0 1 4 s39 h) jv_X4_76 jn_4 hc41 ⟨rfl, rfl, by decide, by decide⟩ rfl rfl (Nat.le_of_ble_eq_true rfl) dX4_ends_180 rfl (fun r42 s43 h => ?_)
      refine jx_putI 186 hX jp_X4_100 rfl hc41 dX4_ends_183 rfl ?_
      refine jx_namu (fun s44 hs44 => ?_)
      have h := h s44 hs44
      refine jx_aload_n 187 hX 0 rfl rfl dX4_ends_186 rfl (jx_iconst 188 hX 0 (by decide) dX4_ends_187 rfl ?_)
      refine jx_callVi 191 hX (mX4_sign _ D _ a0 0 s44 h) jv_X4_69 jn_4 hc41 ⟨rfl, rfl, by decide, by decide⟩ rfl rfl (Nat.le_of_ble_eq_true rfl) dX4_ends_188 rfl (fun r45 s46 h => ?_)
      refine jx_bipush 193 hX 81 (by decide) dX4_ends_191 rfl ?_
      refine jx_icmp_ne 196 215 hX dX4_ends_193 rfl (by decide) (fun hb47 => ?_) (fun hb47 => ?_)
      · have h := h.1 hb47
        refine jx_iconst 216 hX 0 (by decide) dX4_ends_215 rfl ?_
        exact jx_sub [0] rfl (b216 a0 0 s46 h)
      · have h := h.2 hb47
        refine jx_aload_n 197 hX 0 rfl rfl dX4_ends_196 rfl ?_
        refine jx_callVi 200 hX (mX4_size _ D _ a0 s46 h) jv_X4_65 jn_4 hc41 ⟨rfl, rfl, by decide, by decide⟩ rfl rfl (Nat.le_of_ble_eq_true rfl) dX4_ends_197 rfl (fun r48 s49 h => ?_)
        refine jx_iconst 201 hX 5 (by decide) dX4_ends_200 rfl ?_
        refine jx_icmp_ne 204 215 hX dX4_ends_201 rfl (by decide) (fun hb50 => ?_) (fun hb50 => ?_)
        · have h := h.1 hb50
          refine jx_iconst 216 hX 0 (by decide) dX4_ends_215 rfl ?_
          exact jx_sub [0] rfl (b216 a0 0 s49 h)
        · have h := h.2 hb50
          refine jx_aload_n 205 hX 0 rfl rfl dX4_ends_204 rfl (jx_getI 208 hX jf_X4_100 rfl hc41 dX4_ends_205 rfl ?_)
          refine jx_if_lt 211 215 hX dX4_ends_208 rfl (by decide) (fun hb51 => ?_) (fun hb51 => ?_)
          · have h := h.1 hb51
            refine jx_iconst 216 hX 0 (by decide) dX4_ends_215 rfl ?_
            exact jx_sub [0] rfl (b216 a0 0 s49 h)
          · have h := h.2 hb51
            refine jx_iconst 212 hX 1 (by decide) dX4_ends_211 rfl (jx_goto 216 hX dX4_ends_212 (by decide) ?_)
            exact jx_sub [0] rfl (b216 a0 1 s49 h)
    · have h := h.2 hb40
      refine jx_iconst 175 hX 0 (by decide) dX4_ends_174 rfl ?_
      exact jx_zret hX dX4_ends_175 (by decide) h
  have b144 : ∀ (a0 : Nat) (a4 : Int32) (k0 : Nat) (k1 : Int32) (s : jx_St), wX4_ends_b144 post a0 a4 k0 k1 s → jx_J D jx_LM X 144 [(0, .ref (D.2.1 a0)), (4, .int a4)] [.int k1, .ref (D.2.1 k0)] s := by
    intro a0 a4 k0 k1 s h
    unfold wX4_ends_b144 at h
    obtain ⟨hc33, h⟩ := h
    refine jx_putI 147 hX jp_X4_97 rfl hc33 dX4_ends_144 rfl ?_
    refine jx_namu (fun s34 hs34 => ?_)
    have h := h s34 hs34
    refine jx_aload_n 148 hX 0 rfl rfl dX4_ends_147 rfl (jx_iload 150 hX 1 rfl dX4_ends_148 rfl ?_)
    refine jx_if_eq 153 162 hX dX4_ends_150 rfl (by decide) (fun hb35 => ?_) (fun hb35 => ?_)
    · have h := h.1 hb35
      refine jx_aload_n 163 hX 0 rfl rfl dX4_ends_162 rfl ?_
      obtain ⟨hc36, h⟩ := h
      refine jx_getI 166 hX jf_X4_62 rfl hc36 dX4_ends_163 rfl ?_
      exact jx_sub [0, 1] rfl (b166 a0 a4 a0 (s34.1 a0 5) s34 h)
    · have h := h.2 hb35
      refine jx_aload_n 154 hX 0 rfl rfl dX4_ends_153 rfl ?_
      obtain ⟨hc37, h⟩ := h
      refine jx_getI 157 hX jf_X4_62 rfl hc37 dX4_ends_154 rfl (jx_iconst 158 hX 1 (by decide) dX4_ends_157 rfl (jx_iadd 159 hX dX4_ends_158 rfl (jx_goto 166 hX dX4_ends_159 (by decide) ?_)))
      exact jx_sub [0, 1] rfl (b166 a0 a4 a0 ((s34.1 a0 5) + 1) s34 h)
  have b123 : ∀ (a0 : Nat) (a3 : Int32) (a4 : Int32) (k0 : Nat) (k1 : Int32) (s : jx_St), wX4_ends_b123 post a0 a3 a4 k0 k1 s → jx_J D jx_LM X 123 [(0, .ref (D.2.1 a0)), (3, .int a3), (4, .int a4)] [.int k1, .ref (D.2.1 k0)] s := by
    intro a0 a3 a4 k0 k1 s h
    unfold wX4_ends_b123 at h
    obtain ⟨hc28, h⟩ := h
    refine jx_putI 126 hX jp_X4_94 rfl hc28 dX4_ends_123 rfl ?_
    refine jx_namu (fun s29 hs29 => ?_)
    have h := h s29 hs29
    refine jx_aload_n 127 hX 0 rfl rfl dX4_ends_126 rfl (jx_iload_n 128 hX 1 rfl rfl dX4_ends_127 rfl (jx_iconst 129 hX 1 (by decide) dX4_ends_128 rfl ?_))
    refine jx_icmp_ne 132 140 hX dX4_ends_129 rfl (by decide) (fun hb30 => ?_) (fun hb30 => ?_)
    · have h := h.1 hb30
      refine jx_aload_n 141 hX 0 rfl rfl dX4_ends_140 rfl ?_
      obtain ⟨hc31, h⟩ := h
      refine jx_getI 144 hX jf_X4_97 rfl hc31 dX4_ends_141 rfl ?_
      exact jx_sub [0, 2] rfl (b144 a0 a4 a0 (s29.1 a0 12) s29 h)
    · have h := h.2 hb30
      refine jx_aload_n 133 hX 0 rfl rfl dX4_ends_132 rfl ?_
      obtain ⟨hc32, h⟩ := h
      refine jx_getI 136 hX jf_X4_97 rfl hc32 dX4_ends_133 rfl (jx_ineg 137 hX dX4_ends_136 rfl (jx_goto 144 hX dX4_ends_137 (by decide) ?_))
      exact jx_sub [0, 2] rfl (b144 a0 a4 a0 (-(s29.1 a0 12)) s29 h)
  have b103 : ∀ (a0 : Nat) (a1 : Int32) (a3 : Int32) (k0 : Int32) (s : jx_St), wX4_ends_b103 post a0 a1 a3 k0 s → jx_J D jx_LM X 103 [(0, .ref (D.2.1 a0)), (1, .int a1), (3, .int a3)] [.int k0] s := by
    intro a0 a1 a3 k0 s h
    unfold wX4_ends_b103 at h
    refine jx_istore 105 hX [(4, .int k0), (0, .ref (D.2.1 a0)), (1, .int a1), (3, .int a3)] (by decide) rfl dX4_ends_103 rfl (jx_aload_n 106 hX 1 rfl rfl dX4_ends_105 rfl (jx_iload_n 107 hX 2 rfl rfl dX4_ends_106 rfl (jx_iconst 108 hX 1 (by decide) dX4_ends_107 rfl ?_)))
    refine jx_icmp_ne 111 119 hX dX4_ends_108 rfl (by decide) (fun hb25 => ?_) (fun hb25 => ?_)
    · have h := h.1 hb25
      refine jx_aload_n 120 hX 1 rfl rfl dX4_ends_119 rfl ?_
      obtain ⟨hc26, h⟩ := h
      refine jx_getI 123 hX jf_X4_94 rfl hc26 dX4_ends_120 rfl ?_
      exact jx_sub [1, 3, 0] rfl (b123 a0 a3 k0 a0 (s.1 a0 11) s h)
    · have h := h.2 hb25
      refine jx_aload_n 112 hX 1 rfl rfl dX4_ends_111 rfl ?_
      obtain ⟨hc27, h⟩ := h
      refine jx_getI 115 hX jf_X4_94 rfl hc27 dX4_ends_112 rfl (jx_ineg 116 hX dX4_ends_115 rfl (jx_goto 123 hX dX4_ends_116 (by decide) ?_))
      exact jx_sub [1, 3, 0] rfl (b123 a0 a3 k0 a0 (-(s.1 a0 11)) s h)
  have b37 : ∀ (a0 : Nat) (a1 : Int32) (a2 : Int32) (k0 : Int32) (s : jx_St), wX4_ends_b37 post a0 a1 a2 k0 s → jx_J D jx_LM X 37 [(0, .ref (D.2.1 a0)), (1, .int a1), (2, .int a2)] [.int k0] s := by
    intro a0 a1 a2 k0 s h
    unfold wX4_ends_b37 at h
    refine jx_istore_n 38 hX [(3, .int k0), (0, .ref (D.2.1 a0)), (1, .int a1), (2, .int a2)] rfl (by decide) rfl dX4_ends_37 rfl (jx_aload_n 39 hX 1 rfl rfl dX4_ends_38 rfl (jx_aload_n 40 hX 1 rfl rfl dX4_ends_39 rfl (jx_iload_n 41 hX 2 rfl rfl dX4_ends_40 rfl (jx_iconst 42 hX 2 (by decide) dX4_ends_41 rfl ?_))))
    obtain ⟨hc10, h⟩ := h
    refine jx_callVi 45 hX (mX4_number _ D _ a0 a1 2 s h) jv_X4_76 jn_4 hc10 ⟨rfl, rfl, by decide, by decide⟩ rfl rfl (Nat.le_of_ble_eq_true rfl) dX4_ends_42 rfl (fun r11 s12 h => ?_)
    refine jx_putI 48 hX jp_X4_94 rfl hc10 dX4_ends_45 rfl ?_
    refine jx_namu (fun s13 hs13 => ?_)
    have h := h s13 hs13
    refine jx_aload_n 49 hX 1 rfl rfl dX4_ends_48 rfl (jx_aload_n 50 hX 1 rfl rfl dX4_ends_49 rfl (jx_iload_n 51 hX 3 rfl rfl dX4_ends_50 rfl (jx_iconst 52 hX 1 (by decide) dX4_ends_51 rfl (jx_iadd 53 hX dX4_ends_52 rfl (jx_iload_n 54 hX 0 rfl rfl dX4_ends_53 rfl ?_)))))
    refine jx_iadd 55 hX dX4_ends_54 rfl (jx_iconst 56 hX 2 (by decide) dX4_ends_55 rfl ?_)
    refine jx_callVi 59 hX (mX4_number _ D _ a0 ((a2 + 1) + k0) 2 s13 h) jv_X4_76 jn_4 hc10 ⟨rfl, rfl, by decide, by decide⟩ rfl rfl (Nat.le_of_ble_eq_true rfl) dX4_ends_56 rfl (fun r14 s15 h => ?_)
    refine jx_putI 62 hX jp_X4_97 rfl hc10 dX4_ends_59 rfl ?_
    refine jx_namu (fun s16 hs16 => ?_)
    have h := h s16 hs16
    refine jx_aload_n 63 hX 1 rfl rfl dX4_ends_62 rfl (jx_getI 66 hX jf_X4_94 rfl hc10 dX4_ends_63 rfl ?_)
    refine jx_if_lt 69 102 hX dX4_ends_66 rfl (by decide) (fun hb17 => ?_) (fun hb17 => ?_)
    · have h := h.1 hb17
      refine jx_iconst 103 hX 0 (by decide) dX4_ends_102 rfl ?_
      exact jx_sub [1, 2, 0] rfl (b103 a0 a1 k0 0 s16 h)
    · have h := h.2 hb17
      refine jx_aload_n 70 hX 1 rfl rfl dX4_ends_69 rfl (jx_getI 73 hX jf_X4_97 rfl hc10 dX4_ends_70 rfl ?_)
      refine jx_if_lt 76 102 hX dX4_ends_73 rfl (by decide) (fun hb18 => ?_) (fun hb18 => ?_)
      · have h := h.1 hb18
        refine jx_iconst 103 hX 0 (by decide) dX4_ends_102 rfl ?_
        exact jx_sub [1, 2, 0] rfl (b103 a0 a1 k0 0 s16 h)
      · have h := h.2 hb18
        refine jx_aload_n 77 hX 1 rfl rfl dX4_ends_76 rfl (jx_iload_n 78 hX 3 rfl rfl dX4_ends_77 rfl ?_)
        refine jx_callVi 81 hX (mX4_sign _ D _ a0 a2 s16 h) jv_X4_69 jn_4 hc10 ⟨rfl, rfl, by decide, by decide⟩ rfl rfl (Nat.le_of_ble_eq_true rfl) dX4_ends_78 rfl (fun r19 s20 h => ?_)
        refine jx_bipush 83 hX 47 (by decide) dX4_ends_81 rfl ?_
        refine jx_icmp_ne 86 102 hX dX4_ends_83 rfl (by decide) (fun hb21 => ?_) (fun hb21 => ?_)
        · have h := h.1 hb21
          refine jx_iconst 103 hX 0 (by decide) dX4_ends_102 rfl ?_
          exact jx_sub [1, 2, 0] rfl (b103 a0 a1 k0 0 s20 h)
        · have h := h.2 hb21
          refine jx_aload_n 87 hX 1 rfl rfl dX4_ends_86 rfl ?_
          refine jx_callVi 90 hX (mX4_size _ D _ a0 s20 h) jv_X4_65 jn_4 hc10 ⟨rfl, rfl, by decide, by decide⟩ rfl rfl (Nat.le_of_ble_eq_true rfl) dX4_ends_87 rfl (fun r22 s23 h => ?_)
          refine jx_iload_n 91 hX 3 rfl rfl dX4_ends_90 rfl (jx_iconst 92 hX 3 (by decide) dX4_ends_91 rfl (jx_iadd 93 hX dX4_ends_92 rfl (jx_iload_n 94 hX 0 rfl rfl dX4_ends_93 rfl (jx_iadd 95 hX dX4_ends_94 rfl ?_))))
          refine jx_icmp_ne 98 102 hX dX4_ends_95 rfl (by decide) (fun hb24 => ?_) (fun hb24 => ?_)
          · have h := h.1 hb24
            refine jx_iconst 103 hX 0 (by decide) dX4_ends_102 rfl ?_
            exact jx_sub [1, 2, 0] rfl (b103 a0 a1 k0 0 s23 h)
          · have h := h.2 hb24
            refine jx_iconst 99 hX 1 (by decide) dX4_ends_98 rfl (jx_goto 103 hX dX4_ends_99 (by decide) ?_)
            exact jx_sub [1, 2, 0] rfl (b103 a0 a1 k0 1 s23 h)
  have b15 : ∀ (a0 : Nat) (k0 : Int32) (s : jx_St), wX4_ends_b15 post a0 k0 s → jx_J D jx_LM X 15 [(0, .ref (D.2.1 a0))] [.int k0] s := by
    intro a0 k0 s h
    unfold wX4_ends_b15 at h
    refine jx_istore_n 16 hX [(1, .int k0), (0, .ref (D.2.1 a0))] rfl (by decide) rfl dX4_ends_15 rfl (jx_iload_n 17 hX 0 rfl rfl dX4_ends_16 rfl (jx_iconst 18 hX 2 (by decide) dX4_ends_17 rfl (jx_iadd 19 hX dX4_ends_18 rfl ?_)))
    refine jx_topi (fun x5 hx5 => ?_)
    have h := h x5 hx5
    refine jx_istore_n 20 hX [(2, .int x5), (1, .int k0), (0, .ref (D.2.1 a0))] rfl (by decide) rfl dX4_ends_19 rfl (jx_aload_n 21 hX 2 rfl rfl dX4_ends_20 rfl (jx_iload_n 22 hX 0 rfl rfl dX4_ends_21 rfl (jx_iconst 23 hX 1 (by decide) dX4_ends_22 rfl (jx_iadd 24 hX dX4_ends_23 rfl ?_))))
    obtain ⟨hc6, h⟩ := h
    refine jx_callVi 27 hX (mX4_sign _ D _ a0 (x5 + 1) s h) jv_X4_69 jn_4 hc6 ⟨rfl, rfl, by decide, by decide⟩ rfl rfl (Nat.le_of_ble_eq_true rfl) dX4_ends_24 rfl (fun r7 s8 h => ?_)
    refine jx_bipush 29 hX 77 (by decide) dX4_ends_27 rfl ?_
    refine jx_icmp_ne 32 36 hX dX4_ends_29 rfl (by decide) (fun hb9 => ?_) (fun hb9 => ?_)
    · have h := h.1 hb9
      refine jx_iconst 37 hX 0 (by decide) dX4_ends_36 rfl ?_
      exact jx_sub [2, 1, 0] rfl (b37 a0 k0 x5 0 s8 h)
    · have h := h.2 hb9
      refine jx_iconst 33 hX 1 (by decide) dX4_ends_32 rfl (jx_goto 37 hX dX4_ends_33 (by decide) ?_)
      exact jx_sub [2, 1, 0] rfl (b37 a0 k0 x5 1 s8 h)
  unfold wX4_ends at h
  refine jx_aload_n 1 hX 0 rfl rfl dX4_ends_0 rfl (jx_iconst 2 hX 0 (by decide) dX4_ends_1 rfl ?_)
  obtain ⟨hc1, h⟩ := h
  refine jx_callVi 5 hX (mX4_sign _ D _ a0 0 s h) jv_X4_69 jn_4 hc1 ⟨rfl, rfl, by decide, by decide⟩ rfl rfl (Nat.le_of_ble_eq_true rfl) dX4_ends_2 rfl (fun r2 s3 h => ?_)
  refine jx_bipush 7 hX 77 (by decide) dX4_ends_5 rfl ?_
  refine jx_icmp_ne 10 14 hX dX4_ends_7 rfl (by decide) (fun hb4 => ?_) (fun hb4 => ?_)
  · have h := h.1 hb4
    refine jx_iconst 15 hX 0 (by decide) dX4_ends_14 rfl ?_
    exact jx_sub [0] rfl (b15 a0 0 s3 h)
  · have h := h.2 hb4
    refine jx_iconst 11 hX 1 (by decide) dX4_ends_10 rfl (jx_goto 15 hX dX4_ends_11 (by decide) ?_)
    exact jx_sub [0] rfl (b15 a0 1 s3 h)
set_option maxHeartbeats 4000000 in
set_option maxRecDepth 100000 in
theorem mX4_station (l : Launch) (D : jx_Dt) (post : Int32 → jx_St → Prop) (a0 : Nat) (s : jx_St) (h : wX4_station post a0 s) : jx_Met l yX4_station cX4_station 3 (some .boolean) (jx_r 2 41) D jx_LM [.ref (D.2.1 a0)] s (jx_Qi D jx_LM (fun r u => (r = 0 ∨ r = 1) ∧ post r u)) := by
  refine jx_ofJ (by decide) (Nat.le_of_ble_eq_true rfl) (fun X hl hX => ?_)
  subst hl
  replace hX : jx_K D jx_LM X cX4_station RX4 3 (some .boolean) (jx_r 2 41) (jx_Qi D jx_LM (fun r u => (r = 0 ∨ r = 1) ∧ post r u)) := hX
  show jx_J D jx_LM X 0 [(0, .ref (D.2.1 a0))] [] s
  have b68 : ∀ (a0 : Nat) (a1 : Int32) (s : jx_St), wX4_station_b68 post a0 a1 s → jx_J D jx_LM X 68 [(0, .ref (D.2.1 a0)), (1, .int a1)] [] s := by
    intro a0 a1 s h
    unfold wX4_station_b68 at h
    refine jx_aload_n 69 hX 0 rfl rfl dX4_station_68 rfl (jx_iload_n 70 hX 1 rfl rfl dX4_station_69 rfl ?_)
    refine jx_if_eq 73 82 hX dX4_station_70 rfl (by decide) (fun hb14 => ?_) (fun hb14 => ?_)
    · have h := h.1 hb14
      refine jx_aload_n 83 hX 0 rfl rfl dX4_station_82 rfl ?_
      obtain ⟨hc15, h⟩ := h
      refine jx_getI 86 hX jf_X4_62 rfl hc15 dX4_station_83 rfl (jx_putI 89 hX jp_X4_62 rfl hc15 dX4_station_86 rfl ?_)
      refine jx_namu (fun s16 hs16 => ?_)
      have h := h s16 hs16
      refine jx_iload_n 90 hX 1 rfl rfl dX4_station_89 rfl ?_
      obtain ⟨hc17, h⟩ := h
      exact jx_zret hX dX4_station_90 hc17 h
    · have h := h.2 hb14
      refine jx_aload_n 74 hX 0 rfl rfl dX4_station_73 rfl ?_
      obtain ⟨hc18, h⟩ := h
      refine jx_getI 77 hX jf_X4_62 rfl hc18 dX4_station_74 rfl (jx_iconst 78 hX 1 (by decide) dX4_station_77 rfl (jx_iadd 79 hX dX4_station_78 rfl (jx_goto 86 hX dX4_station_79 (by decide) (jx_putI 89 hX jp_X4_62 rfl hc18 dX4_station_86 rfl ?_))))
      refine jx_namu (fun s19 hs19 => ?_)
      have h := h s19 hs19
      refine jx_iload_n 90 hX 1 rfl rfl dX4_station_89 rfl ?_
      obtain ⟨hc20, h⟩ := h
      exact jx_zret hX dX4_station_90 hc20 h
  have b50 : ∀ (k16_ : Nat → Int32 → Int32 → jx_St → Prop) (hk16_ : ∀ (a0 : Nat) (a1 : Int32) (a2 : Int32) (s : jx_St), k16_ a0 a1 a2 s → jx_J D jx_LM X 16 [(0, .ref (D.2.1 a0)), (1, .int a1), (2, .int a2)] [] s) (a0 : Nat) (a2 : Int32) (k0 : Int32) (s : jx_St), wX4_station_b50 post k16_ a0 a2 k0 s → jx_J D jx_LM X 50 [(0, .ref (D.2.1 a0)), (2, .int a2)] [.int k0] s := by
    intro k16_ hk16_ a0 a2 k0 s h
    unfold wX4_station_b50 at h
    refine jx_istore_n 51 hX [(1, .int k0), (0, .ref (D.2.1 a0)), (2, .int a2)] rfl (by decide) rfl dX4_station_50 rfl (jx_aload_n 52 hX 1 rfl rfl dX4_station_51 rfl ?_)
    obtain ⟨hc21, h⟩ := h
    refine jx_getR 55 hX jf_X4_19 rfl hc21 dX4_station_52 rfl (jx_iload_n 56 hX 2 rfl rfl dX4_station_55 rfl (jx_aload_n 57 hX 1 rfl rfl dX4_station_56 rfl (jx_iload_n 58 hX 2 rfl rfl dX4_station_57 rfl ?_)))
    refine jx_callVi 61 hX (mX4_sign _ D _ a0 a2 s h) jv_X4_69 jn_4 hc21 ⟨rfl, rfl, by decide, by decide⟩ rfl rfl (Nat.le_of_ble_eq_true rfl) dX4_station_58 rfl (fun r22 s23 h => ?_)
    obtain ⟨hc24, h⟩ := h
    refine jx_iastore 62 hX hc24 dX4_station_61 rfl ?_
    refine jx_namu (fun s25 hs25 => ?_)
    have h := h s25 hs25
    obtain ⟨x26, hx26⟩ : ∃ y : Int32, y = a2 + 1 := ⟨_, rfl⟩
    have h := h x26 hx26
    refine jx_iinc 65 hX 2 x26 [(2, .int x26), (1, .int k0), (0, .ref (D.2.1 a0))] rfl (by rw [hx26]; exact congrArg (fun z => a2 + z) (by decide)) (by decide) rfl dX4_station_62 rfl (jx_goto 16 hX dX4_station_65 (by decide) ?_)
    exact jx_sub [2, 1, 0] rfl (hk16_ a0 k0 x26 s25 h)
  have l16 : ∀ (n : Nat) (a0 : Nat) (a1 : Int32) (a2 : Int32) (s : jx_St), wX4_station_l16 post n a0 a1 a2 s → jx_J D jx_LM X 16 [(0, .ref (D.2.1 a0)), (1, .int a1), (2, .int a2)] [] s := by
    intro n
    induction n with
    | zero => intro a0 a1 a2 s h; exact h.elim
    | succ n ih =>
      intro a0 a1 a2 s h
      rw [wX4_station_l16] at h
      refine jx_iload_n 17 hX 2 rfl rfl dX4_station_16 rfl (jx_iconst 18 hX 4 (by decide) dX4_station_17 rfl ?_)
      refine jx_icmp_ge 21 68 hX dX4_station_18 rfl (by decide) (fun hb5 => ?_) (fun hb5 => ?_)
      · have h := h.1 hb5
        exact jx_sub [0, 1] rfl (b68 a0 a1 s h)
      · have h := h.2 hb5
        refine jx_iload_n 22 hX 1 rfl rfl dX4_station_21 rfl ?_
        refine jx_if_eq 25 68 hX dX4_station_22 rfl (by decide) (fun hb6 => ?_) (fun hb6 => ?_)
        · have h := h.1 hb6
          exact jx_sub [0, 1] rfl (b68 a0 a1 s h)
        · have h := h.2 hb6
          refine jx_aload_n 26 hX 0 rfl rfl dX4_station_25 rfl (jx_iload_n 27 hX 2 rfl rfl dX4_station_26 rfl ?_)
          obtain ⟨hc7, h⟩ := h
          refine jx_callVi 30 hX (mX4_sign _ D _ a0 a2 s h) jv_X4_69 jn_4 hc7 ⟨rfl, rfl, by decide, by decide⟩ rfl rfl (Nat.le_of_ble_eq_true rfl) dX4_station_27 rfl (fun r8 s9 h => ?_)
          refine jx_bipush 32 hX 65 (by decide) dX4_station_30 rfl ?_
          refine jx_icmp_lt 35 49 hX dX4_station_32 rfl (by decide) (fun hb10 => ?_) (fun hb10 => ?_)
          · have h := h.1 hb10
            refine jx_iconst 50 hX 0 (by decide) dX4_station_49 rfl ?_
            exact jx_sub [0, 2] rfl (b50 _ (fun z0 z1 z2 zs hz => ih z0 z1 z2 zs hz) a0 a2 0 s9 h)
          · have h := h.2 hb10
            refine jx_aload_n 36 hX 0 rfl rfl dX4_station_35 rfl (jx_iload_n 37 hX 2 rfl rfl dX4_station_36 rfl ?_)
            refine jx_callVi 40 hX (mX4_sign _ D _ a0 a2 s9 h) jv_X4_69 jn_4 hc7 ⟨rfl, rfl, by decide, by decide⟩ rfl rfl (Nat.le_of_ble_eq_true rfl) dX4_station_37 rfl (fun r11 s12 h => ?_)
            refine jx_bipush 42 hX 90 (by decide) dX4_station_40 rfl ?_
            refine jx_icmp_gt 45 49 hX dX4_station_42 rfl (by decide) (fun hb13 => ?_) (fun hb13 => ?_)
            · have h := h.1 hb13
              refine jx_iconst 50 hX 0 (by decide) dX4_station_49 rfl ?_
              exact jx_sub [0, 2] rfl (b50 _ (fun z0 z1 z2 zs hz => ih z0 z1 z2 zs hz) a0 a2 0 s12 h)
            · have h := h.2 hb13
              refine jx_iconst 46 hX 1 (by decide) dX4_station_45 rfl (jx_goto 50 hX dX4_station_46 (by decide) ?_)
              exact jx_sub [0, 2] rfl (b50 _ (fun z0 z1 z2 zs hz => ih z0 z1 z2 zs hz) a0 a2 1 s12 h)
  unfold wX4_station at h
  refine jx_aload_n 1 hX 0 rfl rfl dX4_station_0 rfl ?_
  obtain ⟨hc1, h⟩ := h
  refine jx_callVi 4 hX (mX4_size _ D _ a0 s h) jv_X4_65 jn_4 hc1 ⟨rfl, rfl, by decide, by decide⟩ rfl rfl (Nat.le_of_ble_eq_true rfl) dX4_station_1 rfl (fun r2 s3 h => ?_)
  refine jx_iconst 5 hX 4 (by decide) dX4_station_4 rfl ?_
  refine jx_icmp_ne 8 12 hX dX4_station_5 rfl (by decide) (fun hb4 => ?_) (fun hb4 => ?_)
  · have h := h.1 hb4
    refine jx_iconst 13 hX 0 (by decide) dX4_station_12 rfl (jx_istore_n 14 hX [(1, .int 0), (0, .ref (D.2.1 a0))] rfl (by decide) rfl dX4_station_13 rfl (jx_iconst 15 hX 0 (by decide) dX4_station_14 rfl (jx_istore_n 16 hX [(2, .int 0), (1, .int 0), (0, .ref (D.2.1 a0))] rfl (by decide) rfl dX4_station_15 rfl ?_)))
    obtain ⟨n_, h⟩ := h
    exact jx_sub [2, 1, 0] rfl (l16 n_ a0 0 0 s3 h)
  · have h := h.2 hb4
    refine jx_iconst 9 hX 1 (by decide) dX4_station_8 rfl (jx_goto 13 hX dX4_station_9 (by decide) (jx_istore_n 14 hX [(1, .int 1), (0, .ref (D.2.1 a0))] rfl (by decide) rfl dX4_station_13 rfl (jx_iconst 15 hX 0 (by decide) dX4_station_14 rfl (jx_istore_n 16 hX [(2, .int 0), (1, .int 1), (0, .ref (D.2.1 a0))] rfl (by decide) rfl dX4_station_15 rfl ?_))))
    obtain ⟨n_, h⟩ := h
    exact jx_sub [2, 1, 0] rfl (l16 n_ a0 1 0 s3 h)
set_option maxHeartbeats 4000000 in
set_option maxRecDepth 100000 in
theorem mX4_issued (l : Launch) (D : jx_Dt) (post : Int32 → jx_St → Prop) (a0 : Nat) (s : jx_St) (h : wX4_issued post a0 s) : jx_Met l yX4_issued cX4_issued 2 (some .boolean) (jx_r 3 65) D jx_LM [.ref (D.2.1 a0)] s (jx_Qi D jx_LM (fun r u => (r = 0 ∨ r = 1) ∧ post r u)) := by
  refine jx_ofJ (by decide) (Nat.le_of_ble_eq_true rfl) (fun X hl hX => ?_)
  subst hl
  replace hX : jx_K D jx_LM X cX4_issued RX4 2 (some .boolean) (jx_r 3 65) (jx_Qi D jx_LM (fun r u => (r = 0 ∨ r = 1) ∧ post r u)) := hX
  show jx_J D jx_LM X 0 [(0, .ref (D.2.1 a0))] [] s
  have b76 : ∀ (a0 : Nat) (k0 : Int32) (s : jx_St), wX4_issued_b76 post a0 k0 s → jx_J D jx_LM X 76 [(0, .ref (D.2.1 a0))] [.int k0] s := by
    intro a0 k0 s h
    unfold wX4_issued_b76 at h
    refine jx_istore_n 77 hX [(1, .int k0), (0, .ref (D.2.1 a0))] rfl (by decide) rfl dX4_issued_76 rfl (jx_aload_n 78 hX 1 rfl rfl dX4_issued_77 rfl (jx_sipush 81 hX 1440 (by decide) dX4_issued_78 rfl (jx_aload_n 82 hX 1 rfl rfl dX4_issued_81 rfl ?_)))
    obtain ⟨hc27, h⟩ := h
    refine jx_getI 85 hX jf_X4_80 rfl hc27 dX4_issued_82 rfl (jx_iconst 86 hX 1 (by decide) dX4_issued_85 rfl (jx_isub 87 hX dX4_issued_86 rfl (jx_imul 88 hX dX4_issued_87 rfl (jx_bipush 90 hX 60 (by decide) dX4_issued_88 rfl (jx_aload_n 91 hX 1 rfl rfl dX4_issued_90 rfl ?_)))))
    refine jx_iconst 92 hX 2 (by decide) dX4_issued_91 rfl (jx_iconst 93 hX 2 (by decide) dX4_issued_92 rfl ?_)
    refine jx_callVi 96 hX (mX4_number _ D _ a0 2 2 s h) jv_X4_76 jn_4 hc27 ⟨rfl, rfl, by decide, by decide⟩ rfl rfl (Nat.le_of_ble_eq_true rfl) dX4_issued_93 rfl (fun r28 s29 h => ?_)
    refine jx_imul 97 hX dX4_issued_96 rfl (jx_iadd 98 hX dX4_issued_97 rfl (jx_aload_n 99 hX 1 rfl rfl dX4_issued_98 rfl (jx_iconst 100 hX 4 (by decide) dX4_issued_99 rfl (jx_iconst 101 hX 2 (by decide) dX4_issued_100 rfl ?_))))
    refine jx_callVi 104 hX (mX4_number _ D _ a0 4 2 s29 h) jv_X4_76 jn_4 hc27 ⟨rfl, rfl, by decide, by decide⟩ rfl rfl (Nat.le_of_ble_eq_true rfl) dX4_issued_101 rfl (fun r30 s31 h => ?_)
    refine jx_iadd 105 hX dX4_issued_104 rfl (jx_putI 108 hX jp_X4_91 rfl hc27 dX4_issued_105 rfl ?_)
    refine jx_namu (fun s32 hs32 => ?_)
    have h := h s32 hs32
    refine jx_aload_n 109 hX 1 rfl rfl dX4_issued_108 rfl (jx_iload_n 110 hX 0 rfl rfl dX4_issued_109 rfl ?_)
    refine jx_if_eq 113 122 hX dX4_issued_110 rfl (by decide) (fun hb33 => ?_) (fun hb33 => ?_)
    · have h := h.1 hb33
      refine jx_aload_n 123 hX 1 rfl rfl dX4_issued_122 rfl (jx_getI 126 hX jf_X4_62 rfl hc27 dX4_issued_123 rfl (jx_putI 129 hX jp_X4_62 rfl hc27 dX4_issued_126 rfl ?_))
      refine jx_namu (fun s34 hs34 => ?_)
      have h := h s34 hs34
      refine jx_iload_n 130 hX 0 rfl rfl dX4_issued_129 rfl ?_
      obtain ⟨hc35, h⟩ := h
      exact jx_zret hX dX4_issued_130 hc35 h
    · have h := h.2 hb33
      refine jx_aload_n 114 hX 1 rfl rfl dX4_issued_113 rfl (jx_getI 117 hX jf_X4_62 rfl hc27 dX4_issued_114 rfl (jx_iconst 118 hX 1 (by decide) dX4_issued_117 rfl (jx_iadd 119 hX dX4_issued_118 rfl (jx_goto 126 hX dX4_issued_119 (by decide) (jx_putI 129 hX jp_X4_62 rfl hc27 dX4_issued_126 rfl ?_)))))
      refine jx_namu (fun s36 hs36 => ?_)
      have h := h s36 hs36
      refine jx_iload_n 130 hX 0 rfl rfl dX4_issued_129 rfl ?_
      obtain ⟨hc37, h⟩ := h
      exact jx_zret hX dX4_issued_130 hc37 h
  unfold wX4_issued at h
  refine jx_aload_n 1 hX 0 rfl rfl dX4_issued_0 rfl (jx_aload_n 2 hX 0 rfl rfl dX4_issued_1 rfl (jx_iconst 3 hX 0 (by decide) dX4_issued_2 rfl (jx_iconst 4 hX 2 (by decide) dX4_issued_3 rfl ?_)))
  obtain ⟨hc1, h⟩ := h
  refine jx_callVi 7 hX (mX4_number _ D _ a0 0 2 s h) jv_X4_76 jn_4 hc1 ⟨rfl, rfl, by decide, by decide⟩ rfl rfl (Nat.le_of_ble_eq_true rfl) dX4_issued_4 rfl (fun r2 s3 h => ?_)
  refine jx_putI 10 hX jp_X4_80 rfl hc1 dX4_issued_7 rfl ?_
  refine jx_namu (fun s4 hs4 => ?_)
  have h := h s4 hs4
  refine jx_aload_n 11 hX 0 rfl rfl dX4_issued_10 rfl ?_
  refine jx_callVi 14 hX (mX4_size _ D _ a0 s4 h) jv_X4_65 jn_4 hc1 ⟨rfl, rfl, by decide, by decide⟩ rfl rfl (Nat.le_of_ble_eq_true rfl) dX4_issued_11 rfl (fun r5 s6 h => ?_)
  refine jx_bipush 16 hX 7 (by decide) dX4_issued_14 rfl ?_
  refine jx_icmp_ne 19 75 hX dX4_issued_16 rfl (by decide) (fun hb7 => ?_) (fun hb7 => ?_)
  · have h := h.1 hb7
    refine jx_iconst 76 hX 0 (by decide) dX4_issued_75 rfl ?_
    exact jx_sub [0] rfl (b76 a0 0 s6 h)
  · have h := h.2 hb7
    refine jx_aload_n 20 hX 0 rfl rfl dX4_issued_19 rfl (jx_bipush 22 hX 6 (by decide) dX4_issued_20 rfl ?_)
    refine jx_callVi 25 hX (mX4_sign _ D _ a0 6 s6 h) jv_X4_69 jn_4 hc1 ⟨rfl, rfl, by decide, by decide⟩ rfl rfl (Nat.le_of_ble_eq_true rfl) dX4_issued_22 rfl (fun r8 s9 h => ?_)
    refine jx_bipush 27 hX 90 (by decide) dX4_issued_25 rfl ?_
    refine jx_icmp_ne 30 75 hX dX4_issued_27 rfl (by decide) (fun hb10 => ?_) (fun hb10 => ?_)
    · have h := h.1 hb10
      refine jx_iconst 76 hX 0 (by decide) dX4_issued_75 rfl ?_
      exact jx_sub [0] rfl (b76 a0 0 s9 h)
    · have h := h.2 hb10
      refine jx_aload_n 31 hX 0 rfl rfl dX4_issued_30 rfl (jx_aload_n 32 hX 0 rfl rfl dX4_issued_31 rfl (jx_getI 35 hX jf_X4_80 rfl hc1 dX4_issued_32 rfl ?_))
      refine jx_callVi 38 hX (mX4_isDay _ D _ a0 (s9.1 a0 10) s9 h) jv_X4_83 jn_4 hc1 ⟨rfl, rfl, by decide, by decide⟩ rfl rfl (Nat.le_of_ble_eq_true rfl) dX4_issued_35 rfl (fun r11 s12 h => ?_)
      obtain ⟨hz13, h⟩ := h
      have h := h hz13
      refine jx_if_eq 41 75 hX dX4_issued_38 rfl (by decide) (fun hb14 => ?_) (fun hb14 => ?_)
      · have h := h.1 hb14
        refine jx_iconst 76 hX 0 (by decide) dX4_issued_75 rfl ?_
        exact jx_sub [0] rfl (b76 a0 0 s12 h)
      · have h := h.2 hb14
        refine jx_aload_n 42 hX 0 rfl rfl dX4_issued_41 rfl (jx_aload_n 43 hX 0 rfl rfl dX4_issued_42 rfl (jx_iconst 44 hX 2 (by decide) dX4_issued_43 rfl (jx_iconst 45 hX 2 (by decide) dX4_issued_44 rfl ?_)))
        refine jx_callVi 48 hX (mX4_number _ D _ a0 2 2 s12 h) jv_X4_76 jn_4 hc1 ⟨rfl, rfl, by decide, by decide⟩ rfl rfl (Nat.le_of_ble_eq_true rfl) dX4_issued_45 rfl (fun r15 s16 h => ?_)
        refine jx_bipush 50 hX 23 (by decide) dX4_issued_48 rfl ?_
        refine jx_callVi 53 hX (mX4_isIn _ D _ a0 r15 23 s16 h) jv_X4_87 jn_4 hc1 ⟨rfl, rfl, by decide, by decide⟩ rfl rfl (Nat.le_of_ble_eq_true rfl) dX4_issued_50 rfl (fun r17 s18 h => ?_)
        obtain ⟨hz19, h⟩ := h
        have h := h hz19
        refine jx_if_eq 56 75 hX dX4_issued_53 rfl (by decide) (fun hb20 => ?_) (fun hb20 => ?_)
        · have h := h.1 hb20
          refine jx_iconst 76 hX 0 (by decide) dX4_issued_75 rfl ?_
          exact jx_sub [0] rfl (b76 a0 0 s18 h)
        · have h := h.2 hb20
          refine jx_aload_n 57 hX 0 rfl rfl dX4_issued_56 rfl (jx_aload_n 58 hX 0 rfl rfl dX4_issued_57 rfl (jx_iconst 59 hX 4 (by decide) dX4_issued_58 rfl (jx_iconst 60 hX 2 (by decide) dX4_issued_59 rfl ?_)))
          refine jx_callVi 63 hX (mX4_number _ D _ a0 4 2 s18 h) jv_X4_76 jn_4 hc1 ⟨rfl, rfl, by decide, by decide⟩ rfl rfl (Nat.le_of_ble_eq_true rfl) dX4_issued_60 rfl (fun r21 s22 h => ?_)
          refine jx_bipush 65 hX 59 (by decide) dX4_issued_63 rfl ?_
          refine jx_callVi 68 hX (mX4_isIn _ D _ a0 r21 59 s22 h) jv_X4_87 jn_4 hc1 ⟨rfl, rfl, by decide, by decide⟩ rfl rfl (Nat.le_of_ble_eq_true rfl) dX4_issued_65 rfl (fun r23 s24 h => ?_)
          obtain ⟨hz25, h⟩ := h
          have h := h hz25
          refine jx_if_eq 71 75 hX dX4_issued_68 rfl (by decide) (fun hb26 => ?_) (fun hb26 => ?_)
          · have h := h.1 hb26
            refine jx_iconst 76 hX 0 (by decide) dX4_issued_75 rfl ?_
            exact jx_sub [0] rfl (b76 a0 0 s24 h)
          · have h := h.2 hb26
            refine jx_iconst 72 hX 1 (by decide) dX4_issued_71 rfl (jx_goto 76 hX dX4_issued_72 (by decide) ?_)
            exact jx_sub [0] rfl (b76 a0 1 s24 h)
set_option maxHeartbeats 4000000 in
set_option maxRecDepth 100000 in
theorem mX4_forecast (l : Launch) (D : jx_Dt) (post : Int32 → jx_St → Prop) (a0 : Nat) (s : jx_St) (h : wX4_forecast post a0 s) : jx_Met l yX4_forecast cX4_forecast 2 (some .boolean) (jx_r 7 161) D jx_LM [.ref (D.2.1 a0)] s (jx_Qi D jx_LM (fun r u => (r = 0 ∨ r = 1) ∧ post r u)) := by
  refine jx_ofJ (by decide) (Nat.le_of_ble_eq_true rfl) (fun X hl hX => ?_)
  subst hl
  replace hX : jx_K D jx_LM X cX4_forecast RX4 2 (some .boolean) (jx_r 7 161) (jx_Qi D jx_LM (fun r u => (r = 0 ∨ r = 1) ∧ post r u)) := hX
  show jx_J D jx_LM X 0 [(0, .ref (D.2.1 a0))] [] s
  have b115 : ∀ (k47_ : Nat → Int32 → jx_St → Prop) (hk47_ : ∀ (a0 : Nat) (a1 : Int32) (s : jx_St), k47_ a0 a1 s → jx_J D jx_LM X 47 [(0, .ref (D.2.1 a0)), (1, .int a1)] [] s) (a0 : Nat) (k0 : Int32) (s : jx_St), wX4_forecast_b115 post k47_ a0 k0 s → jx_J D jx_LM X 115 [(0, .ref (D.2.1 a0))] [.int k0] s := by
    intro k47_ hk47_ a0 k0 s h
    unfold wX4_forecast_b115 at h
    refine jx_istore_n 116 hX [(1, .int k0), (0, .ref (D.2.1 a0))] rfl (by decide) rfl dX4_forecast_115 rfl (jx_aload_n 117 hX 1 rfl rfl dX4_forecast_116 rfl (jx_dup 118 hX rfl dX4_forecast_117 rfl ?_))
    obtain ⟨hc33, h⟩ := h
    refine jx_getI 121 hX jf_X4_183 rfl hc33 dX4_forecast_118 rfl (jx_iconst 122 hX 1 (by decide) dX4_forecast_121 rfl (jx_iadd 123 hX dX4_forecast_122 rfl (jx_putI 126 hX jp_X4_183 rfl hc33 dX4_forecast_123 rfl ?_)))
    refine jx_namu (fun s34 hs34 => ?_)
    have h := h s34 hs34
    refine jx_goto 47 hX dX4_forecast_126 (by decide) ?_
    exact jx_sub [1, 0] rfl (hk47_ a0 k0 s34 h)
  have l47 : ∀ (n : Nat) (a0 : Nat) (a1 : Int32) (s : jx_St), wX4_forecast_l47 post n a0 a1 s → jx_J D jx_LM X 47 [(0, .ref (D.2.1 a0)), (1, .int a1)] [] s := by
    intro n
    induction n with
    | zero => intro a0 a1 s h; exact h.elim
    | succ n ih =>
      intro a0 a1 s h
      rw [wX4_forecast_l47] at h
      refine jx_aload_n 48 hX 0 rfl rfl dX4_forecast_47 rfl ?_
      obtain ⟨hc23, h⟩ := h
      refine jx_getI 51 hX jf_X4_62 rfl hc23 dX4_forecast_48 rfl (jx_aload_n 52 hX 0 rfl rfl dX4_forecast_51 rfl (jx_getI 55 hX jf_X4_59 rfl hc23 dX4_forecast_52 rfl ?_))
      refine jx_icmp_ge 58 129 hX dX4_forecast_55 rfl (by decide) (fun hb24 => ?_) (fun hb24 => ?_)
      · have h := h.1 hb24
        refine jx_iconst 130 hX 1 (by decide) dX4_forecast_129 rfl ?_
        exact jx_zret hX dX4_forecast_130 (by decide) h
      · have h := h.2 hb24
        refine jx_aload_n 59 hX 0 rfl rfl dX4_forecast_58 rfl (jx_getI 62 hX jf_X4_183 rfl hc23 dX4_forecast_59 rfl (jx_bipush 64 hX 9 (by decide) dX4_forecast_62 rfl ?_))
        refine jx_icmp_eq 67 79 hX dX4_forecast_64 rfl (by decide) (fun hb25 => ?_) (fun hb25 => ?_)
        · have h := h.1 hb25
          refine jx_iconst 80 hX 0 (by decide) dX4_forecast_79 rfl ?_
          exact jx_zret hX dX4_forecast_80 (by decide) h
        · have h := h.2 hb25
          refine jx_aload_n 68 hX 0 rfl rfl dX4_forecast_67 rfl (jx_aload_n 69 hX 0 rfl rfl dX4_forecast_68 rfl (jx_getI 72 hX jf_X4_183 rfl hc23 dX4_forecast_69 rfl (jx_iload_n 73 hX 1 rfl rfl dX4_forecast_72 rfl ?_)))
          refine jx_callVi 76 hX (mX4_change _ D _ a0 (s.1 a0 7) a1 s h) jv_X4_186 jn_4 hc23 ⟨rfl, rfl, by decide, by decide⟩ rfl rfl (Nat.le_of_ble_eq_true rfl) dX4_forecast_73 rfl (fun r26 s27 h => ?_)
          obtain ⟨hz28, h⟩ := h
          have h := h hz28
          refine jx_if_ne 79 81 hX dX4_forecast_76 rfl (by decide) (fun hb29 => ?_) (fun hb29 => ?_)
          · have h := h.1 hb29
            refine jx_aload_n 82 hX 0 rfl rfl dX4_forecast_81 rfl (jx_getR 85 hX jf_X4_22 rfl hc23 dX4_forecast_82 rfl (jx_bipush 87 hX 10 (by decide) dX4_forecast_85 rfl (jx_aload_n 88 hX 0 rfl rfl dX4_forecast_87 rfl (jx_getI 91 hX jf_X4_183 rfl hc23 dX4_forecast_88 rfl (jx_imul 92 hX dX4_forecast_91 rfl ?_)))))
            obtain ⟨hc30, h⟩ := h
            refine jx_iaload 93 hX hc30 dX4_forecast_92 rfl (jx_iconst 94 hX 1 (by decide) dX4_forecast_93 rfl ?_)
            refine jx_icmp_ne 97 114 hX dX4_forecast_94 rfl (by decide) (fun hb31 => ?_) (fun hb31 => ?_)
            · have h := h.1 hb31
              refine jx_iload_n 115 hX 1 rfl rfl dX4_forecast_114 rfl ?_
              exact jx_sub [0] rfl (b115 _ (fun z0 z1 zs hz => ih z0 z1 zs hz) a0 a1 s27 h)
            · have h := h.2 hb31
              refine jx_aload_n 98 hX 0 rfl rfl dX4_forecast_97 rfl (jx_getR 101 hX jf_X4_22 rfl hc23 dX4_forecast_98 rfl (jx_bipush 103 hX 10 (by decide) dX4_forecast_101 rfl (jx_aload_n 104 hX 0 rfl rfl dX4_forecast_103 rfl (jx_getI 107 hX jf_X4_183 rfl hc23 dX4_forecast_104 rfl (jx_imul 108 hX dX4_forecast_107 rfl ?_)))))
              refine jx_iconst 109 hX 2 (by decide) dX4_forecast_108 rfl (jx_iadd 110 hX dX4_forecast_109 rfl ?_)
              obtain ⟨hc32, h⟩ := h
              refine jx_iaload 111 hX hc32 dX4_forecast_110 rfl (jx_goto 115 hX dX4_forecast_111 (by decide) ?_)
              exact jx_sub [0] rfl (b115 _ (fun z0 z1 zs hz => ih z0 z1 zs hz) a0 (s27.1 (s27.2 a0 15) (((10 * (s27.1 a0 7)) + 2) : Int32).toNatClampNeg) s27 h)
          · have h := h.2 hb29
            refine jx_iconst 80 hX 0 (by decide) dX4_forecast_79 rfl ?_
            exact jx_zret hX dX4_forecast_80 (by decide) h
  unfold wX4_forecast at h
  refine jx_aload_n 1 hX 0 rfl rfl dX4_forecast_0 rfl (jx_iconst 2 hX 2 (by decide) dX4_forecast_1 rfl ?_)
  obtain ⟨hc1, h⟩ := h
  refine jx_putI 5 hX jp_X4_174 rfl hc1 dX4_forecast_2 rfl ?_
  refine jx_namu (fun s2 hs2 => ?_)
  have h := h s2 hs2
  refine jx_aload_n 6 hX 0 rfl rfl dX4_forecast_5 rfl ?_
  refine jx_callVi 9 hX (mX4_station _ D _ a0 s2 h) jv_X4_177 jn_4 hc1 ⟨rfl, rfl, by decide, by decide⟩ rfl rfl (Nat.le_of_ble_eq_true rfl) dX4_forecast_6 rfl (fun r3 s4 h => ?_)
  obtain ⟨hz5, h⟩ := h
  have h := h hz5
  refine jx_if_eq 12 43 hX dX4_forecast_9 rfl (by decide) (fun hb6 => ?_) (fun hb6 => ?_)
  · have h := h.1 hb6
    refine jx_iconst 44 hX 0 (by decide) dX4_forecast_43 rfl ?_
    exact jx_zret hX dX4_forecast_44 (by decide) h
  · have h := h.2 hb6
    refine jx_aload_n 13 hX 0 rfl rfl dX4_forecast_12 rfl ?_
    refine jx_callVi 16 hX (mX4_issued _ D _ a0 s4 h) jv_X4_180 jn_4 hc1 ⟨rfl, rfl, by decide, by decide⟩ rfl rfl (Nat.le_of_ble_eq_true rfl) dX4_forecast_13 rfl (fun r7 s8 h => ?_)
    obtain ⟨hz9, h⟩ := h
    have h := h hz9
    refine jx_if_eq 19 43 hX dX4_forecast_16 rfl (by decide) (fun hb10 => ?_) (fun hb10 => ?_)
    · have h := h.1 hb10
      refine jx_iconst 44 hX 0 (by decide) dX4_forecast_43 rfl ?_
      exact jx_zret hX dX4_forecast_44 (by decide) h
    · have h := h.2 hb10
      refine jx_aload_n 20 hX 0 rfl rfl dX4_forecast_19 rfl (jx_iconst 21 hX 0 (by decide) dX4_forecast_20 rfl ?_)
      refine jx_callVi 24 hX (mX4_period _ D _ a0 0 s8 h) jv_X4_168 jn_4 hc1 ⟨rfl, rfl, by decide, by decide⟩ rfl rfl (Nat.le_of_ble_eq_true rfl) dX4_forecast_21 rfl (fun r11 s12 h => ?_)
      obtain ⟨hz13, h⟩ := h
      have h := h hz13
      refine jx_if_eq 27 43 hX dX4_forecast_24 rfl (by decide) (fun hb14 => ?_) (fun hb14 => ?_)
      · have h := h.1 hb14
        refine jx_iconst 44 hX 0 (by decide) dX4_forecast_43 rfl ?_
        exact jx_zret hX dX4_forecast_44 (by decide) h
      · have h := h.2 hb14
        refine jx_aload_n 28 hX 0 rfl rfl dX4_forecast_27 rfl (jx_iconst 29 hX 0 (by decide) dX4_forecast_28 rfl ?_)
        refine jx_callVi 32 hX (mX4_wind _ D _ a0 0 s12 h) jv_X4_145 jn_4 hc1 ⟨rfl, rfl, by decide, by decide⟩ rfl rfl (Nat.le_of_ble_eq_true rfl) dX4_forecast_29 rfl (fun r15 s16 h => ?_)
        obtain ⟨hz17, h⟩ := h
        have h := h hz17
        refine jx_if_eq 35 43 hX dX4_forecast_32 rfl (by decide) (fun hb18 => ?_) (fun hb18 => ?_)
        · have h := h.1 hb18
          refine jx_iconst 44 hX 0 (by decide) dX4_forecast_43 rfl ?_
          exact jx_zret hX dX4_forecast_44 (by decide) h
        · have h := h.2 hb18
          refine jx_aload_n 36 hX 0 rfl rfl dX4_forecast_35 rfl (jx_iconst 37 hX 0 (by decide) dX4_forecast_36 rfl ?_)
          refine jx_callVi 40 hX (mX4_sky _ D _ a0 0 s16 h) jv_X4_157 jn_4 hc1 ⟨rfl, rfl, by decide, by decide⟩ rfl rfl (Nat.le_of_ble_eq_true rfl) dX4_forecast_37 rfl (fun r19 s20 h => ?_)
          obtain ⟨hz21, h⟩ := h
          have h := h hz21
          refine jx_if_ne 43 45 hX dX4_forecast_40 rfl (by decide) (fun hb22 => ?_) (fun hb22 => ?_)
          · have h := h.1 hb22
            refine jx_iconst 46 hX (-1) (by decide) dX4_forecast_45 rfl (jx_istore_n 47 hX [(1, .int (-1)), (0, .ref (D.2.1 a0))] rfl (by decide) rfl dX4_forecast_46 rfl ?_)
            obtain ⟨n_, h⟩ := h
            exact jx_sub [1, 0] rfl (l47 n_ a0 (-1) s20 h)
          · have h := h.2 hb22
            refine jx_iconst 44 hX 0 (by decide) dX4_forecast_43 rfl ?_
            exact jx_zret hX dX4_forecast_44 (by decide) h
set_option maxHeartbeats 4000000 in
set_option maxRecDepth 100000 in
theorem mX4_part (l : Launch) (D : jx_Dt) (post : Int32 → jx_St → Prop) (a0 : Int32) (s : jx_St) (h : wX4_part post a0 s) : jx_Met l yX4_part cX4_part 1 (some .int) (jx_r 0 0) D jx_LM [.int a0] s (jx_Qi D jx_LM post) := by
  refine jx_ofJ (by decide) (Nat.le_of_ble_eq_true rfl) (fun X hl hX => ?_)
  subst hl
  replace hX : jx_K D jx_LM X cX4_part RX4 1 (some .int) (jx_r 0 0) (jx_Qi D jx_LM post) := hX
  show jx_J D jx_LM X 0 [(0, .int a0)] [] s
  unfold wX4_part at h
  refine jx_iload_n 1 hX 0 rfl rfl dX4_part_0 rfl ?_
  refine jx_if_ne 4 8 hX dX4_part_1 rfl (by decide) (fun hb1 => ?_) (fun hb1 => ?_)
  · have h := h.1 hb1
    refine jx_bipush 10 hX 6 (by decide) dX4_part_8 rfl (jx_iload_n 11 hX 0 rfl rfl dX4_part_10 rfl (jx_iadd 12 hX dX4_part_11 rfl ?_))
    exact jx_iret hX dX4_part_12 h
  · have h := h.2 hb1
    refine jx_iconst 5 hX 4 (by decide) dX4_part_4 rfl (jx_goto 12 hX dX4_part_5 (by decide) ?_)
    exact jx_iret hX dX4_part_12 h
set_option maxHeartbeats 4000000 in
set_option maxRecDepth 100000 in
theorem mX4_from (l : Launch) (D : jx_Dt) (post : Int32 → jx_St → Prop) (a0 : Nat) (a1 : Int32) (a2 : Int32) (s : jx_St) (h : wX4_from post a0 a1 a2 s) : jx_Met l yX4_from cX4_from 3 (some .int) (jx_r 1 26) D jx_LM [.ref (D.2.1 a0), .int a1, .int a2] s (jx_Qi D jx_LM post) := by
  refine jx_ofJ (by decide) (Nat.le_of_ble_eq_true rfl) (fun X hl hX => ?_)
  subst hl
  replace hX : jx_K D jx_LM X cX4_from RX4 3 (some .int) (jx_r 1 26) (jx_Qi D jx_LM post) := hX
  show jx_J D jx_LM X 0 [(0, .ref (D.2.1 a0)), (1, .int a1), (2, .int a2)] [] s
  unfold wX4_from at h
  refine jx_aload_n 1 hX 0 rfl rfl dX4_from_0 rfl (jx_iload_n 2 hX 1 rfl rfl dX4_from_1 rfl ?_)
  obtain ⟨hc1, h⟩ := h
  refine jx_callVi 5 hX (mX4_isMinute _ D _ a0 a1 s h) jv_X4_235 jn_4 hc1 ⟨rfl, rfl, by decide, by decide⟩ rfl rfl (Nat.le_of_ble_eq_true rfl) dX4_from_2 rfl (fun r2 s3 h => ?_)
  obtain ⟨hz4, h⟩ := h
  have h := h hz4
  refine jx_if_eq 8 29 hX dX4_from_5 rfl (by decide) (fun hb5 => ?_) (fun hb5 => ?_)
  · have h := h.1 hb5
    refine jx_iconst 30 hX (-1) (by decide) dX4_from_29 rfl ?_
    exact jx_iret hX dX4_from_30 h
  · have h := h.2 hb5
    refine jx_iload_n 9 hX 2 rfl rfl dX4_from_8 rfl ?_
    refine jx_if_lt 12 29 hX dX4_from_9 rfl (by decide) (fun hb6 => ?_) (fun hb6 => ?_)
    · have h := h.1 hb6
      refine jx_iconst 30 hX (-1) (by decide) dX4_from_29 rfl ?_
      exact jx_iret hX dX4_from_30 h
    · have h := h.2 hb6
      refine jx_iload_n 13 hX 2 rfl rfl dX4_from_12 rfl (jx_iconst 14 hX 3 (by decide) dX4_from_13 rfl ?_)
      refine jx_icmp_gt 17 29 hX dX4_from_14 rfl (by decide) (fun hb7 => ?_) (fun hb7 => ?_)
      · have h := h.1 hb7
        refine jx_iconst 30 hX (-1) (by decide) dX4_from_29 rfl ?_
        exact jx_iret hX dX4_from_30 h
      · have h := h.2 hb7
        refine jx_aload_n 18 hX 0 rfl rfl dX4_from_17 rfl (jx_iload_n 19 hX 1 rfl rfl dX4_from_18 rfl (jx_iload_n 20 hX 2 rfl rfl dX4_from_19 rfl ?_))
        refine jx_callSi 23 hX (mX4_part _ D _ a2 s3 h) js_X4_238 ⟨rfl, rfl, by decide, by decide⟩ rfl rfl (Nat.le_of_ble_eq_true rfl) dX4_from_20 rfl (fun r8 s9 h => ?_)
        refine jx_callVi 26 hX (mX4_teller _ D _ a0 a1 r8 s9 h) jv_X4_241 jn_4 hc1 ⟨rfl, rfl, by decide, by decide⟩ rfl rfl (Nat.le_of_ble_eq_true rfl) dX4_from_23 rfl (fun r10 s11 h => ?_)
        refine jx_goto 30 hX dX4_from_26 (by decide) ?_
        exact jx_iret hX dX4_from_30 h
set_option maxHeartbeats 4000000 in
set_option maxRecDepth 100000 in
theorem mX4_group (l : Launch) (D : jx_Dt) (post : Int32 → jx_St → Prop) (a0 : Nat) (a1 : Int32) (a2 : Int32) (s : jx_St) (h : wX4_group post a0 a1 a2 s) : jx_Met l yX4_group cX4_group 3 (some .int) (jx_r 1 21) D jx_LM [.ref (D.2.1 a0), .int a1, .int a2] s (jx_Qi D jx_LM post) := by
  refine jx_ofJ (by decide) (Nat.le_of_ble_eq_true rfl) (fun X hl hX => ?_)
  subst hl
  replace hX : jx_K D jx_LM X cX4_group RX4 3 (some .int) (jx_r 1 21) (jx_Qi D jx_LM post) := hX
  show jx_J D jx_LM X 0 [(0, .ref (D.2.1 a0)), (1, .int a1), (2, .int a2)] [] s
  unfold wX4_group at h
  refine jx_aload_n 1 hX 0 rfl rfl dX4_group_0 rfl (jx_iload_n 2 hX 1 rfl rfl dX4_group_1 rfl ?_)
  obtain ⟨hc1, h⟩ := h
  refine jx_callVi 5 hX (mX4_isGroup _ D _ a0 a1 s h) jv_X4_232 jn_4 hc1 ⟨rfl, rfl, by decide, by decide⟩ rfl rfl (Nat.le_of_ble_eq_true rfl) dX4_group_2 rfl (fun r2 s3 h => ?_)
  obtain ⟨hz4, h⟩ := h
  have h := h hz4
  refine jx_if_eq 8 32 hX dX4_group_5 rfl (by decide) (fun hb5 => ?_) (fun hb5 => ?_)
  · have h := h.1 hb5
    refine jx_iconst 33 hX (-1) (by decide) dX4_group_32 rfl ?_
    exact jx_iret hX dX4_group_33 h
  · have h := h.2 hb5
    refine jx_iload_n 9 hX 2 rfl rfl dX4_group_8 rfl ?_
    refine jx_if_lt 12 32 hX dX4_group_9 rfl (by decide) (fun hb6 => ?_) (fun hb6 => ?_)
    · have h := h.1 hb6
      refine jx_iconst 33 hX (-1) (by decide) dX4_group_32 rfl ?_
      exact jx_iret hX dX4_group_33 h
    · have h := h.2 hb6
      refine jx_iload_n 13 hX 2 rfl rfl dX4_group_12 rfl (jx_bipush 15 hX 9 (by decide) dX4_group_13 rfl ?_)
      refine jx_icmp_gt 18 32 hX dX4_group_15 rfl (by decide) (fun hb7 => ?_) (fun hb7 => ?_)
      · have h := h.1 hb7
        refine jx_iconst 33 hX (-1) (by decide) dX4_group_32 rfl ?_
        exact jx_iret hX dX4_group_33 h
      · have h := h.2 hb7
        refine jx_aload_n 19 hX 0 rfl rfl dX4_group_18 rfl (jx_getR 22 hX jf_X4_34 rfl hc1 dX4_group_19 rfl (jx_bipush 24 hX 10 (by decide) dX4_group_22 rfl (jx_iload_n 25 hX 1 rfl rfl dX4_group_24 rfl (jx_imul 26 hX dX4_group_25 rfl (jx_iload_n 27 hX 2 rfl rfl dX4_group_26 rfl ?_)))))
        refine jx_iadd 28 hX dX4_group_27 rfl ?_
        obtain ⟨hc8, h⟩ := h
        refine jx_iaload 29 hX hc8 dX4_group_28 rfl (jx_goto 33 hX dX4_group_29 (by decide) ?_)
        exact jx_iret hX dX4_group_33 h
set_option maxHeartbeats 4000000 in
set_option maxRecDepth 100000 in
theorem mX4_isOther (l : Launch) (D : jx_Dt) (post : Int32 → jx_St → Prop) (a0 : Nat) (a1 : Int32) (s : jx_St) (h : wX4_isOther post a0 a1 s) : jx_Met l yX4_isOther cX4_isOther 4 (some .boolean) (jx_r 1 26) D jx_LM [.ref (D.2.1 a0), .int a1] s (jx_Qi D jx_LM (fun r u => (r = 0 ∨ r = 1) ∧ post r u)) := by
  refine jx_ofJ (by decide) (Nat.le_of_ble_eq_true rfl) (fun X hl hX => ?_)
  subst hl
  replace hX : jx_K D jx_LM X cX4_isOther RX4 4 (some .boolean) (jx_r 1 26) (jx_Qi D jx_LM (fun r u => (r = 0 ∨ r = 1) ∧ post r u)) := hX
  show jx_J D jx_LM X 0 [(0, .ref (D.2.1 a0)), (1, .int a1)] [] s
  have l50 : ∀ (n : Nat) (a0 : Nat) (a1 : Int32) (a2 : Int32) (a3 : Int32) (s : jx_St), wX4_isOther_l50 post n a0 a1 a2 a3 s → jx_J D jx_LM X 50 [(0, .ref (D.2.1 a0)), (1, .int a1), (2, .int a2), (3, .int a3)] [] s := by
    intro n
    induction n with
    | zero => intro a0 a1 a2 a3 s h; exact h.elim
    | succ n ih =>
      intro a0 a1 a2 a3 s h
      rw [wX4_isOther_l50] at h
      refine jx_iload_n 51 hX 3 rfl rfl dX4_isOther_50 rfl (jx_aload_n 52 hX 0 rfl rfl dX4_isOther_51 rfl ?_)
      obtain ⟨hc16, h⟩ := h
      refine jx_getI 55 hX jf_X4_214 rfl hc16 dX4_isOther_52 rfl ?_
      refine jx_icmp_ge 58 91 hX dX4_isOther_55 rfl (by decide) (fun hb17 => ?_) (fun hb17 => ?_)
      · have h := h.1 hb17
        refine jx_iload_n 92 hX 2 rfl rfl dX4_isOther_91 rfl ?_
        obtain ⟨hc18, h⟩ := h
        exact jx_zret hX dX4_isOther_92 hc18 h
      · have h := h.2 hb17
        refine jx_iload_n 59 hX 2 rfl rfl dX4_isOther_58 rfl ?_
        refine jx_if_ne 62 79 hX dX4_isOther_59 rfl (by decide) (fun hb19 => ?_) (fun hb19 => ?_)
        · have h := h.1 hb19
          refine jx_iconst 80 hX 1 (by decide) dX4_isOther_79 rfl (jx_goto 84 hX dX4_isOther_80 (by decide) (jx_istore_n 85 hX [(2, .int 1), (0, .ref (D.2.1 a0)), (1, .int a1), (3, .int a3)] rfl (by decide) rfl dX4_isOther_84 rfl ?_))
          obtain ⟨x20, hx20⟩ : ∃ y : Int32, y = a3 + 1 := ⟨_, rfl⟩
          have h := h x20 hx20
          refine jx_iinc 88 hX 3 x20 [(3, .int x20), (2, .int 1), (0, .ref (D.2.1 a0)), (1, .int a1)] rfl (by rw [hx20]; exact congrArg (fun z => a3 + z) (by decide)) (by decide) rfl dX4_isOther_85 rfl (jx_goto 50 hX dX4_isOther_88 (by decide) ?_)
          exact jx_sub [2, 3, 1, 0] rfl (ih a0 a1 1 x20 s h)
        · have h := h.2 hb19
          refine jx_aload_n 63 hX 0 rfl rfl dX4_isOther_62 rfl (jx_iload_n 64 hX 3 rfl rfl dX4_isOther_63 rfl (jx_iload_n 65 hX 1 rfl rfl dX4_isOther_64 rfl ?_))
          refine jx_callVi 68 hX (mX4_isActive _ D _ a0 a3 a1 s h) jv_X4_244 jn_4 hc16 ⟨rfl, rfl, by decide, by decide⟩ rfl rfl (Nat.le_of_ble_eq_true rfl) dX4_isOther_65 rfl (fun r21 s22 h => ?_)
          obtain ⟨hz23, h⟩ := h
          have h := h hz23
          refine jx_aload_n 69 hX 0 rfl rfl dX4_isOther_68 rfl (jx_iload_n 70 hX 3 rfl rfl dX4_isOther_69 rfl (jx_iload_n 71 hX 1 rfl rfl dX4_isOther_70 rfl (jx_iconst 72 hX 1 (by decide) dX4_isOther_71 rfl (jx_isub 73 hX dX4_isOther_72 rfl ?_))))
          refine jx_callVi 76 hX (mX4_isActive _ D _ a0 a3 (a1 - 1) s22 h) jv_X4_244 jn_4 hc16 ⟨rfl, rfl, by decide, by decide⟩ rfl rfl (Nat.le_of_ble_eq_true rfl) dX4_isOther_73 rfl (fun r24 s25 h => ?_)
          obtain ⟨hz26, h⟩ := h
          have h := h hz26
          refine jx_icmp_eq 79 83 hX dX4_isOther_76 rfl (by decide) (fun hb27 => ?_) (fun hb27 => ?_)
          · have h := h.1 hb27
            refine jx_iconst 84 hX 0 (by decide) dX4_isOther_83 rfl (jx_istore_n 85 hX [(2, .int 0), (0, .ref (D.2.1 a0)), (1, .int a1), (3, .int a3)] rfl (by decide) rfl dX4_isOther_84 rfl ?_)
            obtain ⟨x28, hx28⟩ : ∃ y : Int32, y = a3 + 1 := ⟨_, rfl⟩
            have h := h x28 hx28
            refine jx_iinc 88 hX 3 x28 [(3, .int x28), (2, .int 0), (0, .ref (D.2.1 a0)), (1, .int a1)] rfl (by rw [hx28]; exact congrArg (fun z => a3 + z) (by decide)) (by decide) rfl dX4_isOther_85 rfl (jx_goto 50 hX dX4_isOther_88 (by decide) ?_)
            exact jx_sub [2, 3, 1, 0] rfl (ih a0 a1 0 x28 s25 h)
          · have h := h.2 hb27
            refine jx_iconst 80 hX 1 (by decide) dX4_isOther_79 rfl (jx_goto 84 hX dX4_isOther_80 (by decide) (jx_istore_n 85 hX [(2, .int 1), (0, .ref (D.2.1 a0)), (1, .int a1), (3, .int a3)] rfl (by decide) rfl dX4_isOther_84 rfl ?_))
            obtain ⟨x29, hx29⟩ : ∃ y : Int32, y = a3 + 1 := ⟨_, rfl⟩
            have h := h x29 hx29
            refine jx_iinc 88 hX 3 x29 [(3, .int x29), (2, .int 1), (0, .ref (D.2.1 a0)), (1, .int a1)] rfl (by rw [hx29]; exact congrArg (fun z => a3 + z) (by decide)) (by decide) rfl dX4_isOther_85 rfl (jx_goto 50 hX dX4_isOther_88 (by decide) ?_)
            exact jx_sub [2, 3, 1, 0] rfl (ih a0 a1 1 x29 s25 h)
  have l4 : ∀ (n : Nat) (a0 : Nat) (a1 : Int32) (a2 : Int32) (a3 : Int32) (s : jx_St), wX4_isOther_l4 post n a0 a1 a2 a3 s → jx_J D jx_LM X 4 [(0, .ref (D.2.1 a0)), (1, .int a1), (2, .int a2), (3, .int a3)] [] s := by
    intro n
    induction n with
    | zero => intro a0 a1 a2 a3 s h; exact h.elim
    | succ n ih =>
      intro a0 a1 a2 a3 s h
      rw [wX4_isOther_l4] at h
      refine jx_iload_n 5 hX 3 rfl rfl dX4_isOther_4 rfl (jx_iconst 6 hX 4 (by decide) dX4_isOther_5 rfl ?_)
      refine jx_icmp_ge 9 48 hX dX4_isOther_6 rfl (by decide) (fun hb1 => ?_) (fun hb1 => ?_)
      · have h := h.1 hb1
        refine jx_iconst 49 hX 1 (by decide) dX4_isOther_48 rfl (jx_istore_n 50 hX [(3, .int 1), (0, .ref (D.2.1 a0)), (1, .int a1), (2, .int a2)] rfl (by decide) rfl dX4_isOther_49 rfl ?_)
        obtain ⟨n_, h⟩ := h
        exact jx_sub [1, 2, 3, 0] rfl (l50 n_ a0 a1 a2 1 s h)
      · have h := h.2 hb1
        refine jx_iload_n 10 hX 2 rfl rfl dX4_isOther_9 rfl ?_
        refine jx_if_ne 13 36 hX dX4_isOther_10 rfl (by decide) (fun hb2 => ?_) (fun hb2 => ?_)
        · have h := h.1 hb2
          refine jx_iconst 37 hX 1 (by decide) dX4_isOther_36 rfl (jx_goto 41 hX dX4_isOther_37 (by decide) (jx_istore_n 42 hX [(2, .int 1), (0, .ref (D.2.1 a0)), (1, .int a1), (3, .int a3)] rfl (by decide) rfl dX4_isOther_41 rfl ?_))
          obtain ⟨x3, hx3⟩ : ∃ y : Int32, y = a3 + 1 := ⟨_, rfl⟩
          have h := h x3 hx3
          refine jx_iinc 45 hX 3 x3 [(3, .int x3), (2, .int 1), (0, .ref (D.2.1 a0)), (1, .int a1)] rfl (by rw [hx3]; exact congrArg (fun z => a3 + z) (by decide)) (by decide) rfl dX4_isOther_42 rfl (jx_goto 4 hX dX4_isOther_45 (by decide) ?_)
          exact jx_sub [2, 3, 1, 0] rfl (ih a0 a1 1 x3 s h)
        · have h := h.2 hb2
          refine jx_aload_n 14 hX 0 rfl rfl dX4_isOther_13 rfl (jx_iload_n 15 hX 1 rfl rfl dX4_isOther_14 rfl (jx_iload_n 16 hX 3 rfl rfl dX4_isOther_15 rfl ?_))
          refine jx_callSi 19 hX (mX4_part _ D _ a3 s h) js_X4_238 ⟨rfl, rfl, by decide, by decide⟩ rfl rfl (Nat.le_of_ble_eq_true rfl) dX4_isOther_16 rfl (fun r4 s5 h => ?_)
          obtain ⟨hc6, h⟩ := h
          refine jx_callVi 22 hX (mX4_teller _ D _ a0 a1 r4 s5 h) jv_X4_241 jn_4 hc6 ⟨rfl, rfl, by decide, by decide⟩ rfl rfl (Nat.le_of_ble_eq_true rfl) dX4_isOther_19 rfl (fun r7 s8 h => ?_)
          refine jx_aload_n 23 hX 0 rfl rfl dX4_isOther_22 rfl (jx_iload_n 24 hX 1 rfl rfl dX4_isOther_23 rfl (jx_iconst 25 hX 1 (by decide) dX4_isOther_24 rfl (jx_isub 26 hX dX4_isOther_25 rfl (jx_iload_n 27 hX 3 rfl rfl dX4_isOther_26 rfl ?_))))
          refine jx_callSi 30 hX (mX4_part _ D _ a3 s8 h) js_X4_238 ⟨rfl, rfl, by decide, by decide⟩ rfl rfl (Nat.le_of_ble_eq_true rfl) dX4_isOther_27 rfl (fun r9 s10 h => ?_)
          refine jx_callVi 33 hX (mX4_teller _ D _ a0 (a1 - 1) r9 s10 h) jv_X4_241 jn_4 hc6 ⟨rfl, rfl, by decide, by decide⟩ rfl rfl (Nat.le_of_ble_eq_true rfl) dX4_isOther_30 rfl (fun r11 s12 h => ?_)
          refine jx_icmp_eq 36 40 hX dX4_isOther_33 rfl (by decide) (fun hb13 => ?_) (fun hb13 => ?_)
          · have h := h.1 hb13
            refine jx_iconst 41 hX 0 (by decide) dX4_isOther_40 rfl (jx_istore_n 42 hX [(2, .int 0), (0, .ref (D.2.1 a0)), (1, .int a1), (3, .int a3)] rfl (by decide) rfl dX4_isOther_41 rfl ?_)
            obtain ⟨x14, hx14⟩ : ∃ y : Int32, y = a3 + 1 := ⟨_, rfl⟩
            have h := h x14 hx14
            refine jx_iinc 45 hX 3 x14 [(3, .int x14), (2, .int 0), (0, .ref (D.2.1 a0)), (1, .int a1)] rfl (by rw [hx14]; exact congrArg (fun z => a3 + z) (by decide)) (by decide) rfl dX4_isOther_42 rfl (jx_goto 4 hX dX4_isOther_45 (by decide) ?_)
            exact jx_sub [2, 3, 1, 0] rfl (ih a0 a1 0 x14 s12 h)
          · have h := h.2 hb13
            refine jx_iconst 37 hX 1 (by decide) dX4_isOther_36 rfl (jx_goto 41 hX dX4_isOther_37 (by decide) (jx_istore_n 42 hX [(2, .int 1), (0, .ref (D.2.1 a0)), (1, .int a1), (3, .int a3)] rfl (by decide) rfl dX4_isOther_41 rfl ?_))
            obtain ⟨x15, hx15⟩ : ∃ y : Int32, y = a3 + 1 := ⟨_, rfl⟩
            have h := h x15 hx15
            refine jx_iinc 45 hX 3 x15 [(3, .int x15), (2, .int 1), (0, .ref (D.2.1 a0)), (1, .int a1)] rfl (by rw [hx15]; exact congrArg (fun z => a3 + z) (by decide)) (by decide) rfl dX4_isOther_42 rfl (jx_goto 4 hX dX4_isOther_45 (by decide) ?_)
            exact jx_sub [2, 3, 1, 0] rfl (ih a0 a1 1 x15 s12 h)
  unfold wX4_isOther at h
  refine jx_iconst 1 hX 0 (by decide) dX4_isOther_0 rfl (jx_istore_n 2 hX [(2, .int 0), (0, .ref (D.2.1 a0)), (1, .int a1)] rfl (by decide) rfl dX4_isOther_1 rfl (jx_iconst 3 hX 0 (by decide) dX4_isOther_2 rfl (jx_istore_n 4 hX [(3, .int 0), (2, .int 0), (0, .ref (D.2.1 a0)), (1, .int a1)] rfl (by decide) rfl dX4_isOther_3 rfl ?_)))
  obtain ⟨n_, h⟩ := h
  exact jx_sub [2, 3, 1, 0] rfl (l4 n_ a0 a1 0 0 s h)
set_option maxHeartbeats 4000000 in
set_option maxRecDepth 100000 in
theorem mX4_keep (l : Launch) (D : jx_Dt) (post : jx_St → Prop) (a0 : Nat) (s : jx_St) (h : wX4_keep post a0 s) : jx_Met l yX4_keep cX4_keep 3 none (jx_r 0 0) D jx_LM [.ref (D.2.1 a0)] s (jx_Qv D jx_LM post) := by
  refine jx_ofJ (by decide) (Nat.le_of_ble_eq_true rfl) (fun X hl hX => ?_)
  subst hl
  replace hX : jx_K D jx_LM X cX4_keep RX4 3 none (jx_r 0 0) (jx_Qv D jx_LM post) := hX
  show jx_J D jx_LM X 0 [(0, .ref (D.2.1 a0))] [] s
  have l173 : ∀ (k158_ : Nat → Int32 → jx_St → Prop) (hk158_ : ∀ (a0 : Nat) (a1 : Int32) (s : jx_St), k158_ a0 a1 s → jx_J D jx_LM X 158 [(0, .ref (D.2.1 a0)), (1, .int a1)] [] s) (n : Nat) (a0 : Nat) (a1 : Int32) (a2 : Int32) (s : jx_St), wX4_keep_l173 post k158_ n a0 a1 a2 s → jx_J D jx_LM X 173 [(0, .ref (D.2.1 a0)), (1, .int a1), (2, .int a2)] [] s := by
    intro k158_ hk158_ n
    induction n with
    | zero => intro a0 a1 a2 s h; exact h.elim
    | succ n ih =>
      intro a0 a1 a2 s h
      rw [wX4_keep_l173] at h
      refine jx_iload_n 174 hX 2 rfl rfl dX4_keep_173 rfl (jx_aload_n 175 hX 0 rfl rfl dX4_keep_174 rfl ?_)
      obtain ⟨hc39, h⟩ := h
      refine jx_getR 178 hX jf_X4_16 rfl hc39 dX4_keep_175 rfl (jx_iload_n 179 hX 1 rfl rfl dX4_keep_178 rfl ?_)
      obtain ⟨hc40, h⟩ := h
      refine jx_iaload 180 hX hc40 dX4_keep_179 rfl ?_
      refine jx_icmp_ge 183 214 hX dX4_keep_180 rfl (by decide) (fun hb41 => ?_) (fun hb41 => ?_)
      · have h := h.1 hb41
        refine jx_aload_n 215 hX 0 rfl rfl dX4_keep_214 rfl (jx_getR 218 hX jf_X4_43 rfl hc39 dX4_keep_215 rfl (jx_aload_n 219 hX 0 rfl rfl dX4_keep_218 rfl (jx_getI 222 hX jf_X4_229 rfl hc39 dX4_keep_219 rfl (jx_bipush 224 hX 32 (by decide) dX4_keep_222 rfl ?_))))
        obtain ⟨hc42, h⟩ := h
        refine jx_iastore 225 hX hc42 dX4_keep_224 rfl ?_
        refine jx_namu (fun s43 hs43 => ?_)
        have h := h s43 hs43
        refine jx_aload_n 226 hX 0 rfl rfl dX4_keep_225 rfl (jx_dup 227 hX rfl dX4_keep_226 rfl (jx_getI 230 hX jf_X4_229 rfl hc39 dX4_keep_227 rfl (jx_iconst 231 hX 1 (by decide) dX4_keep_230 rfl (jx_iadd 232 hX dX4_keep_231 rfl (jx_putI 235 hX jp_X4_229 rfl hc39 dX4_keep_232 rfl ?_)))))
        refine jx_namu (fun s44 hs44 => ?_)
        have h := h s44 hs44
        obtain ⟨x45, hx45⟩ : ∃ y : Int32, y = a1 + 1 := ⟨_, rfl⟩
        have h := h x45 hx45
        refine jx_iinc 238 hX 1 x45 [(1, .int x45), (0, .ref (D.2.1 a0)), (2, .int a2)] rfl (by rw [hx45]; exact congrArg (fun z => a1 + z) (by decide)) (by decide) rfl dX4_keep_235 rfl (jx_goto 158 hX dX4_keep_238 (by decide) ?_)
        exact jx_sub [1, 0] rfl (hk158_ a0 x45 s44 h)
      · have h := h.2 hb41
        refine jx_aload_n 184 hX 0 rfl rfl dX4_keep_183 rfl (jx_getR 187 hX jf_X4_43 rfl hc39 dX4_keep_184 rfl (jx_aload_n 188 hX 0 rfl rfl dX4_keep_187 rfl (jx_getI 191 hX jf_X4_229 rfl hc39 dX4_keep_188 rfl (jx_aload_n 192 hX 0 rfl rfl dX4_keep_191 rfl (jx_getR 195 hX jf_X4_7 rfl hc39 dX4_keep_192 rfl ?_)))))
        refine jx_iload_n 196 hX 2 rfl rfl dX4_keep_195 rfl ?_
        obtain ⟨hc46, h⟩ := h
        refine jx_iaload 197 hX hc46 dX4_keep_196 rfl ?_
        obtain ⟨hc47, h⟩ := h
        refine jx_iastore 198 hX hc47 dX4_keep_197 rfl ?_
        refine jx_namu (fun s48 hs48 => ?_)
        have h := h s48 hs48
        refine jx_aload_n 199 hX 0 rfl rfl dX4_keep_198 rfl (jx_dup 200 hX rfl dX4_keep_199 rfl (jx_getI 203 hX jf_X4_229 rfl hc39 dX4_keep_200 rfl (jx_iconst 204 hX 1 (by decide) dX4_keep_203 rfl (jx_iadd 205 hX dX4_keep_204 rfl (jx_putI 208 hX jp_X4_229 rfl hc39 dX4_keep_205 rfl ?_)))))
        refine jx_namu (fun s49 hs49 => ?_)
        have h := h s49 hs49
        obtain ⟨x50, hx50⟩ : ∃ y : Int32, y = a2 + 1 := ⟨_, rfl⟩
        have h := h x50 hx50
        refine jx_iinc 211 hX 2 x50 [(2, .int x50), (0, .ref (D.2.1 a0)), (1, .int a1)] rfl (by rw [hx50]; exact congrArg (fun z => a2 + z) (by decide)) (by decide) rfl dX4_keep_208 rfl (jx_goto 173 hX dX4_keep_211 (by decide) ?_)
        exact jx_sub [1, 2, 0] rfl (ih a0 a1 x50 s49 h)
  have l158 : ∀ (n : Nat) (a0 : Nat) (a1 : Int32) (s : jx_St), wX4_keep_l158 post n a0 a1 s → jx_J D jx_LM X 158 [(0, .ref (D.2.1 a0)), (1, .int a1)] [] s := by
    intro n
    induction n with
    | zero => intro a0 a1 s h; exact h.elim
    | succ n ih =>
      intro a0 a1 s h
      rw [wX4_keep_l158] at h
      refine jx_iload_n 159 hX 1 rfl rfl dX4_keep_158 rfl (jx_aload_n 160 hX 0 rfl rfl dX4_keep_159 rfl ?_)
      obtain ⟨hc34, h⟩ := h
      refine jx_getI 163 hX jf_X4_59 rfl hc34 dX4_keep_160 rfl ?_
      refine jx_icmp_ge 166 241 hX dX4_keep_163 rfl (by decide) (fun hb35 => ?_) (fun hb35 => ?_)
      · have h := h.1 hb35
        refine jx_aload_n 242 hX 0 rfl rfl dX4_keep_241 rfl (jx_dup 243 hX rfl dX4_keep_242 rfl (jx_getI 246 hX jf_X4_229 rfl hc34 dX4_keep_243 rfl (jx_iconst 247 hX 1 (by decide) dX4_keep_246 rfl (jx_isub 248 hX dX4_keep_247 rfl (jx_putI 251 hX jp_X4_229 rfl hc34 dX4_keep_248 rfl ?_)))))
        refine jx_namu (fun s36 hs36 => ?_)
        have h := h s36 hs36
        exact jx_vret hX dX4_keep_251 h
      · have h := h.2 hb35
        refine jx_aload_n 167 hX 0 rfl rfl dX4_keep_166 rfl (jx_getR 170 hX jf_X4_13 rfl hc34 dX4_keep_167 rfl (jx_iload_n 171 hX 1 rfl rfl dX4_keep_170 rfl ?_))
        obtain ⟨hc37, h⟩ := h
        refine jx_iaload 172 hX hc37 dX4_keep_171 rfl ?_
        refine jx_topi (fun x38 hx38 => ?_)
        have h := h x38 hx38
        refine jx_istore_n 173 hX [(2, .int x38), (0, .ref (D.2.1 a0)), (1, .int a1)] rfl (by decide) rfl dX4_keep_172 rfl ?_
        obtain ⟨n_, h⟩ := h
        exact jx_sub [1, 2, 0] rfl (l173 _ (fun z0 z1 zs hz => ih z0 z1 zs hz) n_ a0 a1 x38 s h)
  have l127 : ∀ (n : Nat) (a0 : Nat) (a1 : Int32) (s : jx_St), wX4_keep_l127 post n a0 a1 s → jx_J D jx_LM X 127 [(0, .ref (D.2.1 a0)), (1, .int a1)] [] s := by
    intro n
    induction n with
    | zero => intro a0 a1 s h; exact h.elim
    | succ n ih =>
      intro a0 a1 s h
      rw [wX4_keep_l127] at h
      refine jx_iload_n 128 hX 1 rfl rfl dX4_keep_127 rfl (jx_bipush 130 hX 36 (by decide) dX4_keep_128 rfl ?_)
      refine jx_icmp_ge 133 151 hX dX4_keep_130 rfl (by decide) (fun hb26 => ?_) (fun hb26 => ?_)
      · have h := h.1 hb26
        refine jx_aload_n 152 hX 0 rfl rfl dX4_keep_151 rfl (jx_iconst 153 hX 0 (by decide) dX4_keep_152 rfl ?_)
        obtain ⟨hc27, h⟩ := h
        refine jx_putI 156 hX jp_X4_229 rfl hc27 dX4_keep_153 rfl ?_
        refine jx_namu (fun s28 hs28 => ?_)
        have h := h s28 hs28
        refine jx_iconst 157 hX 0 (by decide) dX4_keep_156 rfl (jx_istore_n 158 hX [(1, .int 0), (0, .ref (D.2.1 a0))] rfl (by decide) rfl dX4_keep_157 rfl ?_)
        obtain ⟨n_, h⟩ := h
        exact jx_sub [1, 0] rfl (l158 n_ a0 0 s28 h)
      · have h := h.2 hb26
        refine jx_aload_n 134 hX 0 rfl rfl dX4_keep_133 rfl ?_
        obtain ⟨hc29, h⟩ := h
        refine jx_getR 137 hX jf_X4_40 rfl hc29 dX4_keep_134 rfl (jx_iload_n 138 hX 1 rfl rfl dX4_keep_137 rfl (jx_aload_n 139 hX 0 rfl rfl dX4_keep_138 rfl (jx_getR 142 hX jf_X4_28 rfl hc29 dX4_keep_139 rfl (jx_iload_n 143 hX 1 rfl rfl dX4_keep_142 rfl ?_))))
        obtain ⟨hc30, h⟩ := h
        refine jx_iaload 144 hX hc30 dX4_keep_143 rfl ?_
        obtain ⟨hc31, h⟩ := h
        refine jx_iastore 145 hX hc31 dX4_keep_144 rfl ?_
        refine jx_namu (fun s32 hs32 => ?_)
        have h := h s32 hs32
        obtain ⟨x33, hx33⟩ : ∃ y : Int32, y = a1 + 1 := ⟨_, rfl⟩
        have h := h x33 hx33
        refine jx_iinc 148 hX 1 x33 [(1, .int x33), (0, .ref (D.2.1 a0))] rfl (by rw [hx33]; exact congrArg (fun z => a1 + z) (by decide)) (by decide) rfl dX4_keep_145 rfl (jx_goto 127 hX dX4_keep_148 (by decide) ?_)
        exact jx_sub [1, 0] rfl (ih a0 x33 s32 h)
  have l101 : ∀ (n : Nat) (a0 : Nat) (a1 : Int32) (s : jx_St), wX4_keep_l101 post n a0 a1 s → jx_J D jx_LM X 101 [(0, .ref (D.2.1 a0)), (1, .int a1)] [] s := by
    intro n
    induction n with
    | zero => intro a0 a1 s h; exact h.elim
    | succ n ih =>
      intro a0 a1 s h
      rw [wX4_keep_l101] at h
      refine jx_iload_n 102 hX 1 rfl rfl dX4_keep_101 rfl (jx_bipush 104 hX 27 (by decide) dX4_keep_102 rfl ?_)
      refine jx_icmp_ge 107 125 hX dX4_keep_104 rfl (by decide) (fun hb20 => ?_) (fun hb20 => ?_)
      · have h := h.1 hb20
        refine jx_iconst 126 hX 0 (by decide) dX4_keep_125 rfl (jx_istore_n 127 hX [(1, .int 0), (0, .ref (D.2.1 a0))] rfl (by decide) rfl dX4_keep_126 rfl ?_)
        obtain ⟨n_, h⟩ := h
        exact jx_sub [1, 0] rfl (l127 n_ a0 0 s h)
      · have h := h.2 hb20
        refine jx_aload_n 108 hX 0 rfl rfl dX4_keep_107 rfl ?_
        obtain ⟨hc21, h⟩ := h
        refine jx_getR 111 hX jf_X4_37 rfl hc21 dX4_keep_108 rfl (jx_iload_n 112 hX 1 rfl rfl dX4_keep_111 rfl (jx_aload_n 113 hX 0 rfl rfl dX4_keep_112 rfl (jx_getR 116 hX jf_X4_25 rfl hc21 dX4_keep_113 rfl (jx_iload_n 117 hX 1 rfl rfl dX4_keep_116 rfl ?_))))
        obtain ⟨hc22, h⟩ := h
        refine jx_iaload 118 hX hc22 dX4_keep_117 rfl ?_
        obtain ⟨hc23, h⟩ := h
        refine jx_iastore 119 hX hc23 dX4_keep_118 rfl ?_
        refine jx_namu (fun s24 hs24 => ?_)
        have h := h s24 hs24
        obtain ⟨x25, hx25⟩ : ∃ y : Int32, y = a1 + 1 := ⟨_, rfl⟩
        have h := h x25 hx25
        refine jx_iinc 122 hX 1 x25 [(1, .int x25), (0, .ref (D.2.1 a0))] rfl (by rw [hx25]; exact congrArg (fun z => a1 + z) (by decide)) (by decide) rfl dX4_keep_119 rfl (jx_goto 101 hX dX4_keep_122 (by decide) ?_)
        exact jx_sub [1, 0] rfl (ih a0 x25 s24 h)
  have l75 : ∀ (n : Nat) (a0 : Nat) (a1 : Int32) (s : jx_St), wX4_keep_l75 post n a0 a1 s → jx_J D jx_LM X 75 [(0, .ref (D.2.1 a0)), (1, .int a1)] [] s := by
    intro n
    induction n with
    | zero => intro a0 a1 s h; exact h.elim
    | succ n ih =>
      intro a0 a1 s h
      rw [wX4_keep_l75] at h
      refine jx_iload_n 76 hX 1 rfl rfl dX4_keep_75 rfl (jx_bipush 78 hX 90 (by decide) dX4_keep_76 rfl ?_)
      refine jx_icmp_ge 81 99 hX dX4_keep_78 rfl (by decide) (fun hb14 => ?_) (fun hb14 => ?_)
      · have h := h.1 hb14
        refine jx_iconst 100 hX 0 (by decide) dX4_keep_99 rfl (jx_istore_n 101 hX [(1, .int 0), (0, .ref (D.2.1 a0))] rfl (by decide) rfl dX4_keep_100 rfl ?_)
        obtain ⟨n_, h⟩ := h
        exact jx_sub [1, 0] rfl (l101 n_ a0 0 s h)
      · have h := h.2 hb14
        refine jx_aload_n 82 hX 0 rfl rfl dX4_keep_81 rfl ?_
        obtain ⟨hc15, h⟩ := h
        refine jx_getR 85 hX jf_X4_34 rfl hc15 dX4_keep_82 rfl (jx_iload_n 86 hX 1 rfl rfl dX4_keep_85 rfl (jx_aload_n 87 hX 0 rfl rfl dX4_keep_86 rfl (jx_getR 90 hX jf_X4_22 rfl hc15 dX4_keep_87 rfl (jx_iload_n 91 hX 1 rfl rfl dX4_keep_90 rfl ?_))))
        obtain ⟨hc16, h⟩ := h
        refine jx_iaload 92 hX hc16 dX4_keep_91 rfl ?_
        obtain ⟨hc17, h⟩ := h
        refine jx_iastore 93 hX hc17 dX4_keep_92 rfl ?_
        refine jx_namu (fun s18 hs18 => ?_)
        have h := h s18 hs18
        obtain ⟨x19, hx19⟩ : ∃ y : Int32, y = a1 + 1 := ⟨_, rfl⟩
        have h := h x19 hx19
        refine jx_iinc 96 hX 1 x19 [(1, .int x19), (0, .ref (D.2.1 a0))] rfl (by rw [hx19]; exact congrArg (fun z => a1 + z) (by decide)) (by decide) rfl dX4_keep_93 rfl (jx_goto 75 hX dX4_keep_96 (by decide) ?_)
        exact jx_sub [1, 0] rfl (ih a0 x19 s18 h)
  have l50 : ∀ (n : Nat) (a0 : Nat) (a1 : Int32) (s : jx_St), wX4_keep_l50 post n a0 a1 s → jx_J D jx_LM X 50 [(0, .ref (D.2.1 a0)), (1, .int a1)] [] s := by
    intro n
    induction n with
    | zero => intro a0 a1 s h; exact h.elim
    | succ n ih =>
      intro a0 a1 s h
      rw [wX4_keep_l50] at h
      refine jx_iload_n 51 hX 1 rfl rfl dX4_keep_50 rfl (jx_iconst 52 hX 4 (by decide) dX4_keep_51 rfl ?_)
      refine jx_icmp_ge 55 73 hX dX4_keep_52 rfl (by decide) (fun hb8 => ?_) (fun hb8 => ?_)
      · have h := h.1 hb8
        refine jx_iconst 74 hX 0 (by decide) dX4_keep_73 rfl (jx_istore_n 75 hX [(1, .int 0), (0, .ref (D.2.1 a0))] rfl (by decide) rfl dX4_keep_74 rfl ?_)
        obtain ⟨n_, h⟩ := h
        exact jx_sub [1, 0] rfl (l75 n_ a0 0 s h)
      · have h := h.2 hb8
        refine jx_aload_n 56 hX 0 rfl rfl dX4_keep_55 rfl ?_
        obtain ⟨hc9, h⟩ := h
        refine jx_getR 59 hX jf_X4_31 rfl hc9 dX4_keep_56 rfl (jx_iload_n 60 hX 1 rfl rfl dX4_keep_59 rfl (jx_aload_n 61 hX 0 rfl rfl dX4_keep_60 rfl (jx_getR 64 hX jf_X4_19 rfl hc9 dX4_keep_61 rfl (jx_iload_n 65 hX 1 rfl rfl dX4_keep_64 rfl ?_))))
        obtain ⟨hc10, h⟩ := h
        refine jx_iaload 66 hX hc10 dX4_keep_65 rfl ?_
        obtain ⟨hc11, h⟩ := h
        refine jx_iastore 67 hX hc11 dX4_keep_66 rfl ?_
        refine jx_namu (fun s12 hs12 => ?_)
        have h := h s12 hs12
        obtain ⟨x13, hx13⟩ : ∃ y : Int32, y = a1 + 1 := ⟨_, rfl⟩
        have h := h x13 hx13
        refine jx_iinc 70 hX 1 x13 [(1, .int x13), (0, .ref (D.2.1 a0))] rfl (by rw [hx13]; exact congrArg (fun z => a1 + z) (by decide)) (by decide) rfl dX4_keep_67 rfl (jx_goto 50 hX dX4_keep_70 (by decide) ?_)
        exact jx_sub [1, 0] rfl (ih a0 x13 s12 h)
  unfold wX4_keep at h
  refine jx_aload_n 1 hX 0 rfl rfl dX4_keep_0 rfl (jx_aload_n 2 hX 0 rfl rfl dX4_keep_1 rfl ?_)
  obtain ⟨hc1, h⟩ := h
  refine jx_getI 5 hX jf_X4_174 rfl hc1 dX4_keep_2 rfl (jx_putI 8 hX jp_X4_211 rfl hc1 dX4_keep_5 rfl ?_)
  refine jx_namu (fun s2 hs2 => ?_)
  have h := h s2 hs2
  refine jx_aload_n 9 hX 0 rfl rfl dX4_keep_8 rfl (jx_aload_n 10 hX 0 rfl rfl dX4_keep_9 rfl (jx_getI 13 hX jf_X4_183 rfl hc1 dX4_keep_10 rfl (jx_putI 16 hX jp_X4_214 rfl hc1 dX4_keep_13 rfl ?_)))
  refine jx_namu (fun s3 hs3 => ?_)
  have h := h s3 hs3
  refine jx_aload_n 17 hX 0 rfl rfl dX4_keep_16 rfl (jx_aload_n 18 hX 0 rfl rfl dX4_keep_17 rfl (jx_getI 21 hX jf_X4_91 rfl hc1 dX4_keep_18 rfl (jx_putI 24 hX jp_X4_217 rfl hc1 dX4_keep_21 rfl ?_)))
  refine jx_namu (fun s4 hs4 => ?_)
  have h := h s4 hs4
  refine jx_aload_n 25 hX 0 rfl rfl dX4_keep_24 rfl (jx_aload_n 26 hX 0 rfl rfl dX4_keep_25 rfl (jx_getI 29 hX jf_X4_94 rfl hc1 dX4_keep_26 rfl (jx_putI 32 hX jp_X4_220 rfl hc1 dX4_keep_29 rfl ?_)))
  refine jx_namu (fun s5 hs5 => ?_)
  have h := h s5 hs5
  refine jx_aload_n 33 hX 0 rfl rfl dX4_keep_32 rfl (jx_aload_n 34 hX 0 rfl rfl dX4_keep_33 rfl (jx_getI 37 hX jf_X4_97 rfl hc1 dX4_keep_34 rfl (jx_putI 40 hX jp_X4_223 rfl hc1 dX4_keep_37 rfl ?_)))
  refine jx_namu (fun s6 hs6 => ?_)
  have h := h s6 hs6
  refine jx_aload_n 41 hX 0 rfl rfl dX4_keep_40 rfl (jx_aload_n 42 hX 0 rfl rfl dX4_keep_41 rfl (jx_getI 45 hX jf_X4_100 rfl hc1 dX4_keep_42 rfl (jx_putI 48 hX jp_X4_226 rfl hc1 dX4_keep_45 rfl ?_)))
  refine jx_namu (fun s7 hs7 => ?_)
  have h := h s7 hs7
  refine jx_iconst 49 hX 0 (by decide) dX4_keep_48 rfl (jx_istore_n 50 hX [(1, .int 0), (0, .ref (D.2.1 a0))] rfl (by decide) rfl dX4_keep_49 rfl ?_)
  obtain ⟨n_, h⟩ := h
  exact jx_sub [1, 0] rfl (l50 n_ a0 0 s7 h)
set_option maxHeartbeats 4000000 in
set_option maxRecDepth 100000 in
theorem mX4_least (l : Launch) (D : jx_Dt) (post : Int32 → jx_St → Prop) (a0 : Nat) (a1 : Int32) (s : jx_St) (h : wX4_least post a0 a1 s) : jx_Met l yX4_least cX4_least 5 (some .int) (jx_r 1 26) D jx_LM [.ref (D.2.1 a0), .int a1] s (jx_Qi D jx_LM post) := by
  refine jx_ofJ (by decide) (Nat.le_of_ble_eq_true rfl) (fun X hl hX => ?_)
  subst hl
  replace hX : jx_K D jx_LM X cX4_least RX4 5 (some .int) (jx_r 1 26) (jx_Qi D jx_LM post) := hX
  show jx_J D jx_LM X 0 [(0, .ref (D.2.1 a0)), (1, .int a1)] [] s
  have l31 : ∀ (n : Nat) (a0 : Nat) (a1 : Int32) (a2 : Int32) (a3 : Int32) (s : jx_St), wX4_least_l31 post n a0 a1 a2 a3 s → jx_J D jx_LM X 31 [(0, .ref (D.2.1 a0)), (1, .int a1), (2, .int a2), (3, .int a3)] [] s := by
    intro n
    induction n with
    | zero => intro a0 a1 a2 a3 s h; exact h.elim
    | succ n ih =>
      intro a0 a1 a2 a3 s h
      rw [wX4_least_l31] at h
      refine jx_iload_n 32 hX 3 rfl rfl dX4_least_31 rfl (jx_aload_n 33 hX 0 rfl rfl dX4_least_32 rfl ?_)
      obtain ⟨hc10, h⟩ := h
      refine jx_getI 36 hX jf_X4_214 rfl hc10 dX4_least_33 rfl ?_
      refine jx_icmp_ge 39 87 hX dX4_least_36 rfl (by decide) (fun hb11 => ?_) (fun hb11 => ?_)
      · have h := h.1 hb11
        refine jx_iload_n 88 hX 2 rfl rfl dX4_least_87 rfl ?_
        exact jx_iret hX dX4_least_88 h
      · have h := h.2 hb11
        refine jx_aload_n 40 hX 0 rfl rfl dX4_least_39 rfl (jx_getR 43 hX jf_X4_34 rfl hc10 dX4_least_40 rfl (jx_bipush 45 hX 10 (by decide) dX4_least_43 rfl (jx_iload_n 46 hX 3 rfl rfl dX4_least_45 rfl (jx_imul 47 hX dX4_least_46 rfl (jx_bipush 49 hX 7 (by decide) dX4_least_47 rfl ?_)))))
        refine jx_iadd 50 hX dX4_least_49 rfl ?_
        obtain ⟨hc12, h⟩ := h
        refine jx_iaload 51 hX hc12 dX4_least_50 rfl ?_
        refine jx_topi (fun x13 hx13 => ?_)
        have h := h x13 hx13
        refine jx_istore 53 hX [(4, .int x13), (0, .ref (D.2.1 a0)), (1, .int a1), (2, .int a2), (3, .int a3)] (by decide) rfl dX4_least_51 rfl (jx_aload_n 54 hX 1 rfl rfl dX4_least_53 rfl (jx_iload_n 55 hX 4 rfl rfl dX4_least_54 rfl (jx_iload_n 56 hX 2 rfl rfl dX4_least_55 rfl ?_)))
        refine jx_callVi 59 hX (mX4_isActive _ D _ a0 a3 a1 s h) jv_X4_244 jn_4 hc10 ⟨rfl, rfl, by decide, by decide⟩ rfl rfl (Nat.le_of_ble_eq_true rfl) dX4_least_56 rfl (fun r14 s15 h => ?_)
        obtain ⟨hz16, h⟩ := h
        have h := h hz16
        refine jx_if_eq 62 79 hX dX4_least_59 rfl (by decide) (fun hb17 => ?_) (fun hb17 => ?_)
        · have h := h.1 hb17
          refine jx_iload_n 80 hX 3 rfl rfl dX4_least_79 rfl (jx_istore_n 81 hX [(2, .int a2), (4, .int x13), (0, .ref (D.2.1 a0)), (1, .int a1), (3, .int a3)] rfl (by decide) rfl dX4_least_80 rfl ?_)
          obtain ⟨x18, hx18⟩ : ∃ y : Int32, y = a3 + 1 := ⟨_, rfl⟩
          have h := h x18 hx18
          refine jx_iinc 84 hX 4 x18 [(3, .int x18), (2, .int a2), (4, .int x13), (0, .ref (D.2.1 a0)), (1, .int a1)] rfl (by rw [hx18]; exact congrArg (fun z => a3 + z) (by decide)) (by decide) rfl dX4_least_81 rfl (jx_goto 31 hX dX4_least_84 (by decide) ?_)
          exact jx_sub [3, 4, 1, 0] rfl (ih a0 a1 a2 x18 s15 h)
        · have h := h.2 hb17
          refine jx_iload 64 hX 0 rfl dX4_least_62 rfl (jx_iconst 65 hX (-1) (by decide) dX4_least_64 rfl ?_)
          refine jx_icmp_eq 68 79 hX dX4_least_65 rfl (by decide) (fun hb19 => ?_) (fun hb19 => ?_)
          · have h := h.1 hb19
            refine jx_iload_n 80 hX 3 rfl rfl dX4_least_79 rfl (jx_istore_n 81 hX [(2, .int a2), (4, .int x13), (0, .ref (D.2.1 a0)), (1, .int a1), (3, .int a3)] rfl (by decide) rfl dX4_least_80 rfl ?_)
            obtain ⟨x20, hx20⟩ : ∃ y : Int32, y = a3 + 1 := ⟨_, rfl⟩
            have h := h x20 hx20
            refine jx_iinc 84 hX 4 x20 [(3, .int x20), (2, .int a2), (4, .int x13), (0, .ref (D.2.1 a0)), (1, .int a1)] rfl (by rw [hx20]; exact congrArg (fun z => a3 + z) (by decide)) (by decide) rfl dX4_least_81 rfl (jx_goto 31 hX dX4_least_84 (by decide) ?_)
            exact jx_sub [3, 4, 1, 0] rfl (ih a0 a1 a2 x20 s15 h)
          · have h := h.2 hb19
            refine jx_iload 70 hX 0 rfl dX4_least_68 rfl (jx_iload_n 71 hX 3 rfl rfl dX4_least_70 rfl ?_)
            refine jx_icmp_ge 74 79 hX dX4_least_71 rfl (by decide) (fun hb21 => ?_) (fun hb21 => ?_)
            · have h := h.1 hb21
              refine jx_iload_n 80 hX 3 rfl rfl dX4_least_79 rfl (jx_istore_n 81 hX [(2, .int a2), (4, .int x13), (0, .ref (D.2.1 a0)), (1, .int a1), (3, .int a3)] rfl (by decide) rfl dX4_least_80 rfl ?_)
              obtain ⟨x22, hx22⟩ : ∃ y : Int32, y = a3 + 1 := ⟨_, rfl⟩
              have h := h x22 hx22
              refine jx_iinc 84 hX 4 x22 [(3, .int x22), (2, .int a2), (4, .int x13), (0, .ref (D.2.1 a0)), (1, .int a1)] rfl (by rw [hx22]; exact congrArg (fun z => a3 + z) (by decide)) (by decide) rfl dX4_least_81 rfl (jx_goto 31 hX dX4_least_84 (by decide) ?_)
              exact jx_sub [3, 4, 1, 0] rfl (ih a0 a1 a2 x22 s15 h)
            · have h := h.2 hb21
              refine jx_iload 76 hX 0 rfl dX4_least_74 rfl (jx_goto 80 hX dX4_least_76 (by decide) (jx_istore_n 81 hX [(2, .int x13), (4, .int x13), (0, .ref (D.2.1 a0)), (1, .int a1), (3, .int a3)] rfl (by decide) rfl dX4_least_80 rfl ?_))
              obtain ⟨x23, hx23⟩ : ∃ y : Int32, y = a3 + 1 := ⟨_, rfl⟩
              have h := h x23 hx23
              refine jx_iinc 84 hX 4 x23 [(3, .int x23), (2, .int x13), (4, .int x13), (0, .ref (D.2.1 a0)), (1, .int a1)] rfl (by rw [hx23]; exact congrArg (fun z => a3 + z) (by decide)) (by decide) rfl dX4_least_81 rfl (jx_goto 31 hX dX4_least_84 (by decide) ?_)
              exact jx_sub [3, 4, 1, 0] rfl (ih a0 a1 x13 x23 s15 h)
  unfold wX4_least at h
  refine jx_aload_n 1 hX 0 rfl rfl dX4_least_0 rfl (jx_iload_n 2 hX 1 rfl rfl dX4_least_1 rfl ?_)
  obtain ⟨hc1, h⟩ := h
  refine jx_callVi 5 hX (mX4_isMinute _ D _ a0 a1 s h) jv_X4_235 jn_4 hc1 ⟨rfl, rfl, by decide, by decide⟩ rfl rfl (Nat.le_of_ble_eq_true rfl) dX4_least_2 rfl (fun r2 s3 h => ?_)
  obtain ⟨hz4, h⟩ := h
  have h := h hz4
  refine jx_if_ne 8 10 hX dX4_least_5 rfl (by decide) (fun hb5 => ?_) (fun hb5 => ?_)
  · have h := h.1 hb5
    refine jx_aload_n 11 hX 0 rfl rfl dX4_least_10 rfl (jx_getR 14 hX jf_X4_34 rfl hc1 dX4_least_11 rfl (jx_bipush 16 hX 10 (by decide) dX4_least_14 rfl (jx_aload_n 17 hX 0 rfl rfl dX4_least_16 rfl (jx_iload_n 18 hX 1 rfl rfl dX4_least_17 rfl (jx_bipush 20 hX 7 (by decide) dX4_least_18 rfl ?_)))))
    refine jx_callVi 23 hX (mX4_teller _ D _ a0 a1 7 s3 h) jv_X4_241 jn_4 hc1 ⟨rfl, rfl, by decide, by decide⟩ rfl rfl (Nat.le_of_ble_eq_true rfl) dX4_least_20 rfl (fun r6 s7 h => ?_)
    refine jx_imul 24 hX dX4_least_23 rfl (jx_bipush 26 hX 7 (by decide) dX4_least_24 rfl (jx_iadd 27 hX dX4_least_26 rfl ?_))
    obtain ⟨hc8, h⟩ := h
    refine jx_iaload 28 hX hc8 dX4_least_27 rfl ?_
    refine jx_topi (fun x9 hx9 => ?_)
    have h := h x9 hx9
    refine jx_istore_n 29 hX [(2, .int x9), (0, .ref (D.2.1 a0)), (1, .int a1)] rfl (by decide) rfl dX4_least_28 rfl (jx_iconst 30 hX 1 (by decide) dX4_least_29 rfl (jx_istore_n 31 hX [(3, .int 1), (2, .int x9), (0, .ref (D.2.1 a0)), (1, .int a1)] rfl (by decide) rfl dX4_least_30 rfl ?_))
    obtain ⟨n_, h⟩ := h
    exact jx_sub [2, 3, 1, 0] rfl (l31 n_ a0 a1 x9 1 s7 h)
  · have h := h.2 hb5
    refine jx_iconst 9 hX (-1) (by decide) dX4_least_8 rfl ?_
    exact jx_iret hX dX4_least_9 h
set_option maxHeartbeats 4000000 in
set_option maxRecDepth 100000 in
theorem mX4_next (l : Launch) (D : jx_Dt) (post : Int32 → jx_St → Prop) (a0 : Nat) (a1 : Int32) (s : jx_St) (h : wX4_next post a0 a1 s) : jx_Met l yX4_next cX4_next 3 (some .int) (jx_r 2 49) D jx_LM [.ref (D.2.1 a0), .int a1] s (jx_Qi D jx_LM post) := by
  refine jx_ofJ (by decide) (Nat.le_of_ble_eq_true rfl) (fun X hl hX => ?_)
  subst hl
  replace hX : jx_K D jx_LM X cX4_next RX4 3 (some .int) (jx_r 2 49) (jx_Qi D jx_LM post) := hX
  show jx_J D jx_LM X 0 [(0, .ref (D.2.1 a0)), (1, .int a1)] [] s
  have l14 : ∀ (n : Nat) (a0 : Nat) (a2 : Int32) (s : jx_St), wX4_next_l14 post n a0 a2 s → jx_J D jx_LM X 14 [(0, .ref (D.2.1 a0)), (2, .int a2)] [] s := by
    intro n
    induction n with
    | zero => intro a0 a2 s h; exact h.elim
    | succ n ih =>
      intro a0 a2 s h
      rw [wX4_next_l14] at h
      refine jx_iload_n 15 hX 1 rfl rfl dX4_next_14 rfl (jx_aload_n 16 hX 0 rfl rfl dX4_next_15 rfl ?_)
      obtain ⟨hc7, h⟩ := h
      refine jx_getR 19 hX jf_X4_34 rfl hc7 dX4_next_16 rfl (jx_iconst 20 hX 3 (by decide) dX4_next_19 rfl ?_)
      obtain ⟨hc8, h⟩ := h
      refine jx_iaload 21 hX hc8 dX4_next_20 rfl ?_
      refine jx_icmp_ge 24 40 hX dX4_next_21 rfl (by decide) (fun hb9 => ?_) (fun hb9 => ?_)
      · have h := h.1 hb9
        refine jx_iconst 41 hX (-1) (by decide) dX4_next_40 rfl ?_
        exact jx_iret hX dX4_next_41 h
      · have h := h.2 hb9
        refine jx_aload_n 25 hX 0 rfl rfl dX4_next_24 rfl (jx_iload_n 26 hX 1 rfl rfl dX4_next_25 rfl ?_)
        refine jx_callVi 29 hX (mX4_isOther _ D _ a0 a2 s h) jv_X4_250 jn_4 hc7 ⟨rfl, rfl, by decide, by decide⟩ rfl rfl (Nat.le_of_ble_eq_true rfl) dX4_next_26 rfl (fun r10 s11 h => ?_)
        obtain ⟨hz12, h⟩ := h
        have h := h hz12
        refine jx_if_eq 32 34 hX dX4_next_29 rfl (by decide) (fun hb13 => ?_) (fun hb13 => ?_)
        · have h := h.1 hb13
          obtain ⟨x14, hx14⟩ : ∃ y : Int32, y = a2 + 1 := ⟨_, rfl⟩
          have h := h x14 hx14
          refine jx_iinc 37 hX 1 x14 [(2, .int x14), (0, .ref (D.2.1 a0))] rfl (by rw [hx14]; exact congrArg (fun z => a2 + z) (by decide)) (by decide) rfl dX4_next_34 rfl (jx_goto 14 hX dX4_next_37 (by decide) ?_)
          exact jx_sub [1, 0] rfl (ih a0 x14 s11 h)
        · have h := h.2 hb13
          refine jx_iload_n 33 hX 1 rfl rfl dX4_next_32 rfl ?_
          exact jx_iret hX dX4_next_33 h
  unfold wX4_next at h
  refine jx_aload_n 1 hX 0 rfl rfl dX4_next_0 rfl (jx_iload_n 2 hX 1 rfl rfl dX4_next_1 rfl ?_)
  obtain ⟨hc1, h⟩ := h
  refine jx_callVi 5 hX (mX4_isMinute _ D _ a0 a1 s h) jv_X4_235 jn_4 hc1 ⟨rfl, rfl, by decide, by decide⟩ rfl rfl (Nat.le_of_ble_eq_true rfl) dX4_next_2 rfl (fun r2 s3 h => ?_)
  obtain ⟨hz4, h⟩ := h
  have h := h hz4
  refine jx_if_ne 8 10 hX dX4_next_5 rfl (by decide) (fun hb5 => ?_) (fun hb5 => ?_)
  · have h := h.1 hb5
    refine jx_iload_n 11 hX 1 rfl rfl dX4_next_10 rfl (jx_iconst 12 hX 1 (by decide) dX4_next_11 rfl (jx_iadd 13 hX dX4_next_12 rfl ?_))
    refine jx_topi (fun x6 hx6 => ?_)
    have h := h x6 hx6
    refine jx_istore_n 14 hX [(2, .int x6), (0, .ref (D.2.1 a0)), (1, .int a1)] rfl (by decide) rfl dX4_next_13 rfl ?_
    obtain ⟨n_, h⟩ := h
    exact jx_sub [1, 0] rfl (l14 n_ a0 x6 s3 h)
  · have h := h.2 hb5
    refine jx_iconst 9 hX (-1) (by decide) dX4_next_8 rfl ?_
    exact jx_iret hX dX4_next_9 h
set_option maxHeartbeats 4000000 in
set_option maxRecDepth 100000 in
theorem mX4_print (l : Launch) (D : jx_Dt) (post : Int32 → jx_St → Prop) (a0 : Nat) (s : jx_St) (h : wX4_print post a0 s) : jx_Met l yX4_print cX4_print 2 (some .int) (jx_r 0 0) D jx_LM [.ref (D.2.1 a0)] s (jx_Qi D jx_LM post) := by
  refine jx_ofJ (by decide) (Nat.le_of_ble_eq_true rfl) (fun X hl hX => ?_)
  subst hl
  replace hX : jx_K D jx_LM X cX4_print RX4 2 (some .int) (jx_r 0 0) (jx_Qi D jx_LM post) := hX
  show jx_J D jx_LM X 0 [(0, .ref (D.2.1 a0))] [] s
  have l21 : ∀ (n : Nat) (a0 : Nat) (a1 : Int32) (s : jx_St), wX4_print_l21 post n a0 a1 s → jx_J D jx_LM X 21 [(0, .ref (D.2.1 a0)), (1, .int a1)] [] s := by
    intro n
    induction n with
    | zero => intro a0 a1 s h; exact h.elim
    | succ n ih =>
      intro a0 a1 s h
      rw [wX4_print_l21] at h
      refine jx_iload_n 22 hX 1 rfl rfl dX4_print_21 rfl (jx_aload_n 23 hX 0 rfl rfl dX4_print_22 rfl ?_)
      obtain ⟨hc5, h⟩ := h
      refine jx_getI 26 hX jf_X4_253 rfl hc5 dX4_print_23 rfl ?_
      refine jx_icmp_ge 29 47 hX dX4_print_26 rfl (by decide) (fun hb6 => ?_) (fun hb6 => ?_)
      · have h := h.1 hb6
        refine jx_aload_n 48 hX 0 rfl rfl dX4_print_47 rfl (jx_getI 51 hX jf_X4_253 rfl hc5 dX4_print_48 rfl ?_)
        exact jx_iret hX dX4_print_51 h
      · have h := h.2 hb6
        refine jx_aload_n 30 hX 0 rfl rfl dX4_print_29 rfl (jx_getR 33 hX jf_X4_46 rfl hc5 dX4_print_30 rfl (jx_iload_n 34 hX 1 rfl rfl dX4_print_33 rfl (jx_aload_n 35 hX 0 rfl rfl dX4_print_34 rfl (jx_getR 38 hX jf_X4_43 rfl hc5 dX4_print_35 rfl (jx_iload_n 39 hX 1 rfl rfl dX4_print_38 rfl ?_)))))
        obtain ⟨hc7, h⟩ := h
        refine jx_iaload 40 hX hc7 dX4_print_39 rfl ?_
        obtain ⟨hc8, h⟩ := h
        refine jx_iastore 41 hX hc8 dX4_print_40 rfl ?_
        refine jx_namu (fun s9 hs9 => ?_)
        have h := h s9 hs9
        obtain ⟨x10, hx10⟩ : ∃ y : Int32, y = a1 + 1 := ⟨_, rfl⟩
        have h := h x10 hx10
        refine jx_iinc 44 hX 1 x10 [(1, .int x10), (0, .ref (D.2.1 a0))] rfl (by rw [hx10]; exact congrArg (fun z => a1 + z) (by decide)) (by decide) rfl dX4_print_41 rfl (jx_goto 21 hX dX4_print_44 (by decide) ?_)
        exact jx_sub [1, 0] rfl (ih a0 x10 s9 h)
  unfold wX4_print at h
  refine jx_aload_n 1 hX 0 rfl rfl dX4_print_0 rfl (jx_aload_n 2 hX 0 rfl rfl dX4_print_1 rfl ?_)
  obtain ⟨hc1, h⟩ := h
  refine jx_getI 5 hX jf_X4_211 rfl hc1 dX4_print_2 rfl ?_
  refine jx_if_ne 8 12 hX dX4_print_5 rfl (by decide) (fun hb2 => ?_) (fun hb2 => ?_)
  · have h := h.1 hb2
    refine jx_aload_n 13 hX 0 rfl rfl dX4_print_12 rfl (jx_getI 16 hX jf_X4_229 rfl hc1 dX4_print_13 rfl (jx_putI 19 hX jp_X4_253 rfl hc1 dX4_print_16 rfl ?_))
    refine jx_namu (fun s3 hs3 => ?_)
    have h := h s3 hs3
    refine jx_iconst 20 hX 0 (by decide) dX4_print_19 rfl (jx_istore_n 21 hX [(1, .int 0), (0, .ref (D.2.1 a0))] rfl (by decide) rfl dX4_print_20 rfl ?_)
    obtain ⟨n_, h⟩ := h
    exact jx_sub [1, 0] rfl (l21 n_ a0 0 s3 h)
  · have h := h.2 hb2
    refine jx_iconst 9 hX 0 (by decide) dX4_print_8 rfl (jx_goto 16 hX dX4_print_9 (by decide) (jx_putI 19 hX jp_X4_253 rfl hc1 dX4_print_16 rfl ?_))
    refine jx_namu (fun s4 hs4 => ?_)
    have h := h s4 hs4
    refine jx_iconst 20 hX 0 (by decide) dX4_print_19 rfl (jx_istore_n 21 hX [(1, .int 0), (0, .ref (D.2.1 a0))] rfl (by decide) rfl dX4_print_20 rfl ?_)
    obtain ⟨n_, h⟩ := h
    exact jx_sub [1, 0] rfl (l21 n_ a0 0 s4 h)
set_option maxHeartbeats 4000000 in
set_option maxRecDepth 100000 in
theorem mX4_split (l : Launch) (D : jx_Dt) (post : jx_St → Prop) (a0 : Nat) (s : jx_St) (h : wX4_split post a0 s) : jx_Met l yX4_split cX4_split 2 none (jx_r 0 0) D jx_LM [.ref (D.2.1 a0)] s (jx_Qv D jx_LM post) := by
  refine jx_ofJ (by decide) (Nat.le_of_ble_eq_true rfl) (fun X hl hX => ?_)
  subst hl
  replace hX : jx_K D jx_LM X cX4_split RX4 2 none (jx_r 0 0) (jx_Qv D jx_LM post) := hX
  show jx_J D jx_LM X 0 [(0, .ref (D.2.1 a0))] [] s
  have b67 : ∀ (k7_ : Nat → Int32 → jx_St → Prop) (hk7_ : ∀ (a0 : Nat) (a1 : Int32) (s : jx_St), k7_ a0 a1 s → jx_J D jx_LM X 7 [(0, .ref (D.2.1 a0)), (1, .int a1)] [] s) (a0 : Nat) (a1 : Int32) (s : jx_St), wX4_split_b67 post k7_ a0 a1 s → jx_J D jx_LM X 67 [(0, .ref (D.2.1 a0)), (1, .int a1)] [] s := by
    intro k7_ hk7_ a0 a1 s h
    unfold wX4_split_b67 at h
    refine jx_aload_n 68 hX 0 rfl rfl dX4_split_67 rfl ?_
    obtain ⟨hc15, h⟩ := h
    refine jx_getR 71 hX jf_X4_16 rfl hc15 dX4_split_68 rfl (jx_aload_n 72 hX 0 rfl rfl dX4_split_71 rfl (jx_getI 75 hX jf_X4_59 rfl hc15 dX4_split_72 rfl (jx_iload_n 76 hX 1 rfl rfl dX4_split_75 rfl ?_)))
    obtain ⟨hc16, h⟩ := h
    refine jx_iastore 77 hX hc16 dX4_split_76 rfl ?_
    refine jx_namu (fun s17 hs17 => ?_)
    have h := h s17 hs17
    refine jx_aload_n 78 hX 0 rfl rfl dX4_split_77 rfl (jx_dup 79 hX rfl dX4_split_78 rfl (jx_getI 82 hX jf_X4_59 rfl hc15 dX4_split_79 rfl (jx_iconst 83 hX 1 (by decide) dX4_split_82 rfl (jx_iadd 84 hX dX4_split_83 rfl (jx_putI 87 hX jp_X4_59 rfl hc15 dX4_split_84 rfl ?_)))))
    refine jx_namu (fun s18 hs18 => ?_)
    have h := h s18 hs18
    refine jx_goto 7 hX dX4_split_87 (by decide) ?_
    exact jx_sub [0, 1] rfl (hk7_ a0 a1 s18 h)
  have l42 : ∀ (k7_ : Nat → Int32 → jx_St → Prop) (hk7_ : ∀ (a0 : Nat) (a1 : Int32) (s : jx_St), k7_ a0 a1 s → jx_J D jx_LM X 7 [(0, .ref (D.2.1 a0)), (1, .int a1)] [] s) (n : Nat) (a0 : Nat) (a1 : Int32) (s : jx_St), wX4_split_l42 post k7_ n a0 a1 s → jx_J D jx_LM X 42 [(0, .ref (D.2.1 a0)), (1, .int a1)] [] s := by
    intro k7_ hk7_ n
    induction n with
    | zero => intro a0 a1 s h; exact h.elim
    | succ n ih =>
      intro a0 a1 s h
      rw [wX4_split_l42] at h
      refine jx_iload_n 43 hX 1 rfl rfl dX4_split_42 rfl (jx_aload_n 44 hX 0 rfl rfl dX4_split_43 rfl ?_)
      obtain ⟨hc10, h⟩ := h
      refine jx_getI 47 hX jf_X4_49 rfl hc10 dX4_split_44 rfl ?_
      refine jx_icmp_ge 50 67 hX dX4_split_47 rfl (by decide) (fun hb11 => ?_) (fun hb11 => ?_)
      · have h := h.1 hb11
        exact jx_sub [0, 1] rfl (b67 _ hk7_ a0 a1 s h)
      · have h := h.2 hb11
        refine jx_aload_n 51 hX 0 rfl rfl dX4_split_50 rfl (jx_getR 54 hX jf_X4_7 rfl hc10 dX4_split_51 rfl (jx_iload_n 55 hX 1 rfl rfl dX4_split_54 rfl ?_))
        obtain ⟨hc12, h⟩ := h
        refine jx_iaload 56 hX hc12 dX4_split_55 rfl (jx_bipush 58 hX 32 (by decide) dX4_split_56 rfl ?_)
        refine jx_icmp_eq 61 67 hX dX4_split_58 rfl (by decide) (fun hb13 => ?_) (fun hb13 => ?_)
        · have h := h.1 hb13
          exact jx_sub [0, 1] rfl (b67 _ hk7_ a0 a1 s h)
        · have h := h.2 hb13
          obtain ⟨x14, hx14⟩ : ∃ y : Int32, y = a1 + 1 := ⟨_, rfl⟩
          have h := h x14 hx14
          refine jx_iinc 64 hX 1 x14 [(1, .int x14), (0, .ref (D.2.1 a0))] rfl (by rw [hx14]; exact congrArg (fun z => a1 + z) (by decide)) (by decide) rfl dX4_split_61 rfl (jx_goto 42 hX dX4_split_64 (by decide) ?_)
          exact jx_sub [1, 0] rfl (ih a0 x14 s h)
  have l7 : ∀ (n : Nat) (a0 : Nat) (a1 : Int32) (s : jx_St), wX4_split_l7 post n a0 a1 s → jx_J D jx_LM X 7 [(0, .ref (D.2.1 a0)), (1, .int a1)] [] s := by
    intro n
    induction n with
    | zero => intro a0 a1 s h; exact h.elim
    | succ n ih =>
      intro a0 a1 s h
      rw [wX4_split_l7] at h
      refine jx_iload_n 8 hX 1 rfl rfl dX4_split_7 rfl (jx_aload_n 9 hX 0 rfl rfl dX4_split_8 rfl ?_)
      obtain ⟨hc3, h⟩ := h
      refine jx_getI 12 hX jf_X4_49 rfl hc3 dX4_split_9 rfl ?_
      refine jx_icmp_ge 15 90 hX dX4_split_12 rfl (by decide) (fun hb4 => ?_) (fun hb4 => ?_)
      · have h := h.1 hb4
        exact jx_vret hX dX4_split_90 h
      · have h := h.2 hb4
        refine jx_aload_n 16 hX 0 rfl rfl dX4_split_15 rfl (jx_getR 19 hX jf_X4_7 rfl hc3 dX4_split_16 rfl (jx_iload_n 20 hX 1 rfl rfl dX4_split_19 rfl ?_))
        obtain ⟨hc5, h⟩ := h
        refine jx_iaload 21 hX hc5 dX4_split_20 rfl (jx_bipush 23 hX 32 (by decide) dX4_split_21 rfl ?_)
        refine jx_icmp_ne 26 32 hX dX4_split_23 rfl (by decide) (fun hb6 => ?_) (fun hb6 => ?_)
        · have h := h.1 hb6
          refine jx_aload_n 33 hX 0 rfl rfl dX4_split_32 rfl (jx_getR 36 hX jf_X4_13 rfl hc3 dX4_split_33 rfl (jx_aload_n 37 hX 0 rfl rfl dX4_split_36 rfl (jx_getI 40 hX jf_X4_59 rfl hc3 dX4_split_37 rfl (jx_iload_n 41 hX 1 rfl rfl dX4_split_40 rfl ?_))))
          obtain ⟨hc7, h⟩ := h
          refine jx_iastore 42 hX hc7 dX4_split_41 rfl ?_
          refine jx_namu (fun s8 hs8 => ?_)
          have h := h s8 hs8
          obtain ⟨n_, h⟩ := h
          exact jx_sub [0, 1] rfl (l42 _ (fun z0 z1 zs hz => ih z0 z1 zs hz) n_ a0 a1 s8 h)
        · have h := h.2 hb6
          obtain ⟨x9, hx9⟩ : ∃ y : Int32, y = a1 + 1 := ⟨_, rfl⟩
          have h := h x9 hx9
          refine jx_iinc 29 hX 1 x9 [(1, .int x9), (0, .ref (D.2.1 a0))] rfl (by rw [hx9]; exact congrArg (fun z => a1 + z) (by decide)) (by decide) rfl dX4_split_26 rfl (jx_goto 7 hX dX4_split_29 (by decide) ?_)
          exact jx_sub [1, 0] rfl (ih a0 x9 s h)
  unfold wX4_split at h
  refine jx_aload_n 1 hX 0 rfl rfl dX4_split_0 rfl (jx_iconst 2 hX 0 (by decide) dX4_split_1 rfl ?_)
  obtain ⟨hc1, h⟩ := h
  refine jx_putI 5 hX jp_X4_59 rfl hc1 dX4_split_2 rfl ?_
  refine jx_namu (fun s2 hs2 => ?_)
  have h := h s2 hs2
  refine jx_iconst 6 hX 0 (by decide) dX4_split_5 rfl (jx_istore_n 7 hX [(1, .int 0), (0, .ref (D.2.1 a0))] rfl (by decide) rfl dX4_split_6 rfl ?_)
  obtain ⟨n_, h⟩ := h
  exact jx_sub [1, 0] rfl (l7 n_ a0 0 s2 h)
set_option maxHeartbeats 4000000 in
set_option maxRecDepth 100000 in
theorem mX4_report (l : Launch) (D : jx_Dt) (post : Int32 → jx_St → Prop) (a0 : Nat) (s : jx_St) (h : wX4_report post a0 s) : jx_Met l yX4_report cX4_report 1 (some .boolean) (jx_r 6 134) D jx_LM [.ref (D.2.1 a0)] s (jx_Qi D jx_LM (fun r u => (r = 0 ∨ r = 1) ∧ post r u)) := by
  refine jx_ofJ (by decide) (Nat.le_of_ble_eq_true rfl) (fun X hl hX => ?_)
  subst hl
  replace hX : jx_K D jx_LM X cX4_report RX4 1 (some .boolean) (jx_r 6 134) (jx_Qi D jx_LM (fun r u => (r = 0 ∨ r = 1) ∧ post r u)) := hX
  show jx_J D jx_LM X 0 [(0, .ref (D.2.1 a0))] [] s
  unfold wX4_report at h
  refine jx_aload_n 1 hX 0 rfl rfl dX4_report_0 rfl (jx_iconst 2 hX 1 (by decide) dX4_report_1 rfl ?_)
  obtain ⟨hc1, h⟩ := h
  refine jx_putI 5 hX jp_X4_174 rfl hc1 dX4_report_2 rfl ?_
  refine jx_namu (fun s2 hs2 => ?_)
  have h := h s2 hs2
  refine jx_aload_n 6 hX 0 rfl rfl dX4_report_5 rfl ?_
  refine jx_callVi 9 hX (mX4_station _ D _ a0 s2 h) jv_X4_177 jn_4 hc1 ⟨rfl, rfl, by decide, by decide⟩ rfl rfl (Nat.le_of_ble_eq_true rfl) dX4_report_6 rfl (fun r3 s4 h => ?_)
  obtain ⟨hz5, h⟩ := h
  have h := h hz5
  refine jx_if_eq 12 46 hX dX4_report_9 rfl (by decide) (fun hb6 => ?_) (fun hb6 => ?_)
  · have h := h.1 hb6
    refine jx_iconst 47 hX 0 (by decide) dX4_report_46 rfl ?_
    exact jx_zret hX dX4_report_47 (by decide) h
  · have h := h.2 hb6
    refine jx_aload_n 13 hX 0 rfl rfl dX4_report_12 rfl ?_
    refine jx_callVi 16 hX (mX4_issued _ D _ a0 s4 h) jv_X4_180 jn_4 hc1 ⟨rfl, rfl, by decide, by decide⟩ rfl rfl (Nat.le_of_ble_eq_true rfl) dX4_report_13 rfl (fun r7 s8 h => ?_)
    obtain ⟨hz9, h⟩ := h
    have h := h hz9
    refine jx_if_eq 19 46 hX dX4_report_16 rfl (by decide) (fun hb10 => ?_) (fun hb10 => ?_)
    · have h := h.1 hb10
      refine jx_iconst 47 hX 0 (by decide) dX4_report_46 rfl ?_
      exact jx_zret hX dX4_report_47 (by decide) h
    · have h := h.2 hb10
      refine jx_aload_n 20 hX 0 rfl rfl dX4_report_19 rfl (jx_iconst 21 hX 0 (by decide) dX4_report_20 rfl ?_)
      refine jx_callVi 24 hX (mX4_wind _ D _ a0 0 s8 h) jv_X4_145 jn_4 hc1 ⟨rfl, rfl, by decide, by decide⟩ rfl rfl (Nat.le_of_ble_eq_true rfl) dX4_report_21 rfl (fun r11 s12 h => ?_)
      obtain ⟨hz13, h⟩ := h
      have h := h hz13
      refine jx_if_eq 27 46 hX dX4_report_24 rfl (by decide) (fun hb14 => ?_) (fun hb14 => ?_)
      · have h := h.1 hb14
        refine jx_iconst 47 hX 0 (by decide) dX4_report_46 rfl ?_
        exact jx_zret hX dX4_report_47 (by decide) h
      · have h := h.2 hb14
        refine jx_aload_n 28 hX 0 rfl rfl dX4_report_27 rfl (jx_iconst 29 hX 0 (by decide) dX4_report_28 rfl ?_)
        refine jx_callVi 32 hX (mX4_sky _ D _ a0 0 s12 h) jv_X4_157 jn_4 hc1 ⟨rfl, rfl, by decide, by decide⟩ rfl rfl (Nat.le_of_ble_eq_true rfl) dX4_report_29 rfl (fun r15 s16 h => ?_)
        obtain ⟨hz17, h⟩ := h
        have h := h hz17
        refine jx_if_eq 35 46 hX dX4_report_32 rfl (by decide) (fun hb18 => ?_) (fun hb18 => ?_)
        · have h := h.1 hb18
          refine jx_iconst 47 hX 0 (by decide) dX4_report_46 rfl ?_
          exact jx_zret hX dX4_report_47 (by decide) h
        · have h := h.2 hb18
          refine jx_aload_n 36 hX 0 rfl rfl dX4_report_35 rfl ?_
          refine jx_callVi 39 hX (mX4_ends _ D _ a0 s16 h) jv_X4_189 jn_4 hc1 ⟨rfl, rfl, by decide, by decide⟩ rfl rfl (Nat.le_of_ble_eq_true rfl) dX4_report_36 rfl (fun r19 s20 h => ?_)
          obtain ⟨hz21, h⟩ := h
          have h := h hz21
          refine jx_if_eq 42 46 hX dX4_report_39 rfl (by decide) (fun hb22 => ?_) (fun hb22 => ?_)
          · have h := h.1 hb22
            refine jx_iconst 47 hX 0 (by decide) dX4_report_46 rfl ?_
            exact jx_zret hX dX4_report_47 (by decide) h
          · have h := h.2 hb22
            refine jx_iconst 43 hX 1 (by decide) dX4_report_42 rfl (jx_goto 47 hX dX4_report_43 (by decide) ?_)
            exact jx_zret hX dX4_report_47 (by decide) h
set_option maxHeartbeats 4000000 in
set_option maxRecDepth 100000 in
theorem mX4_read (l : Launch) (D : jx_Dt) (post : Int32 → jx_St → Prop) (a0 : Nat) (a1 : Int32) (s : jx_St) (h : wX4_read post a0 a1 s) : jx_Met l yX4_read cX4_read 5 (some .int) (jx_r 8 182) D jx_LM [.ref (D.2.1 a0), .int a1] s (jx_Qi D jx_LM post) := by
  refine jx_ofJ (by decide) (Nat.le_of_ble_eq_true rfl) (fun X hl hX => ?_)
  subst hl
  replace hX : jx_K D jx_LM X cX4_read RX4 5 (some .int) (jx_r 8 182) (jx_Qi D jx_LM post) := hX
  show jx_J D jx_LM X 0 [(0, .ref (D.2.1 a0)), (1, .int a1)] [] s
  have b139 : ∀ (a0 : Nat) (a3 : Int32) (a4 : Int32) (s : jx_St), wX4_read_b139 post a0 a3 a4 s → jx_J D jx_LM X 139 [(0, .ref (D.2.1 a0)), (3, .int a3), (4, .int a4)] [] s := by
    intro a0 a3 a4 s h
    unfold wX4_read_b139 at h
    refine jx_aload_n 140 hX 0 rfl rfl dX4_read_139 rfl (jx_iconst 141 hX 0 (by decide) dX4_read_140 rfl ?_)
    obtain ⟨hc37, h⟩ := h
    refine jx_putI 144 hX jp_X4_49 rfl hc37 dX4_read_141 rfl ?_
    refine jx_namu (fun s38 hs38 => ?_)
    have h := h s38 hs38
    refine jx_iload_n 145 hX 1 rfl rfl dX4_read_144 rfl ?_
    refine jx_if_eq 148 152 hX dX4_read_145 rfl (by decide) (fun hb39 => ?_) (fun hb39 => ?_)
    · have h := h.1 hb39
      refine jx_iload 154 hX 2 rfl dX4_read_152 rfl ?_
      exact jx_iret hX dX4_read_154 h
    · have h := h.2 hb39
      refine jx_iconst 149 hX 0 (by decide) dX4_read_148 rfl (jx_goto 154 hX dX4_read_149 (by decide) ?_)
      exact jx_iret hX dX4_read_154 h
  have b127 : ∀ (a0 : Nat) (a3 : Int32) (k0 : Int32) (s : jx_St), wX4_read_b127 post a0 a3 k0 s → jx_J D jx_LM X 127 [(0, .ref (D.2.1 a0)), (3, .int a3)] [.int k0] s := by
    intro a0 a3 k0 s h
    unfold wX4_read_b127 at h
    refine jx_iconst 128 hX 1 (by decide) dX4_read_127 rfl (jx_iadd 129 hX dX4_read_128 rfl ?_)
    refine jx_topi (fun x32 hx32 => ?_)
    have h := h x32 hx32
    refine jx_istore 131 hX [(4, .int x32), (0, .ref (D.2.1 a0)), (3, .int a3)] (by decide) rfl dX4_read_129 rfl (jx_iload_n 132 hX 2 rfl rfl dX4_read_131 rfl ?_)
    refine jx_if_eq 135 139 hX dX4_read_132 rfl (by decide) (fun hb33 => ?_) (fun hb33 => ?_)
    · have h := h.1 hb33
      exact jx_sub [1, 2, 0] rfl (b139 a0 a3 x32 s h)
    · have h := h.2 hb33
      refine jx_aload_n 136 hX 1 rfl rfl dX4_read_135 rfl ?_
      obtain ⟨hc34, h⟩ := h
      refine jx_callVv 139 hX (mX4_keep _ D _ a0 s h) jv_X4_208 jn_4 hc34 ⟨rfl, rfl, by decide, by decide⟩ rfl rfl (Nat.le_of_ble_eq_true rfl) dX4_read_136 rfl (fun s36 h => ?_)
      exact jx_sub [1, 2, 0] rfl (b139 a0 a3 x32 s36 h)
  have b100 : ∀ (a0 : Nat) (a3 : Int32) (s : jx_St), wX4_read_b100 post a0 a3 s → jx_J D jx_LM X 100 [(0, .ref (D.2.1 a0)), (3, .int a3)] [] s := by
    intro a0 a3 s h
    unfold wX4_read_b100 at h
    refine jx_aload_n 101 hX 0 rfl rfl dX4_read_100 rfl ?_
    obtain ⟨hc29, h⟩ := h
    refine jx_getI 104 hX jf_X4_62 rfl hc29 dX4_read_101 rfl (jx_aload_n 105 hX 0 rfl rfl dX4_read_104 rfl (jx_getI 108 hX jf_X4_59 rfl hc29 dX4_read_105 rfl ?_))
    refine jx_icmp_ge 111 123 hX dX4_read_108 rfl (by decide) (fun hb30 => ?_) (fun hb30 => ?_)
    · have h := h.1 hb30
      refine jx_aload_n 124 hX 0 rfl rfl dX4_read_123 rfl (jx_getI 127 hX jf_X4_49 rfl hc29 dX4_read_124 rfl ?_)
      exact jx_sub [0, 1] rfl (b127 a0 a3 (s.1 a0 1) s h)
    · have h := h.2 hb30
      refine jx_aload_n 112 hX 0 rfl rfl dX4_read_111 rfl (jx_getR 115 hX jf_X4_13 rfl hc29 dX4_read_112 rfl (jx_aload_n 116 hX 0 rfl rfl dX4_read_115 rfl (jx_getI 119 hX jf_X4_62 rfl hc29 dX4_read_116 rfl ?_)))
      obtain ⟨hc31, h⟩ := h
      refine jx_iaload 120 hX hc31 dX4_read_119 rfl (jx_goto 127 hX dX4_read_120 (by decide) ?_)
      exact jx_sub [0, 1] rfl (b127 a0 a3 (s.1 (s.2 a0 2) ((s.1 a0 5) : Int32).toNatClampNeg) s h)
  have b74 : ∀ (a0 : Nat) (a2 : Int32) (k0 : Int32) (s : jx_St), wX4_read_b74 post a0 a2 k0 s → jx_J D jx_LM X 74 [(0, .ref (D.2.1 a0)), (2, .int a2)] [.int k0] s := by
    intro a0 a2 k0 s h
    unfold wX4_read_b74 at h
    refine jx_istore_n 75 hX [(3, .int k0), (0, .ref (D.2.1 a0)), (2, .int a2)] rfl (by decide) rfl dX4_read_74 rfl (jx_iload_n 76 hX 0 rfl rfl dX4_read_75 rfl ?_)
    refine jx_if_eq 79 100 hX dX4_read_76 rfl (by decide) (fun hb19 => ?_) (fun hb19 => ?_)
    · have h := h.1 hb19
      exact jx_sub [1, 0] rfl (b100 a0 k0 s h)
    · have h := h.2 hb19
      refine jx_aload_n 80 hX 1 rfl rfl dX4_read_79 rfl (jx_iconst 81 hX 1 (by decide) dX4_read_80 rfl ?_)
      obtain ⟨hc20, h⟩ := h
      refine jx_putI 84 hX jp_X4_62 rfl hc20 dX4_read_81 rfl ?_
      refine jx_namu (fun s21 hs21 => ?_)
      have h := h s21 hs21
      refine jx_iload_n 85 hX 2 rfl rfl dX4_read_84 rfl ?_
      refine jx_if_eq 88 95 hX dX4_read_85 rfl (by decide) (fun hb22 => ?_) (fun hb22 => ?_)
      · have h := h.1 hb22
        refine jx_aload_n 96 hX 1 rfl rfl dX4_read_95 rfl ?_
        refine jx_callVi 99 hX (mX4_forecast _ D _ a0 s21 h) jv_X4_205 jn_4 hc20 ⟨rfl, rfl, by decide, by decide⟩ rfl rfl (Nat.le_of_ble_eq_true rfl) dX4_read_96 rfl (fun r23 s24 h => ?_)
        obtain ⟨hz25, h⟩ := h
        have h := h hz25
        refine jx_istore_n 100 hX [(3, .int r23), (0, .ref (D.2.1 a0)), (2, .int a2)] rfl (by decide) rfl dX4_read_99 rfl ?_
        exact jx_sub [1, 0] rfl (b100 a0 r23 s24 h)
      · have h := h.2 hb22
        refine jx_aload_n 89 hX 1 rfl rfl dX4_read_88 rfl ?_
        refine jx_callVi 92 hX (mX4_report _ D _ a0 s21 h) jv_X4_202 jn_4 hc20 ⟨rfl, rfl, by decide, by decide⟩ rfl rfl (Nat.le_of_ble_eq_true rfl) dX4_read_89 rfl (fun r26 s27 h => ?_)
        obtain ⟨hz28, h⟩ := h
        have h := h hz28
        refine jx_goto 99 hX dX4_read_92 (by decide) (jx_istore_n 100 hX [(3, .int r26), (0, .ref (D.2.1 a0)), (2, .int a2)] rfl (by decide) rfl dX4_read_99 rfl ?_)
        exact jx_sub [1, 0] rfl (b100 a0 r26 s27 h)
  have b53 : ∀ (a0 : Nat) (k0 : Int32) (s : jx_St), wX4_read_b53 post a0 k0 s → jx_J D jx_LM X 53 [(0, .ref (D.2.1 a0))] [.int k0] s := by
    intro a0 k0 s h
    unfold wX4_read_b53 at h
    refine jx_istore_n 54 hX [(2, .int k0), (0, .ref (D.2.1 a0))] rfl (by decide) rfl dX4_read_53 rfl (jx_iload_n 55 hX 0 rfl rfl dX4_read_54 rfl ?_)
    refine jx_if_ne 58 69 hX dX4_read_55 rfl (by decide) (fun hb14 => ?_) (fun hb14 => ?_)
    · have h := h.1 hb14
      refine jx_iconst 70 hX 1 (by decide) dX4_read_69 rfl (jx_goto 74 hX dX4_read_70 (by decide) ?_)
      exact jx_sub [1, 0] rfl (b74 a0 k0 1 s h)
    · have h := h.2 hb14
      refine jx_aload_n 59 hX 1 rfl rfl dX4_read_58 rfl ?_
      obtain ⟨hc15, h⟩ := h
      refine jx_callVl 62 hX (mX4_word _ D _ a0 s h) jv_X4_122 jn_4 hc15 ⟨rfl, rfl, by decide, by decide⟩ rfl rfl (Nat.le_of_ble_eq_true rfl) dX4_read_59 rfl (fun r16 s17 h => ?_)
      refine jx_ldc2 65 hX jc_X4_200 dX4_read_62 rfl (jx_lcmp 66 hX dX4_read_65 rfl ?_)
      refine jx_if_ne 69 73 hX dX4_read_66 rfl (by decide) (fun hb18 => ?_) (fun hb18 => ?_)
      · have h := h.1 hb18
        refine jx_iconst 74 hX 0 (by decide) dX4_read_73 rfl ?_
        exact jx_sub [1, 0] rfl (b74 a0 k0 0 s17 h)
      · have h := h.2 hb18
        refine jx_iconst 70 hX 1 (by decide) dX4_read_69 rfl (jx_goto 74 hX dX4_read_70 (by decide) ?_)
        exact jx_sub [1, 0] rfl (b74 a0 k0 1 s17 h)
  unfold wX4_read at h
  refine jx_iload_n 1 hX 1 rfl rfl dX4_read_0 rfl (jx_bipush 3 hX 28 (by decide) dX4_read_1 rfl ?_)
  refine jx_icmp_lt 6 12 hX dX4_read_3 rfl (by decide) (fun hb1 => ?_) (fun hb1 => ?_)
  · have h := h.1 hb1
    refine jx_iconst 13 hX (-1) (by decide) dX4_read_12 rfl ?_
    exact jx_iret hX dX4_read_13 h
  · have h := h.2 hb1
    refine jx_iload_n 7 hX 1 rfl rfl dX4_read_6 rfl (jx_bipush 9 hX 31 (by decide) dX4_read_7 rfl ?_)
    refine jx_icmp_le 12 14 hX dX4_read_9 rfl (by decide) (fun hb2 => ?_) (fun hb2 => ?_)
    · have h := h.1 hb2
      refine jx_aload_n 15 hX 0 rfl rfl dX4_read_14 rfl (jx_iload_n 16 hX 1 rfl rfl dX4_read_15 rfl ?_)
      obtain ⟨hc3, h⟩ := h
      refine jx_putI 19 hX jp_X4_73 rfl hc3 dX4_read_16 rfl ?_
      refine jx_namu (fun s4 hs4 => ?_)
      have h := h s4 hs4
      refine jx_aload_n 20 hX 0 rfl rfl dX4_read_19 rfl ?_
      refine jx_callVv 23 hX (mX4_split _ D _ a0 s4 h) jv_X4_192 jn_4 hc3 ⟨rfl, rfl, by decide, by decide⟩ rfl rfl (Nat.le_of_ble_eq_true rfl) dX4_read_20 rfl (fun s6 h => ?_)
      refine jx_aload_n 24 hX 0 rfl rfl dX4_read_23 rfl ?_
      refine jx_callVv 27 hX (mX4_blank _ D _ a0 s6 h) jv_X4_195 jn_4 hc3 ⟨rfl, rfl, by decide, by decide⟩ rfl rfl (Nat.le_of_ble_eq_true rfl) dX4_read_24 rfl (fun s8 h => ?_)
      refine jx_aload_n 28 hX 0 rfl rfl dX4_read_27 rfl (jx_iconst 29 hX 0 (by decide) dX4_read_28 rfl (jx_putI 32 hX jp_X4_62 rfl hc3 dX4_read_29 rfl ?_))
      refine jx_namu (fun s9 hs9 => ?_)
      have h := h s9 hs9
      refine jx_aload_n 33 hX 0 rfl rfl dX4_read_32 rfl (jx_iconst 34 hX 1 (by decide) dX4_read_33 rfl (jx_putI 37 hX jp_X4_183 rfl hc3 dX4_read_34 rfl ?_))
      refine jx_namu (fun s10 hs10 => ?_)
      have h := h s10 hs10
      refine jx_aload_n 38 hX 0 rfl rfl dX4_read_37 rfl ?_
      refine jx_callVl 41 hX (mX4_word _ D _ a0 s10 h) jv_X4_122 jn_4 hc3 ⟨rfl, rfl, by decide, by decide⟩ rfl rfl (Nat.le_of_ble_eq_true rfl) dX4_read_38 rfl (fun r11 s12 h => ?_)
      refine jx_ldc2 44 hX jc_X4_198 dX4_read_41 rfl (jx_lcmp 45 hX dX4_read_44 rfl ?_)
      refine jx_if_ne 48 52 hX dX4_read_45 rfl (by decide) (fun hb13 => ?_) (fun hb13 => ?_)
      · have h := h.1 hb13
        refine jx_iconst 53 hX 0 (by decide) dX4_read_52 rfl ?_
        exact jx_sub [0] rfl (b53 a0 0 s12 h)
      · have h := h.2 hb13
        refine jx_iconst 49 hX 1 (by decide) dX4_read_48 rfl (jx_goto 53 hX dX4_read_49 (by decide) ?_)
        exact jx_sub [0] rfl (b53 a0 1 s12 h)
    · have h := h.2 hb2
      refine jx_iconst 13 hX (-1) (by decide) dX4_read_12 rfl ?_
      exact jx_iret hX dX4_read_13 h
set_option maxHeartbeats 4000000 in
set_option maxRecDepth 100000 in
theorem mX4_told (l : Launch) (D : jx_Dt) (post : Int32 → jx_St → Prop) (a0 : Nat) (a1 : Int32) (s : jx_St) (h : wX4_told post a0 a1 s) : jx_Met l yX4_told cX4_told 2 (some .int) (jx_r 0 0) D jx_LM [.ref (D.2.1 a0), .int a1] s (jx_Qi D jx_LM post) := by
  refine jx_ofJ (by decide) (Nat.le_of_ble_eq_true rfl) (fun X hl hX => ?_)
  subst hl
  replace hX : jx_K D jx_LM X cX4_told RX4 2 (some .int) (jx_r 0 0) (jx_Qi D jx_LM post) := hX
  show jx_J D jx_LM X 0 [(0, .ref (D.2.1 a0)), (1, .int a1)] [] s
  have b70 : ∀ (a0 : Nat) (a1 : Int32) (s : jx_St), wX4_told_b70 post a0 a1 s → jx_J D jx_LM X 70 [(0, .ref (D.2.1 a0)), (1, .int a1)] [] s := by
    intro a0 a1 s h
    unfold wX4_told_b70 at h
    refine jx_iload_n 71 hX 1 rfl rfl dX4_told_70 rfl (jx_iconst 72 hX 2 (by decide) dX4_told_71 rfl ?_)
    refine jx_icmp_ne 75 82 hX dX4_told_72 rfl (by decide) (fun hb13 => ?_) (fun hb13 => ?_)
    · have h := h.1 hb13
      refine jx_iload_n 83 hX 1 rfl rfl dX4_told_82 rfl (jx_iconst 84 hX 3 (by decide) dX4_told_83 rfl ?_)
      refine jx_icmp_ne 87 94 hX dX4_told_84 rfl (by decide) (fun hb14 => ?_) (fun hb14 => ?_)
      · have h := h.1 hb14
        refine jx_iload_n 95 hX 1 rfl rfl dX4_told_94 rfl (jx_iconst 96 hX 4 (by decide) dX4_told_95 rfl ?_)
        refine jx_icmp_ne 99 106 hX dX4_told_96 rfl (by decide) (fun hb15 => ?_) (fun hb15 => ?_)
        · have h := h.1 hb15
          refine jx_iload_n 107 hX 1 rfl rfl dX4_told_106 rfl (jx_iconst 108 hX 5 (by decide) dX4_told_107 rfl ?_)
          refine jx_icmp_ne 111 118 hX dX4_told_108 rfl (by decide) (fun hb16 => ?_) (fun hb16 => ?_)
          · have h := h.1 hb16
            refine jx_aload_n 119 hX 0 rfl rfl dX4_told_118 rfl ?_
            obtain ⟨hc17, h⟩ := h
            refine jx_getR 122 hX jf_X4_31 rfl hc17 dX4_told_119 rfl (jx_iload_n 123 hX 1 rfl rfl dX4_told_122 rfl (jx_bipush 125 hX 6 (by decide) dX4_told_123 rfl (jx_isub 126 hX dX4_told_125 rfl ?_)))
            obtain ⟨hc18, h⟩ := h
            refine jx_iaload 127 hX hc18 dX4_told_126 rfl ?_
            exact jx_iret hX dX4_told_127 h
          · have h := h.2 hb16
            refine jx_aload_n 112 hX 0 rfl rfl dX4_told_111 rfl ?_
            obtain ⟨hc19, h⟩ := h
            refine jx_getI 115 hX jf_X4_226 rfl hc19 dX4_told_112 rfl (jx_goto 127 hX dX4_told_115 (by decide) ?_)
            exact jx_iret hX dX4_told_127 h
        · have h := h.2 hb15
          refine jx_aload_n 100 hX 0 rfl rfl dX4_told_99 rfl ?_
          obtain ⟨hc20, h⟩ := h
          refine jx_getI 103 hX jf_X4_223 rfl hc20 dX4_told_100 rfl (jx_goto 127 hX dX4_told_103 (by decide) ?_)
          exact jx_iret hX dX4_told_127 h
      · have h := h.2 hb14
        refine jx_aload_n 88 hX 0 rfl rfl dX4_told_87 rfl ?_
        obtain ⟨hc21, h⟩ := h
        refine jx_getI 91 hX jf_X4_220 rfl hc21 dX4_told_88 rfl (jx_goto 127 hX dX4_told_91 (by decide) ?_)
        exact jx_iret hX dX4_told_127 h
    · have h := h.2 hb13
      refine jx_aload_n 76 hX 0 rfl rfl dX4_told_75 rfl ?_
      obtain ⟨hc22, h⟩ := h
      refine jx_getI 79 hX jf_X4_217 rfl hc22 dX4_told_76 rfl (jx_goto 127 hX dX4_told_79 (by decide) ?_)
      exact jx_iret hX dX4_told_127 h
  unfold wX4_told at h
  refine jx_iload_n 1 hX 1 rfl rfl dX4_told_0 rfl ?_
  refine jx_if_ne 4 9 hX dX4_told_1 rfl (by decide) (fun hb1 => ?_) (fun hb1 => ?_)
  · have h := h.1 hb1
    refine jx_iload_n 10 hX 1 rfl rfl dX4_told_9 rfl (jx_iconst 11 hX 1 (by decide) dX4_told_10 rfl ?_)
    refine jx_icmp_ne 14 30 hX dX4_told_11 rfl (by decide) (fun hb2 => ?_) (fun hb2 => ?_)
    · have h := h.1 hb2
      refine jx_aload_n 31 hX 0 rfl rfl dX4_told_30 rfl ?_
      obtain ⟨hc3, h⟩ := h
      refine jx_getI 34 hX jf_X4_211 rfl hc3 dX4_told_31 rfl ?_
      refine jx_if_eq 37 66 hX dX4_told_34 rfl (by decide) (fun hb4 => ?_) (fun hb4 => ?_)
      · have h := h.1 hb4
        refine jx_sipush 69 hX (-1001) (by decide) dX4_told_66 rfl ?_
        exact jx_iret hX dX4_told_69 h
      · have h := h.2 hb4
        refine jx_iload_n 38 hX 1 rfl rfl dX4_told_37 rfl (jx_iconst 39 hX 2 (by decide) dX4_told_38 rfl ?_)
        refine jx_icmp_lt 42 66 hX dX4_told_39 rfl (by decide) (fun hb5 => ?_) (fun hb5 => ?_)
        · have h := h.1 hb5
          refine jx_sipush 69 hX (-1001) (by decide) dX4_told_66 rfl ?_
          exact jx_iret hX dX4_told_69 h
        · have h := h.2 hb5
          refine jx_iload_n 43 hX 1 rfl rfl dX4_told_42 rfl (jx_bipush 45 hX 9 (by decide) dX4_told_43 rfl ?_)
          refine jx_icmp_gt 48 66 hX dX4_told_45 rfl (by decide) (fun hb6 => ?_) (fun hb6 => ?_)
          · have h := h.1 hb6
            refine jx_sipush 69 hX (-1001) (by decide) dX4_told_66 rfl ?_
            exact jx_iret hX dX4_told_69 h
          · have h := h.2 hb6
            refine jx_aload_n 49 hX 0 rfl rfl dX4_told_48 rfl (jx_getI 52 hX jf_X4_211 rfl hc3 dX4_told_49 rfl (jx_iconst 53 hX 2 (by decide) dX4_told_52 rfl ?_))
            refine jx_icmp_ne 56 70 hX dX4_told_53 rfl (by decide) (fun hb7 => ?_) (fun hb7 => ?_)
            · have h := h.1 hb7
              exact jx_sub [0, 1] rfl (b70 a0 a1 s h)
            · have h := h.2 hb7
              refine jx_iload_n 57 hX 1 rfl rfl dX4_told_56 rfl (jx_iconst 58 hX 3 (by decide) dX4_told_57 rfl ?_)
              refine jx_icmp_lt 61 70 hX dX4_told_58 rfl (by decide) (fun hb8 => ?_) (fun hb8 => ?_)
              · have h := h.1 hb8
                exact jx_sub [0, 1] rfl (b70 a0 a1 s h)
              · have h := h.2 hb8
                refine jx_iload_n 62 hX 1 rfl rfl dX4_told_61 rfl (jx_iconst 63 hX 5 (by decide) dX4_told_62 rfl ?_)
                refine jx_icmp_gt 66 70 hX dX4_told_63 rfl (by decide) (fun hb9 => ?_) (fun hb9 => ?_)
                · have h := h.1 hb9
                  exact jx_sub [0, 1] rfl (b70 a0 a1 s h)
                · have h := h.2 hb9
                  refine jx_sipush 69 hX (-1001) (by decide) dX4_told_66 rfl ?_
                  exact jx_iret hX dX4_told_69 h
    · have h := h.2 hb2
      refine jx_aload_n 15 hX 0 rfl rfl dX4_told_14 rfl ?_
      obtain ⟨hc10, h⟩ := h
      refine jx_getI 18 hX jf_X4_211 rfl hc10 dX4_told_15 rfl ?_
      refine jx_if_ne 21 25 hX dX4_told_18 rfl (by decide) (fun hb11 => ?_) (fun hb11 => ?_)
      · have h := h.1 hb11
        refine jx_aload_n 26 hX 0 rfl rfl dX4_told_25 rfl (jx_getI 29 hX jf_X4_214 rfl hc10 dX4_told_26 rfl ?_)
        exact jx_iret hX dX4_told_29 h
      · have h := h.2 hb11
        refine jx_iconst 22 hX 0 (by decide) dX4_told_21 rfl (jx_goto 29 hX dX4_told_22 (by decide) ?_)
        exact jx_iret hX dX4_told_29 h
  · have h := h.2 hb1
    refine jx_aload_n 5 hX 0 rfl rfl dX4_told_4 rfl ?_
    obtain ⟨hc12, h⟩ := h
    refine jx_getI 8 hX jf_X4_211 rfl hc12 dX4_told_5 rfl ?_
    exact jx_iret hX dX4_told_8 h
set_option maxHeartbeats 4000000 in
set_option maxRecDepth 100000 in
theorem mX4_type (l : Launch) (D : jx_Dt) (post : Int32 → jx_St → Prop) (a0 : Nat) (a1 : Int64) (a3 : Int32) (s : jx_St) (h : wX4_type post a0 a1 a3 s) : jx_Met l yX4_type cX4_type 7 (some .int) (jx_r 0 0) D jx_LM [.ref (D.2.1 a0), .long a1, .int a3] s (jx_Qi D jx_LM post) := by
  refine jx_ofJ (by decide) (Nat.le_of_ble_eq_true rfl) (fun X hl hX => ?_)
  subst hl
  replace hX : jx_K D jx_LM X cX4_type RX4 7 (some .int) (jx_r 0 0) (jx_Qi D jx_LM post) := hX
  show jx_J D jx_LM X 0 [(0, .ref (D.2.1 a0)), (1, .long a1), (3, .int a3)] [] s
  have l78 : ∀ (n : Nat) (a0 : Nat) (a1 : Int64) (a4 : Int32) (s : jx_St), wX4_type_l78 post n a0 a1 a4 s → jx_J D jx_LM X 78 [(0, .ref (D.2.1 a0)), (1, .long a1), (4, .int a4)] [] s := by
    intro n
    induction n with
    | zero => intro a0 a1 a4 s h; exact h.elim
    | succ n ih =>
      intro a0 a1 a4 s h
      rw [wX4_type_l78] at h
      refine jx_iload 80 hX 2 rfl dX4_type_78 rfl ?_
      refine jx_if_lt 83 120 hX dX4_type_80 rfl (by decide) (fun hb11 => ?_) (fun hb11 => ?_)
      · have h := h.1 hb11
        refine jx_aload_n 121 hX 0 rfl rfl dX4_type_120 rfl ?_
        obtain ⟨hc12, h⟩ := h
        refine jx_getI 124 hX jf_X4_49 rfl hc12 dX4_type_121 rfl ?_
        exact jx_iret hX dX4_type_124 h
      · have h := h.2 hb11
        refine jx_aload_n 84 hX 0 rfl rfl dX4_type_83 rfl ?_
        obtain ⟨hc13, h⟩ := h
        refine jx_getR 87 hX jf_X4_7 rfl hc13 dX4_type_84 rfl (jx_aload_n 88 hX 0 rfl rfl dX4_type_87 rfl (jx_getI 91 hX jf_X4_49 rfl hc13 dX4_type_88 rfl (jx_lload_n 92 hX 1 rfl rfl dX4_type_91 rfl (jx_bipush 94 hX 8 (by decide) dX4_type_92 rfl (jx_iload 96 hX 2 rfl dX4_type_94 rfl ?_)))))
        refine jx_imul 97 hX dX4_type_96 rfl (jx_lshr 98 hX dX4_type_97 rfl (jx_ldc2 101 hX jc_X4_53 dX4_type_98 rfl (jx_land 102 hX dX4_type_101 rfl (jx_l2i 103 hX dX4_type_102 rfl ?_))))
        obtain ⟨hc14, h⟩ := h
        refine jx_iastore 104 hX hc14 dX4_type_103 rfl ?_
        refine jx_namu (fun s15 hs15 => ?_)
        have h := h s15 hs15
        refine jx_aload_n 105 hX 0 rfl rfl dX4_type_104 rfl (jx_dup 106 hX rfl dX4_type_105 rfl (jx_getI 109 hX jf_X4_49 rfl hc13 dX4_type_106 rfl (jx_iconst 110 hX 1 (by decide) dX4_type_109 rfl (jx_iadd 111 hX dX4_type_110 rfl (jx_putI 114 hX jp_X4_49 rfl hc13 dX4_type_111 rfl ?_)))))
        refine jx_namu (fun s16 hs16 => ?_)
        have h := h s16 hs16
        obtain ⟨x17, hx17⟩ : ∃ y : Int32, y = a4 + (-1) := ⟨_, rfl⟩
        have h := h x17 hx17
        refine jx_iinc 117 hX 2 x17 [(4, .int x17), (0, .ref (D.2.1 a0)), (1, .long a1)] rfl (by rw [hx17]; exact congrArg (fun z => a4 + z) (by decide)) (by decide) rfl dX4_type_114 rfl (jx_goto 78 hX dX4_type_117 (by decide) ?_)
        exact jx_sub [1, 2, 0] rfl (ih a0 a1 x17 s16 h)
  have l28 : ∀ (n : Nat) (a0 : Nat) (a1 : Int64) (a3 : Int32) (a4 : Int32) (s : jx_St), wX4_type_l28 post n a0 a1 a3 a4 s → jx_J D jx_LM X 28 [(0, .ref (D.2.1 a0)), (1, .long a1), (3, .int a3), (4, .int a4)] [] s := by
    intro n
    induction n with
    | zero => intro a0 a1 a3 a4 s h; exact h.elim
    | succ n ih =>
      intro a0 a1 a3 a4 s h
      rw [wX4_type_l28] at h
      refine jx_iload 30 hX 3 rfl dX4_type_28 rfl (jx_iload_n 31 hX 2 rfl rfl dX4_type_30 rfl ?_)
      refine jx_icmp_ge 34 73 hX dX4_type_31 rfl (by decide) (fun hb5 => ?_) (fun hb5 => ?_)
      · have h := h.1 hb5
        refine jx_iload_n 74 hX 2 rfl rfl dX4_type_73 rfl (jx_iconst 75 hX 1 (by decide) dX4_type_74 rfl (jx_isub 76 hX dX4_type_75 rfl ?_))
        refine jx_topi (fun x6 hx6 => ?_)
        have h := h x6 hx6
        refine jx_istore 78 hX [(4, .int x6), (0, .ref (D.2.1 a0)), (1, .long a1), (3, .int a3)] (by decide) rfl dX4_type_76 rfl ?_
        obtain ⟨n_, h⟩ := h
        exact jx_sub [1, 2, 0] rfl (l78 n_ a0 a1 x6 s h)
      · have h := h.2 hb5
        refine jx_lload_n 35 hX 1 rfl rfl dX4_type_34 rfl (jx_bipush 37 hX 8 (by decide) dX4_type_35 rfl (jx_iload 39 hX 3 rfl dX4_type_37 rfl (jx_imul 40 hX dX4_type_39 rfl (jx_lshr 41 hX dX4_type_40 rfl (jx_ldc2 44 hX jc_X4_53 dX4_type_41 rfl ?_)))))
        refine jx_land 45 hX dX4_type_44 rfl ?_
        refine jx_topl (fun x7 hx7 => ?_)
        have h := h x7 hx7
        refine jx_lstore 47 hX [(5, .long x7), (0, .ref (D.2.1 a0)), (1, .long a1), (3, .int a3), (4, .int a4)] (by decide) rfl dX4_type_45 rfl (jx_lload 49 hX 0 rfl dX4_type_47 rfl (jx_ldc2 52 hX jc_X4_55 dX4_type_49 rfl (jx_lcmp 53 hX dX4_type_52 rfl ?_)))
        refine jx_if_lt 56 65 hX dX4_type_53 rfl (by decide) (fun hb8 => ?_) (fun hb8 => ?_)
        · have h := h.1 hb8
          refine jx_iconst 66 hX (-1) (by decide) dX4_type_65 rfl ?_
          exact jx_iret hX dX4_type_66 h
        · have h := h.2 hb8
          refine jx_lload 58 hX 0 rfl dX4_type_56 rfl (jx_ldc2 61 hX jc_X4_57 dX4_type_58 rfl (jx_lcmp 62 hX dX4_type_61 rfl ?_))
          refine jx_if_le 65 67 hX dX4_type_62 rfl (by decide) (fun hb9 => ?_) (fun hb9 => ?_)
          · have h := h.1 hb9
            obtain ⟨x10, hx10⟩ : ∃ y : Int32, y = a4 + 1 := ⟨_, rfl⟩
            have h := h x10 hx10
            refine jx_iinc 70 hX 4 x10 [(4, .int x10), (5, .long x7), (0, .ref (D.2.1 a0)), (1, .long a1), (3, .int a3)] rfl (by rw [hx10]; exact congrArg (fun z => a4 + z) (by decide)) (by decide) rfl dX4_type_67 rfl (jx_goto 28 hX dX4_type_70 (by decide) ?_)
            exact jx_sub [2, 3, 4, 0] rfl (ih a0 a1 a3 x10 s h)
          · have h := h.2 hb9
            refine jx_iconst 66 hX (-1) (by decide) dX4_type_65 rfl ?_
            exact jx_iret hX dX4_type_66 h
  unfold wX4_type at h
  refine jx_iload_n 1 hX 2 rfl rfl dX4_type_0 rfl (jx_iconst 2 hX 1 (by decide) dX4_type_1 rfl ?_)
  refine jx_icmp_lt 5 23 hX dX4_type_2 rfl (by decide) (fun hb1 => ?_) (fun hb1 => ?_)
  · have h := h.1 hb1
    refine jx_iconst 24 hX (-1) (by decide) dX4_type_23 rfl ?_
    exact jx_iret hX dX4_type_24 h
  · have h := h.2 hb1
    refine jx_iload_n 6 hX 2 rfl rfl dX4_type_5 rfl (jx_bipush 8 hX 8 (by decide) dX4_type_6 rfl ?_)
    refine jx_icmp_gt 11 23 hX dX4_type_8 rfl (by decide) (fun hb2 => ?_) (fun hb2 => ?_)
    · have h := h.1 hb2
      refine jx_iconst 24 hX (-1) (by decide) dX4_type_23 rfl ?_
      exact jx_iret hX dX4_type_24 h
    · have h := h.2 hb2
      refine jx_aload_n 12 hX 0 rfl rfl dX4_type_11 rfl ?_
      obtain ⟨hc3, h⟩ := h
      refine jx_getI 15 hX jf_X4_49 rfl hc3 dX4_type_12 rfl (jx_iload_n 16 hX 2 rfl rfl dX4_type_15 rfl (jx_iadd 17 hX dX4_type_16 rfl (jx_sipush 20 hX 700 (by decide) dX4_type_17 rfl ?_)))
      refine jx_icmp_le 23 25 hX dX4_type_20 rfl (by decide) (fun hb4 => ?_) (fun hb4 => ?_)
      · have h := h.1 hb4
        refine jx_iconst 26 hX 0 (by decide) dX4_type_25 rfl (jx_istore 28 hX [(4, .int 0), (0, .ref (D.2.1 a0)), (1, .long a1), (3, .int a3)] (by decide) rfl dX4_type_26 rfl ?_)
        obtain ⟨n_, h⟩ := h
        exact jx_sub [1, 2, 3, 0] rfl (l28 n_ a0 a1 a3 0 s h)
      · have h := h.2 hb4
        refine jx_iconst 24 hX (-1) (by decide) dX4_type_23 rfl ?_
        exact jx_iret hX dX4_type_24 h
set_option maxHeartbeats 4000000 in
set_option maxRecDepth 100000 in
theorem mX4_weather (l : Launch) (D : jx_Dt) (post : Int32 → jx_St → Prop) (a0 : Nat) (a1 : Int32) (a2 : Int32) (s : jx_St) (h : wX4_weather post a0 a1 a2 s) : jx_Met l yX4_weather cX4_weather 3 (some .int) (jx_r 1 21) D jx_LM [.ref (D.2.1 a0), .int a1, .int a2] s (jx_Qi D jx_LM post) := by
  refine jx_ofJ (by decide) (Nat.le_of_ble_eq_true rfl) (fun X hl hX => ?_)
  subst hl
  replace hX : jx_K D jx_LM X cX4_weather RX4 3 (some .int) (jx_r 1 21) (jx_Qi D jx_LM post) := hX
  show jx_J D jx_LM X 0 [(0, .ref (D.2.1 a0)), (1, .int a1), (2, .int a2)] [] s
  unfold wX4_weather at h
  refine jx_aload_n 1 hX 0 rfl rfl dX4_weather_0 rfl (jx_iload_n 2 hX 1 rfl rfl dX4_weather_1 rfl ?_)
  obtain ⟨hc1, h⟩ := h
  refine jx_callVi 5 hX (mX4_isGroup _ D _ a0 a1 s h) jv_X4_232 jn_4 hc1 ⟨rfl, rfl, by decide, by decide⟩ rfl rfl (Nat.le_of_ble_eq_true rfl) dX4_weather_2 rfl (fun r2 s3 h => ?_)
  obtain ⟨hz4, h⟩ := h
  have h := h hz4
  refine jx_if_eq 8 41 hX dX4_weather_5 rfl (by decide) (fun hb5 => ?_) (fun hb5 => ?_)
  · have h := h.1 hb5
    refine jx_iconst 42 hX (-1) (by decide) dX4_weather_41 rfl ?_
    exact jx_iret hX dX4_weather_42 h
  · have h := h.2 hb5
    refine jx_iload_n 9 hX 2 rfl rfl dX4_weather_8 rfl ?_
    refine jx_if_lt 12 41 hX dX4_weather_9 rfl (by decide) (fun hb6 => ?_) (fun hb6 => ?_)
    · have h := h.1 hb6
      refine jx_iconst 42 hX (-1) (by decide) dX4_weather_41 rfl ?_
      exact jx_iret hX dX4_weather_42 h
    · have h := h.2 hb6
      refine jx_iload_n 13 hX 2 rfl rfl dX4_weather_12 rfl (jx_aload_n 14 hX 0 rfl rfl dX4_weather_13 rfl (jx_getR 17 hX jf_X4_34 rfl hc1 dX4_weather_14 rfl (jx_bipush 19 hX 10 (by decide) dX4_weather_17 rfl (jx_iload_n 20 hX 1 rfl rfl dX4_weather_19 rfl (jx_imul 21 hX dX4_weather_20 rfl ?_)))))
      refine jx_bipush 23 hX 8 (by decide) dX4_weather_21 rfl (jx_iadd 24 hX dX4_weather_23 rfl ?_)
      obtain ⟨hc7, h⟩ := h
      refine jx_iaload 25 hX hc7 dX4_weather_24 rfl ?_
      refine jx_icmp_ge 28 41 hX dX4_weather_25 rfl (by decide) (fun hb8 => ?_) (fun hb8 => ?_)
      · have h := h.1 hb8
        refine jx_iconst 42 hX (-1) (by decide) dX4_weather_41 rfl ?_
        exact jx_iret hX dX4_weather_42 h
      · have h := h.2 hb8
        refine jx_aload_n 29 hX 0 rfl rfl dX4_weather_28 rfl (jx_getR 32 hX jf_X4_37 rfl hc1 dX4_weather_29 rfl (jx_iconst 33 hX 3 (by decide) dX4_weather_32 rfl (jx_iload_n 34 hX 1 rfl rfl dX4_weather_33 rfl (jx_imul 35 hX dX4_weather_34 rfl (jx_iload_n 36 hX 2 rfl rfl dX4_weather_35 rfl ?_)))))
        refine jx_iadd 37 hX dX4_weather_36 rfl ?_
        obtain ⟨hc9, h⟩ := h
        refine jx_iaload 38 hX hc9 dX4_weather_37 rfl (jx_goto 42 hX dX4_weather_38 (by decide) ?_)
        exact jx_iret hX dX4_weather_42 h
