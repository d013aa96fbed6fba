/-! ===== the machine does what the predicates say (written by program) ===== -/
set_option maxHeartbeats 4000000 in
set_option maxRecDepth 100000 in
theorem mX1_clear (l : Launch) (D : jx_Dt) (post : jx_St → Prop) (a0 : Nat) (s : jx_St) (h : wX1_clear post a0 s) : jx_Met l yX1_clear cX1_clear 1 none (jx_r 0 0) D jx_LX [.ref (D.2.1 a0)] s (jx_Qv D jx_LX post) := by
  refine jx_ofJ (by decide) (Nat.le_of_ble_eq_true rfl) (fun X hl hX => ?_)
  subst hl
  replace hX : jx_K D jx_LX X cX1_clear RX1 1 none (jx_r 0 0) (jx_Qv D jx_LX post) := hX
  show jx_J D jx_LX X 0 [(0, .ref (D.2.1 a0))] [] s
  unfold wX1_clear at h
  refine jx_aload_n 1 hX 0 rfl rfl dX1_clear_0 rfl (jx_iconst 2 hX 0 (by decide) dX1_clear_1 rfl ?_)
  obtain ⟨hc1, h⟩ := h
  refine jx_putI 5 hX jp_X1_18 rfl hc1 dX1_clear_2 rfl ?_
  refine jx_namu (fun s2 hs2 => ?_)
  have h := h s2 hs2
  refine jx_aload_n 6 hX 0 rfl rfl dX1_clear_5 rfl (jx_iconst 7 hX 0 (by decide) dX1_clear_6 rfl (jx_putI 10 hX jp_X1_22 rfl hc1 dX1_clear_7 rfl ?_))
  refine jx_namu (fun s3 hs3 => ?_)
  have h := h s3 hs3
  refine jx_aload_n 11 hX 0 rfl rfl dX1_clear_10 rfl (jx_iconst 12 hX (-1) (by decide) dX1_clear_11 rfl (jx_putI 15 hX jp_X1_25 rfl hc1 dX1_clear_12 rfl ?_))
  refine jx_namu (fun s4 hs4 => ?_)
  have h := h s4 hs4
  refine jx_aload_n 16 hX 0 rfl rfl dX1_clear_15 rfl (jx_iconst 17 hX (-1) (by decide) dX1_clear_16 rfl (jx_putI 20 hX jp_X1_28 rfl hc1 dX1_clear_17 rfl ?_))
  refine jx_namu (fun s5 hs5 => ?_)
  have h := h s5 hs5
  refine jx_aload_n 21 hX 0 rfl rfl dX1_clear_20 rfl (jx_iconst 22 hX (-1) (by decide) dX1_clear_21 rfl (jx_putI 25 hX jp_X1_31 rfl hc1 dX1_clear_22 rfl ?_))
  refine jx_namu (fun s6 hs6 => ?_)
  have h := h s6 hs6
  refine jx_aload_n 26 hX 0 rfl rfl dX1_clear_25 rfl (jx_iconst 27 hX (-1) (by decide) dX1_clear_26 rfl (jx_putI 30 hX jp_X1_34 rfl hc1 dX1_clear_27 rfl ?_))
  refine jx_namu (fun s7 hs7 => ?_)
  have h := h s7 hs7
  refine jx_aload_n 31 hX 0 rfl rfl dX1_clear_30 rfl (jx_iconst 32 hX (-1) (by decide) dX1_clear_31 rfl (jx_putI 35 hX jp_X1_37 rfl hc1 dX1_clear_32 rfl ?_))
  refine jx_namu (fun s8 hs8 => ?_)
  have h := h s8 hs8
  refine jx_aload_n 36 hX 0 rfl rfl dX1_clear_35 rfl (jx_iconst 37 hX (-1) (by decide) dX1_clear_36 rfl (jx_putI 40 hX jp_X1_40 rfl hc1 dX1_clear_37 rfl ?_))
  refine jx_namu (fun s9 hs9 => ?_)
  have h := h s9 hs9
  refine jx_aload_n 41 hX 0 rfl rfl dX1_clear_40 rfl (jx_iconst 42 hX (-1) (by decide) dX1_clear_41 rfl (jx_putI 45 hX jp_X1_43 rfl hc1 dX1_clear_42 rfl ?_))
  refine jx_namu (fun s10 hs10 => ?_)
  have h := h s10 hs10
  refine jx_aload_n 46 hX 0 rfl rfl dX1_clear_45 rfl (jx_iconst 47 hX (-1) (by decide) dX1_clear_46 rfl (jx_putI 50 hX jp_X1_46 rfl hc1 dX1_clear_47 rfl ?_))
  refine jx_namu (fun s11 hs11 => ?_)
  have h := h s11 hs11
  exact jx_vret hX dX1_clear_50 h
set_option maxHeartbeats 4000000 in
set_option maxRecDepth 100000 in
theorem mX0_addGroup (l : Launch) (D : jx_Dt) (post : jx_St → Prop) (a0 : Nat) (s : jx_St) (h : wX0_addGroup post a0 s) : jx_Met l yX0_addGroup cX0_addGroup 1 none (jx_r 1 20) D jx_LX [.ref (D.2.1 a0)] s (jx_Qv D jx_LX post) := by
  refine jx_ofJ (by decide) (Nat.le_of_ble_eq_true rfl) (fun X hl hX => ?_)
  subst hl
  replace hX : jx_K D jx_LX X cX0_addGroup RX0 1 none (jx_r 1 20) (jx_Qv D jx_LX post) := hX
  show jx_J D jx_LX X 0 [(0, .ref (D.2.1 a0))] [] s
  unfold wX0_addGroup at h
  refine jx_aload_n 1 hX 0 rfl rfl dX0_addGroup_0 rfl ?_
  obtain ⟨hc1, h⟩ := h
  refine jx_getI 4 hX jf_X0_48 rfl hc1 dX0_addGroup_1 rfl (jx_bipush 6 hX 9 (by decide) dX0_addGroup_4 rfl ?_)
  refine jx_icmp_ge 9 31 hX dX0_addGroup_6 rfl (by decide) (fun hb2 => ?_) (fun hb2 => ?_)
  · have h := h.1 hb2
    exact jx_vret hX dX0_addGroup_31 h
  · have h := h.2 hb2
    refine jx_aload_n 10 hX 0 rfl rfl dX0_addGroup_9 rfl (jx_getR 13 hX jf_X0_17 rfl hc1 dX0_addGroup_10 rfl (jx_aload_n 14 hX 0 rfl rfl dX0_addGroup_13 rfl (jx_getI 17 hX jf_X0_48 rfl hc1 dX0_addGroup_14 rfl ?_)))
    obtain ⟨hc3, h⟩ := h
    refine jx_aaload 18 hX hc3 dX0_addGroup_17 rfl ?_
    obtain ⟨hc4, h⟩ := h
    refine jx_callVv 21 hX (mX1_clear _ D _ (s.2 (s.2 a0 8) ((s.1 a0 7) : Int32).toNatClampNeg) s h) jv_X0_54 jn_1 hc4 ⟨rfl, rfl, by decide, by decide⟩ rfl rfl (Nat.le_of_ble_eq_true rfl) dX0_addGroup_18 rfl (fun s6 h => ?_)
    refine jx_aload_n 22 hX 0 rfl rfl dX0_addGroup_21 rfl (jx_dup 23 hX rfl dX0_addGroup_22 rfl (jx_getI 26 hX jf_X0_48 rfl hc1 dX0_addGroup_23 rfl (jx_iconst 27 hX 1 (by decide) dX0_addGroup_26 rfl (jx_iadd 28 hX dX0_addGroup_27 rfl (jx_putI 31 hX jp_X0_48 rfl hc1 dX0_addGroup_28 rfl ?_)))))
    refine jx_namu (fun s7 hs7 => ?_)
    have h := h s7 hs7
    exact jx_vret hX dX0_addGroup_31 h
set_option maxHeartbeats 4000000 in
set_option maxRecDepth 100000 in
theorem mX1_isActiveAt (l : Launch) (D : jx_Dt) (post : Int32 → jx_St → Prop) (a0 : Nat) (a1 : Int32) (s : jx_St) (h : wX1_isActiveAt post a0 a1 s) : jx_Met l yX1_isActiveAt cX1_isActiveAt 2 (some .boolean) (jx_r 0 0) D jx_LX [.ref (D.2.1 a0), .int a1] s (jx_Qi D jx_LX (fun r u => (r = 0 ∨ r = 1) ∧ post r u)) := by
  refine jx_ofJ (by decide) (Nat.le_of_ble_eq_true rfl) (fun X hl hX => ?_)
  subst hl
  replace hX : jx_K D jx_LX X cX1_isActiveAt RX1 2 (some .boolean) (jx_r 0 0) (jx_Qi D jx_LX (fun r u => (r = 0 ∨ r = 1) ∧ post r u)) := hX
  show jx_J D jx_LX X 0 [(0, .ref (D.2.1 a0)), (1, .int a1)] [] s
  unfold wX1_isActiveAt at h
  refine jx_aload_n 1 hX 0 rfl rfl dX1_isActiveAt_0 rfl ?_
  obtain ⟨hc1, h⟩ := h
  refine jx_getI 4 hX jf_X1_18 rfl hc1 dX1_isActiveAt_1 rfl (jx_iconst 5 hX 3 (by decide) dX1_isActiveAt_4 rfl ?_)
  refine jx_icmp_lt 8 28 hX dX1_isActiveAt_5 rfl (by decide) (fun hb2 => ?_) (fun hb2 => ?_)
  · have h := h.1 hb2
    refine jx_iconst 29 hX 0 (by decide) dX1_isActiveAt_28 rfl ?_
    exact jx_zret hX dX1_isActiveAt_29 (by decide) h
  · have h := h.2 hb2
    refine jx_iload_n 9 hX 1 rfl rfl dX1_isActiveAt_8 rfl (jx_aload_n 10 hX 0 rfl rfl dX1_isActiveAt_9 rfl (jx_getI 13 hX jf_X1_25 rfl hc1 dX1_isActiveAt_10 rfl ?_))
    refine jx_icmp_lt 16 28 hX dX1_isActiveAt_13 rfl (by decide) (fun hb3 => ?_) (fun hb3 => ?_)
    · have h := h.1 hb3
      refine jx_iconst 29 hX 0 (by decide) dX1_isActiveAt_28 rfl ?_
      exact jx_zret hX dX1_isActiveAt_29 (by decide) h
    · have h := h.2 hb3
      refine jx_iload_n 17 hX 1 rfl rfl dX1_isActiveAt_16 rfl (jx_aload_n 18 hX 0 rfl rfl dX1_isActiveAt_17 rfl (jx_getI 21 hX jf_X1_28 rfl hc1 dX1_isActiveAt_18 rfl ?_))
      refine jx_icmp_ge 24 28 hX dX1_isActiveAt_21 rfl (by decide) (fun hb4 => ?_) (fun hb4 => ?_)
      · have h := h.1 hb4
        refine jx_iconst 29 hX 0 (by decide) dX1_isActiveAt_28 rfl ?_
        exact jx_zret hX dX1_isActiveAt_29 (by decide) h
      · have h := h.2 hb4
        refine jx_iconst 25 hX 1 (by decide) dX1_isActiveAt_24 rfl (jx_goto 29 hX dX1_isActiveAt_25 (by decide) ?_)
        exact jx_zret hX dX1_isActiveAt_29 (by decide) h
set_option maxHeartbeats 4000000 in
set_option maxRecDepth 100000 in
theorem mX0_countActive (l : Launch) (D : jx_Dt) (post : Int32 → jx_St → Prop) (a0 : Nat) (a1 : Int32) (s : jx_St) (h : wX0_countActive post a0 a1 s) : jx_Met l yX0_countActive cX0_countActive 4 (some .int) (jx_r 1 21) D jx_LX [.ref (D.2.1 a0), .int a1] s (jx_Qi D jx_LX post) := by
  refine jx_ofJ (by decide) (Nat.le_of_ble_eq_true rfl) (fun X hl hX => ?_)
  subst hl
  replace hX : jx_K D jx_LX X cX0_countActive RX0 4 (some .int) (jx_r 1 21) (jx_Qi D jx_LX post) := hX
  show jx_J D jx_LX X 0 [(0, .ref (D.2.1 a0)), (1, .int a1)] [] s
  have l4 : ∀ (n : Nat) (a0 : Nat) (a1 : Int32) (a2 : Int32) (a3 : Int32) (s : jx_St), wX0_countActive_l4 post n a0 a1 a2 a3 s → jx_J D jx_LX X 4 [(0, .ref (D.2.1 a0)), (1, .int a1), (2, .int a2), (3, .int a3)] [] s := by
    intro n
    induction n with
    | zero => intro a0 a1 a2 a3 s h; exact h.elim
    | succ n ih =>
      intro a0 a1 a2 a3 s h
      rw [wX0_countActive_l4] at h
      refine jx_iload_n 5 hX 3 rfl rfl dX0_countActive_4 rfl (jx_aload_n 6 hX 0 rfl rfl dX0_countActive_5 rfl ?_)
      obtain ⟨hc1, h⟩ := h
      refine jx_getI 9 hX jf_X0_48 rfl hc1 dX0_countActive_6 rfl ?_
      refine jx_icmp_ge 12 40 hX dX0_countActive_9 rfl (by decide) (fun hb2 => ?_) (fun hb2 => ?_)
      · have h := h.1 hb2
        refine jx_iload_n 41 hX 2 rfl rfl dX0_countActive_40 rfl ?_
        exact jx_iret hX dX0_countActive_41 h
      · have h := h.2 hb2
        refine jx_iload_n 13 hX 3 rfl rfl dX0_countActive_12 rfl (jx_bipush 15 hX 9 (by decide) dX0_countActive_13 rfl ?_)
        refine jx_icmp_ge 18 40 hX dX0_countActive_15 rfl (by decide) (fun hb3 => ?_) (fun hb3 => ?_)
        · have h := h.1 hb3
          refine jx_iload_n 41 hX 2 rfl rfl dX0_countActive_40 rfl ?_
          exact jx_iret hX dX0_countActive_41 h
        · have h := h.2 hb3
          refine jx_aload_n 19 hX 0 rfl rfl dX0_countActive_18 rfl (jx_getR 22 hX jf_X0_17 rfl hc1 dX0_countActive_19 rfl (jx_iload_n 23 hX 3 rfl rfl dX0_countActive_22 rfl ?_))
          obtain ⟨hc4, h⟩ := h
          refine jx_aaload 24 hX hc4 dX0_countActive_23 rfl (jx_iload_n 25 hX 1 rfl rfl dX0_countActive_24 rfl ?_)
          obtain ⟨hc5, h⟩ := h
          refine jx_callVi 28 hX (mX1_isActiveAt _ D _ (s.2 (s.2 a0 8) (a3 : Int32).toNatClampNeg) a1 s h) jv_X0_70 jn_1 hc5 ⟨rfl, rfl, by decide, by decide⟩ rfl rfl (Nat.le_of_ble_eq_true rfl) dX0_countActive_25 rfl (fun r6 s7 h => ?_)
          obtain ⟨hz8, h⟩ := h
          have h := h hz8
          refine jx_if_eq 31 34 hX dX0_countActive_28 rfl (by decide) (fun hb9 => ?_) (fun hb9 => ?_)
          · have h := h.1 hb9
            obtain ⟨x10, hx10⟩ : ∃ y : Int32, y = a3 + 1 := ⟨_, rfl⟩
            have h := h x10 hx10
            refine jx_iinc 37 hX 3 x10 [(3, .int x10), (0, .ref (D.2.1 a0)), (1, .int a1), (2, .int a2)] rfl (by rw [hx10]; exact congrArg (fun z => a3 + z) (by decide)) (by decide) rfl dX0_countActive_34 rfl (jx_goto 4 hX dX0_countActive_37 (by decide) ?_)
            exact jx_sub [1, 2, 3, 0] rfl (ih a0 a1 a2 x10 s7 h)
          · have h := h.2 hb9
            obtain ⟨x11, hx11⟩ : ∃ y : Int32, y = a2 + 1 := ⟨_, rfl⟩
            have h := h x11 hx11
            refine jx_iinc 34 hX 2 x11 [(2, .int x11), (0, .ref (D.2.1 a0)), (1, .int a1), (3, .int a3)] rfl (by rw [hx11]; exact congrArg (fun z => a2 + z) (by decide)) (by decide) rfl dX0_countActive_31 rfl ?_
            obtain ⟨x12, hx12⟩ : ∃ y : Int32, y = a3 + 1 := ⟨_, rfl⟩
            have h := h x12 hx12
            refine jx_iinc 37 hX 3 x12 [(3, .int x12), (2, .int x11), (0, .ref (D.2.1 a0)), (1, .int a1)] rfl (by rw [hx12]; exact congrArg (fun z => a3 + z) (by decide)) (by decide) rfl dX0_countActive_34 rfl (jx_goto 4 hX dX0_countActive_37 (by decide) ?_)
            exact jx_sub [2, 3, 1, 0] rfl (ih a0 a1 x11 x12 s7 h)
  unfold wX0_countActive at h
  refine jx_iconst 1 hX 0 (by decide) dX0_countActive_0 rfl (jx_istore_n 2 hX [(2, .int 0), (0, .ref (D.2.1 a0)), (1, .int a1)] rfl (by decide) rfl dX0_countActive_1 rfl (jx_iconst 3 hX 1 (by decide) dX0_countActive_2 rfl (jx_istore_n 4 hX [(3, .int 1), (2, .int 0), (0, .ref (D.2.1 a0)), (1, .int a1)] rfl (by decide) rfl dX0_countActive_3 rfl ?_)))
  obtain ⟨n_, h⟩ := h
  exact jx_sub [2, 3, 1, 0] rfl (l4 n_ a0 a1 0 1 s h)
set_option maxHeartbeats 4000000 in
set_option maxRecDepth 100000 in
theorem mX0_covers (l : Launch) (D : jx_Dt) (post : Int32 → jx_St → Prop) (a0 : Nat) (a1 : Int32) (s : jx_St) (h : wX0_covers post a0 a1 s) : jx_Met l yX0_covers cX0_covers 2 (some .boolean) (jx_r 0 0) D jx_LX [.ref (D.2.1 a0), .int a1] s (jx_Qi D jx_LX (fun r u => (r = 0 ∨ r = 1) ∧ post r u)) := by
  refine jx_ofJ (by decide) (Nat.le_of_ble_eq_true rfl) (fun X hl hX => ?_)
  subst hl
  replace hX : jx_K D jx_LX X cX0_covers RX0 2 (some .boolean) (jx_r 0 0) (jx_Qi D jx_LX (fun r u => (r = 0 ∨ r = 1) ∧ post r u)) := hX
  show jx_J D jx_LX X 0 [(0, .ref (D.2.1 a0)), (1, .int a1)] [] s
  unfold wX0_covers at h
  refine jx_aload_n 1 hX 0 rfl rfl dX0_covers_0 rfl ?_
  obtain ⟨hc1, h⟩ := h
  refine jx_getI 4 hX jf_X0_26 rfl hc1 dX0_covers_1 rfl (jx_iconst 5 hX 2 (by decide) dX0_covers_4 rfl ?_)
  refine jx_icmp_ne 8 38 hX dX0_covers_5 rfl (by decide) (fun hb2 => ?_) (fun hb2 => ?_)
  · have h := h.1 hb2
    refine jx_iconst 39 hX 0 (by decide) dX0_covers_38 rfl ?_
    exact jx_zret hX dX0_covers_39 (by decide) h
  · have h := h.2 hb2
    refine jx_iload_n 9 hX 1 rfl rfl dX0_covers_8 rfl (jx_aload_n 10 hX 0 rfl rfl dX0_covers_9 rfl (jx_getR 13 hX jf_X0_17 rfl hc1 dX0_covers_10 rfl (jx_iconst 14 hX 0 (by decide) dX0_covers_13 rfl ?_)))
    obtain ⟨hc3, h⟩ := h
    refine jx_aaload 15 hX hc3 dX0_covers_14 rfl ?_
    obtain ⟨hc4, h⟩ := h
    refine jx_getI 18 hX jf_X0_57 rfl hc4 dX0_covers_15 rfl ?_
    refine jx_icmp_lt 21 38 hX dX0_covers_18 rfl (by decide) (fun hb5 => ?_) (fun hb5 => ?_)
    · have h := h.1 hb5
      refine jx_iconst 39 hX 0 (by decide) dX0_covers_38 rfl ?_
      exact jx_zret hX dX0_covers_39 (by decide) h
    · have h := h.2 hb5
      refine jx_iload_n 22 hX 1 rfl rfl dX0_covers_21 rfl (jx_aload_n 23 hX 0 rfl rfl dX0_covers_22 rfl (jx_getR 26 hX jf_X0_17 rfl hc1 dX0_covers_23 rfl (jx_iconst 27 hX 0 (by decide) dX0_covers_26 rfl (jx_aaload 28 hX hc3 dX0_covers_27 rfl (jx_getI 31 hX jf_X0_60 rfl hc4 dX0_covers_28 rfl ?_)))))
      refine jx_icmp_ge 34 38 hX dX0_covers_31 rfl (by decide) (fun hb6 => ?_) (fun hb6 => ?_)
      · have h := h.1 hb6
        refine jx_iconst 39 hX 0 (by decide) dX0_covers_38 rfl ?_
        exact jx_zret hX dX0_covers_39 (by decide) h
      · have h := h.2 hb6
        refine jx_iconst 35 hX 1 (by decide) dX0_covers_34 rfl (jx_goto 39 hX dX0_covers_35 (by decide) ?_)
        exact jx_zret hX dX0_covers_39 (by decide) h
set_option maxHeartbeats 4000000 in
set_option maxRecDepth 100000 in
theorem mX1_holdsAt (l : Launch) (D : jx_Dt) (post : Int32 → jx_St → Prop) (a0 : Nat) (a1 : Int32) (s : jx_St) (h : wX1_holdsAt post a0 a1 s) : jx_Met l yX1_holdsAt cX1_holdsAt 2 (some .boolean) (jx_r 0 0) D jx_LX [.ref (D.2.1 a0), .int a1] s (jx_Qi D jx_LX (fun r u => (r = 0 ∨ r = 1) ∧ post r u)) := by
  refine jx_ofJ (by decide) (Nat.le_of_ble_eq_true rfl) (fun X hl hX => ?_)
  subst hl
  replace hX : jx_K D jx_LX X cX1_holdsAt RX1 2 (some .boolean) (jx_r 0 0) (jx_Qi D jx_LX (fun r u => (r = 0 ∨ r = 1) ∧ post r u)) := hX
  show jx_J D jx_LX X 0 [(0, .ref (D.2.1 a0)), (1, .int a1)] [] s
  have b16 : ∀ (a0 : Nat) (a1 : Int32) (s : jx_St), wX1_holdsAt_b16 post a0 a1 s → jx_J D jx_LX X 16 [(0, .ref (D.2.1 a0)), (1, .int a1)] [] s := by
    intro a0 a1 s h
    unfold wX1_holdsAt_b16 at h
    refine jx_aload_n 17 hX 0 rfl rfl dX1_holdsAt_16 rfl ?_
    obtain ⟨hc4, h⟩ := h
    refine jx_getI 20 hX jf_X1_18 rfl hc4 dX1_holdsAt_17 rfl (jx_iconst 21 hX 2 (by decide) dX1_holdsAt_20 rfl ?_)
    refine jx_icmp_ne 24 36 hX dX1_holdsAt_21 rfl (by decide) (fun hb5 => ?_) (fun hb5 => ?_)
    · have h := h.1 hb5
      refine jx_iconst 37 hX 0 (by decide) dX1_holdsAt_36 rfl ?_
      exact jx_zret hX dX1_holdsAt_37 (by decide) h
    · have h := h.2 hb5
      refine jx_iload_n 25 hX 1 rfl rfl dX1_holdsAt_24 rfl (jx_aload_n 26 hX 0 rfl rfl dX1_holdsAt_25 rfl (jx_getI 29 hX jf_X1_28 rfl hc4 dX1_holdsAt_26 rfl ?_))
      refine jx_icmp_lt 32 36 hX dX1_holdsAt_29 rfl (by decide) (fun hb6 => ?_) (fun hb6 => ?_)
      · have h := h.1 hb6
        refine jx_iconst 37 hX 0 (by decide) dX1_holdsAt_36 rfl ?_
        exact jx_zret hX dX1_holdsAt_37 (by decide) h
      · have h := h.2 hb6
        refine jx_iconst 33 hX 1 (by decide) dX1_holdsAt_32 rfl (jx_goto 37 hX dX1_holdsAt_33 (by decide) ?_)
        exact jx_zret hX dX1_holdsAt_37 (by decide) h
  unfold wX1_holdsAt at h
  refine jx_aload_n 1 hX 0 rfl rfl dX1_holdsAt_0 rfl ?_
  obtain ⟨hc1, h⟩ := h
  refine jx_getI 4 hX jf_X1_18 rfl hc1 dX1_holdsAt_1 rfl (jx_iconst 5 hX 1 (by decide) dX1_holdsAt_4 rfl ?_)
  refine jx_icmp_ne 8 16 hX dX1_holdsAt_5 rfl (by decide) (fun hb2 => ?_) (fun hb2 => ?_)
  · have h := h.1 hb2
    exact jx_sub [0, 1] rfl (b16 a0 a1 s h)
  · have h := h.2 hb2
    refine jx_iload_n 9 hX 1 rfl rfl dX1_holdsAt_8 rfl (jx_aload_n 10 hX 0 rfl rfl dX1_holdsAt_9 rfl (jx_getI 13 hX jf_X1_25 rfl hc1 dX1_holdsAt_10 rfl ?_))
    refine jx_icmp_ge 16 32 hX dX1_holdsAt_13 rfl (by decide) (fun hb3 => ?_) (fun hb3 => ?_)
    · have h := h.1 hb3
      refine jx_iconst 33 hX 1 (by decide) dX1_holdsAt_32 rfl (jx_goto 37 hX dX1_holdsAt_33 (by decide) ?_)
      exact jx_zret hX dX1_holdsAt_37 (by decide) h
    · have h := h.2 hb3
      exact jx_sub [0, 1] rfl (b16 a0 a1 s h)
set_option maxHeartbeats 4000000 in
set_option maxRecDepth 100000 in
theorem mX1_tells (l : Launch) (D : jx_Dt) (post : Int32 → jx_St → Prop) (a0 : Nat) (a1 : Int32) (s : jx_St) (h : wX1_tells post a0 a1 s) : jx_Met l yX1_tells cX1_tells 2 (some .boolean) (jx_r 0 0) D jx_LX [.ref (D.2.1 a0), .int a1] s (jx_Qi D jx_LX (fun r u => (r = 0 ∨ r = 1) ∧ post r u)) := by
  refine jx_ofJ (by decide) (Nat.le_of_ble_eq_true rfl) (fun X hl hX => ?_)
  subst hl
  replace hX : jx_K D jx_LX X cX1_tells RX1 2 (some .boolean) (jx_r 0 0) (jx_Qi D jx_LX (fun r u => (r = 0 ∨ r = 1) ∧ post r u)) := hX
  show jx_J D jx_LX X 0 [(0, .ref (D.2.1 a0)), (1, .int a1)] [] s
  unfold wX1_tells at h
  refine jx_iload_n 1 hX 1 rfl rfl dX1_tells_0 rfl ?_
  by_cases hb1 : a1 = 0
  · have h := h.1 hb1
    refine jx_tabIn 28 (off := 27) hX dX1_tells_1 (by rw [hb1]; decide) (by rw [hb1]; decide) (by rw [hb1]; decide) (by decide) ?_
    refine jx_aload_n 29 hX 0 rfl rfl dX1_tells_28 rfl ?_
    obtain ⟨hc2, h⟩ := h
    refine jx_getI 32 hX jf_X1_34 rfl hc2 dX1_tells_29 rfl (jx_iconst 33 hX (-1) (by decide) dX1_tells_32 rfl ?_)
    refine jx_icmp_eq 36 40 hX dX1_tells_33 rfl (by decide) (fun hb3 => ?_) (fun hb3 => ?_)
    · have h := h.1 hb3
      refine jx_iconst 41 hX 0 (by decide) dX1_tells_40 rfl ?_
      exact jx_zret hX dX1_tells_41 (by decide) h
    · have h := h.2 hb3
      refine jx_iconst 37 hX 1 (by decide) dX1_tells_36 rfl (jx_goto 41 hX dX1_tells_37 (by decide) ?_)
      exact jx_zret hX dX1_tells_41 (by decide) h
  · have h := h.2
    by_cases hb4 : a1 = 1
    · have h := h.1 hb4
      refine jx_tabIn 42 (off := 41) hX dX1_tells_1 (by rw [hb4]; decide) (by rw [hb4]; decide) (by rw [hb4]; decide) (by decide) ?_
      refine jx_aload_n 43 hX 0 rfl rfl dX1_tells_42 rfl ?_
      obtain ⟨hc5, h⟩ := h
      refine jx_getI 46 hX jf_X1_40 rfl hc5 dX1_tells_43 rfl (jx_iconst 47 hX (-1) (by decide) dX1_tells_46 rfl ?_)
      refine jx_icmp_eq 50 54 hX dX1_tells_47 rfl (by decide) (fun hb6 => ?_) (fun hb6 => ?_)
      · have h := h.1 hb6
        refine jx_iconst 55 hX 0 (by decide) dX1_tells_54 rfl ?_
        exact jx_zret hX dX1_tells_55 (by decide) h
      · have h := h.2 hb6
        refine jx_iconst 51 hX 1 (by decide) dX1_tells_50 rfl (jx_goto 55 hX dX1_tells_51 (by decide) ?_)
        exact jx_zret hX dX1_tells_55 (by decide) h
    · have h := h.2
      by_cases hb7 : a1 = 2
      · have h := h.1 hb7
        refine jx_tabIn 56 (off := 55) hX dX1_tells_1 (by rw [hb7]; decide) (by rw [hb7]; decide) (by rw [hb7]; decide) (by decide) ?_
        refine jx_aload_n 57 hX 0 rfl rfl dX1_tells_56 rfl ?_
        obtain ⟨hc8, h⟩ := h
        refine jx_getI 60 hX jf_X1_43 rfl hc8 dX1_tells_57 rfl (jx_iconst 61 hX (-1) (by decide) dX1_tells_60 rfl ?_)
        refine jx_icmp_eq 64 68 hX dX1_tells_61 rfl (by decide) (fun hb9 => ?_) (fun hb9 => ?_)
        · have h := h.1 hb9
          refine jx_iconst 69 hX 0 (by decide) dX1_tells_68 rfl ?_
          exact jx_zret hX dX1_tells_69 (by decide) h
        · have h := h.2 hb9
          refine jx_iconst 65 hX 1 (by decide) dX1_tells_64 rfl (jx_goto 69 hX dX1_tells_65 (by decide) ?_)
          exact jx_zret hX dX1_tells_69 (by decide) h
      · have h := h.2
        have h := h hb1 hb4 hb7
        have ehb1 : (a1 : Int32).toInt ≠ 0 := fun z => hb1 (Int32.toInt_inj.mp (z.trans (by decide)))
        have ehb4 : (a1 : Int32).toInt ≠ 1 := fun z => hb4 (Int32.toInt_inj.mp (z.trans (by decide)))
        have ehb7 : (a1 : Int32).toInt ≠ 2 := fun z => hb7 (Int32.toInt_inj.mp (z.trans (by decide)))
        refine jx_tabOut 70 hX dX1_tells_1 (by omega) (by decide) ?_
        refine jx_aload_n 71 hX 0 rfl rfl dX1_tells_70 rfl ?_
        obtain ⟨hc10, h⟩ := h
        refine jx_getI 74 hX jf_X1_46 rfl hc10 dX1_tells_71 rfl (jx_iconst 75 hX (-1) (by decide) dX1_tells_74 rfl ?_)
        refine jx_icmp_eq 78 82 hX dX1_tells_75 rfl (by decide) (fun hb11 => ?_) (fun hb11 => ?_)
        · have h := h.1 hb11
          refine jx_iconst 83 hX 0 (by decide) dX1_tells_82 rfl ?_
          exact jx_zret hX dX1_tells_83 (by decide) h
        · have h := h.2 hb11
          refine jx_iconst 79 hX 1 (by decide) dX1_tells_78 rfl (jx_goto 83 hX dX1_tells_79 (by decide) ?_)
          exact jx_zret hX dX1_tells_83 (by decide) h
set_option maxHeartbeats 4000000 in
set_option maxRecDepth 100000 in
theorem mX0_teller (l : Launch) (D : jx_Dt) (post : Int32 → jx_St → Prop) (a0 : Nat) (a1 : Int32) (a2 : Int32) (s : jx_St) (h : wX0_teller post a0 a1 a2 s) : jx_Met l yX0_teller cX0_teller 5 (some .int) (jx_r 1 21) D jx_LX [.ref (D.2.1 a0), .int a1, .int a2] s (jx_Qi D jx_LX post) := by
  refine jx_ofJ (by decide) (Nat.le_of_ble_eq_true rfl) (fun X hl hX => ?_)
  subst hl
  replace hX : jx_K D jx_LX X cX0_teller RX0 5 (some .int) (jx_r 1 21) (jx_Qi D jx_LX post) := hX
  show jx_J D jx_LX X 0 [(0, .ref (D.2.1 a0)), (1, .int a1), (2, .int a2)] [] s
  have l5 : ∀ (n : Nat) (a0 : Nat) (a1 : Int32) (a2 : Int32) (a3 : Int32) (a4 : Int32) (s : jx_St), wX0_teller_l5 post n a0 a1 a2 a3 a4 s → jx_J D jx_LX X 5 [(0, .ref (D.2.1 a0)), (1, .int a1), (2, .int a2), (3, .int a3), (4, .int a4)] [] s := by
    intro n
    induction n with
    | zero => intro a0 a1 a2 a3 a4 s h; exact h.elim
    | succ n ih =>
      intro a0 a1 a2 a3 a4 s h
      rw [wX0_teller_l5] at h
      refine jx_iload 7 hX 4 rfl dX0_teller_5 rfl (jx_aload_n 8 hX 0 rfl rfl dX0_teller_7 rfl ?_)
      obtain ⟨hc1, h⟩ := h
      refine jx_getI 11 hX jf_X0_48 rfl hc1 dX0_teller_8 rfl ?_
      refine jx_icmp_ge 14 58 hX dX0_teller_11 rfl (by decide) (fun hb2 => ?_) (fun hb2 => ?_)
      · have h := h.1 hb2
        refine jx_iload_n 59 hX 3 rfl rfl dX0_teller_58 rfl ?_
        exact jx_iret hX dX0_teller_59 h
      · have h := h.2 hb2
        refine jx_iload 16 hX 4 rfl dX0_teller_14 rfl (jx_bipush 18 hX 9 (by decide) dX0_teller_16 rfl ?_)
        refine jx_icmp_ge 21 58 hX dX0_teller_18 rfl (by decide) (fun hb3 => ?_) (fun hb3 => ?_)
        · have h := h.1 hb3
          refine jx_iload_n 59 hX 3 rfl rfl dX0_teller_58 rfl ?_
          exact jx_iret hX dX0_teller_59 h
        · have h := h.2 hb3
          refine jx_aload_n 22 hX 0 rfl rfl dX0_teller_21 rfl (jx_getR 25 hX jf_X0_17 rfl hc1 dX0_teller_22 rfl (jx_iload 27 hX 4 rfl dX0_teller_25 rfl ?_))
          obtain ⟨hc4, h⟩ := h
          refine jx_aaload 28 hX hc4 dX0_teller_27 rfl (jx_iload_n 29 hX 1 rfl rfl dX0_teller_28 rfl ?_)
          obtain ⟨hc5, h⟩ := h
          refine jx_callVi 32 hX (mX1_holdsAt _ D _ (s.2 (s.2 a0 8) (a4 : Int32).toNatClampNeg) a1 s h) jv_X0_63 jn_1 hc5 ⟨rfl, rfl, by decide, by decide⟩ rfl rfl (Nat.le_of_ble_eq_true rfl) dX0_teller_29 rfl (fun r6 s7 h => ?_)
          obtain ⟨hz8, h⟩ := h
          have h := h hz8
          refine jx_if_eq 35 52 hX dX0_teller_32 rfl (by decide) (fun hb9 => ?_) (fun hb9 => ?_)
          · have h := h.1 hb9
            obtain ⟨x10, hx10⟩ : ∃ y : Int32, y = a4 + 1 := ⟨_, rfl⟩
            have h := h x10 hx10
            refine jx_iinc 55 hX 4 x10 [(4, .int x10), (0, .ref (D.2.1 a0)), (1, .int a1), (2, .int a2), (3, .int a3)] rfl (by rw [hx10]; exact congrArg (fun z => a4 + z) (by decide)) (by decide) rfl dX0_teller_52 rfl (jx_goto 5 hX dX0_teller_55 (by decide) ?_)
            exact jx_sub [1, 2, 3, 4, 0] rfl (ih a0 a1 a2 a3 x10 s7 h)
          · have h := h.2 hb9
            refine jx_aload_n 36 hX 0 rfl rfl dX0_teller_35 rfl (jx_getR 39 hX jf_X0_17 rfl hc1 dX0_teller_36 rfl (jx_iload 41 hX 4 rfl dX0_teller_39 rfl ?_))
            obtain ⟨hc11, h⟩ := h
            refine jx_aaload 42 hX hc11 dX0_teller_41 rfl (jx_iload_n 43 hX 2 rfl rfl dX0_teller_42 rfl ?_)
            obtain ⟨hc12, h⟩ := h
            refine jx_callVi 46 hX (mX1_tells _ D _ (s7.2 (s7.2 a0 8) (a4 : Int32).toNatClampNeg) a2 s7 h) jv_X0_67 jn_1 hc12 ⟨rfl, rfl, by decide, by decide⟩ rfl rfl (Nat.le_of_ble_eq_true rfl) dX0_teller_43 rfl (fun r13 s14 h => ?_)
            obtain ⟨hz15, h⟩ := h
            have h := h hz15
            refine jx_if_eq 49 52 hX dX0_teller_46 rfl (by decide) (fun hb16 => ?_) (fun hb16 => ?_)
            · have h := h.1 hb16
              obtain ⟨x17, hx17⟩ : ∃ y : Int32, y = a4 + 1 := ⟨_, rfl⟩
              have h := h x17 hx17
              refine jx_iinc 55 hX 4 x17 [(4, .int x17), (0, .ref (D.2.1 a0)), (1, .int a1), (2, .int a2), (3, .int a3)] rfl (by rw [hx17]; exact congrArg (fun z => a4 + z) (by decide)) (by decide) rfl dX0_teller_52 rfl (jx_goto 5 hX dX0_teller_55 (by decide) ?_)
              exact jx_sub [1, 2, 3, 4, 0] rfl (ih a0 a1 a2 a3 x17 s14 h)
            · have h := h.2 hb16
              refine jx_iload 51 hX 4 rfl dX0_teller_49 rfl (jx_istore_n 52 hX [(3, .int a4), (0, .ref (D.2.1 a0)), (1, .int a1), (2, .int a2), (4, .int a4)] rfl (by decide) rfl dX0_teller_51 rfl ?_)
              obtain ⟨x18, hx18⟩ : ∃ y : Int32, y = a4 + 1 := ⟨_, rfl⟩
              have h := h x18 hx18
              refine jx_iinc 55 hX 4 x18 [(4, .int x18), (3, .int a4), (0, .ref (D.2.1 a0)), (1, .int a1), (2, .int a2)] rfl (by rw [hx18]; exact congrArg (fun z => a4 + z) (by decide)) (by decide) rfl dX0_teller_52 rfl (jx_goto 5 hX dX0_teller_55 (by decide) ?_)
              exact jx_sub [2, 3, 4, 1, 0] rfl (ih a0 a1 a2 a4 x18 s14 h)
  unfold wX0_teller at h
  refine jx_iconst 1 hX 0 (by decide) dX0_teller_0 rfl (jx_istore_n 2 hX [(3, .int 0), (0, .ref (D.2.1 a0)), (1, .int a1), (2, .int a2)] rfl (by decide) rfl dX0_teller_1 rfl (jx_iconst 3 hX 1 (by decide) dX0_teller_2 rfl (jx_istore 5 hX [(4, .int 1), (3, .int 0), (0, .ref (D.2.1 a0)), (1, .int a1), (2, .int a2)] (by decide) rfl dX0_teller_3 rfl ?_)))
  obtain ⟨n_, h⟩ := h
  exact jx_sub [2, 3, 4, 1, 0] rfl (l5 n_ a0 a1 a2 0 1 s h)
set_option maxHeartbeats 4000000 in
set_option maxRecDepth 100000 in
theorem mX1_tellsSomething (l : Launch) (D : jx_Dt) (post : Int32 → jx_St → Prop) (a0 : Nat) (s : jx_St) (h : wX1_tellsSomething post a0 s) : jx_Met l yX1_tellsSomething cX1_tellsSomething 1 (some .boolean) (jx_r 1 21) D jx_LX [.ref (D.2.1 a0)] s (jx_Qi D jx_LX (fun r u => (r = 0 ∨ r = 1) ∧ post r u)) := by
  refine jx_ofJ (by decide) (Nat.le_of_ble_eq_true rfl) (fun X hl hX => ?_)
  subst hl
  replace hX : jx_K D jx_LX X cX1_tellsSomething RX1 1 (some .boolean) (jx_r 1 21) (jx_Qi D jx_LX (fun r u => (r = 0 ∨ r = 1) ∧ post r u)) := hX
  show jx_J D jx_LX X 0 [(0, .ref (D.2.1 a0))] [] s
  unfold wX1_tellsSomething at h
  refine jx_aload_n 1 hX 0 rfl rfl dX1_tellsSomething_0 rfl (jx_iconst 2 hX 0 (by decide) dX1_tellsSomething_1 rfl ?_)
  obtain ⟨hc1, h⟩ := h
  refine jx_callVi 5 hX (mX1_tells _ D _ a0 0 s h) jv_X1_55 jn_1 hc1 ⟨rfl, rfl, by decide, by decide⟩ rfl rfl (Nat.le_of_ble_eq_true rfl) dX1_tellsSomething_2 rfl (fun r2 s3 h => ?_)
  obtain ⟨hz4, h⟩ := h
  have h := h hz4
  refine jx_if_ne 8 32 hX dX1_tellsSomething_5 rfl (by decide) (fun hb5 => ?_) (fun hb5 => ?_)
  · have h := h.1 hb5
    refine jx_iconst 33 hX 1 (by decide) dX1_tellsSomething_32 rfl (jx_goto 37 hX dX1_tellsSomething_33 (by decide) ?_)
    exact jx_zret hX dX1_tellsSomething_37 (by decide) h
  · have h := h.2 hb5
    refine jx_aload_n 9 hX 0 rfl rfl dX1_tellsSomething_8 rfl (jx_iconst 10 hX 1 (by decide) dX1_tellsSomething_9 rfl ?_)
    refine jx_callVi 13 hX (mX1_tells _ D _ a0 1 s3 h) jv_X1_55 jn_1 hc1 ⟨rfl, rfl, by decide, by decide⟩ rfl rfl (Nat.le_of_ble_eq_true rfl) dX1_tellsSomething_10 rfl (fun r6 s7 h => ?_)
    obtain ⟨hz8, h⟩ := h
    have h := h hz8
    refine jx_if_ne 16 32 hX dX1_tellsSomething_13 rfl (by decide) (fun hb9 => ?_) (fun hb9 => ?_)
    · have h := h.1 hb9
      refine jx_iconst 33 hX 1 (by decide) dX1_tellsSomething_32 rfl (jx_goto 37 hX dX1_tellsSomething_33 (by decide) ?_)
      exact jx_zret hX dX1_tellsSomething_37 (by decide) h
    · have h := h.2 hb9
      refine jx_aload_n 17 hX 0 rfl rfl dX1_tellsSomething_16 rfl (jx_iconst 18 hX 2 (by decide) dX1_tellsSomething_17 rfl ?_)
      refine jx_callVi 21 hX (mX1_tells _ D _ a0 2 s7 h) jv_X1_55 jn_1 hc1 ⟨rfl, rfl, by decide, by decide⟩ rfl rfl (Nat.le_of_ble_eq_true rfl) dX1_tellsSomething_18 rfl (fun r10 s11 h => ?_)
      obtain ⟨hz12, h⟩ := h
      have h := h hz12
      refine jx_if_ne 24 32 hX dX1_tellsSomething_21 rfl (by decide) (fun hb13 => ?_) (fun hb13 => ?_)
      · have h := h.1 hb13
        refine jx_iconst 33 hX 1 (by decide) dX1_tellsSomething_32 rfl (jx_goto 37 hX dX1_tellsSomething_33 (by decide) ?_)
        exact jx_zret hX dX1_tellsSomething_37 (by decide) h
      · have h := h.2 hb13
        refine jx_aload_n 25 hX 0 rfl rfl dX1_tellsSomething_24 rfl (jx_iconst 26 hX 3 (by decide) dX1_tellsSomething_25 rfl ?_)
        refine jx_callVi 29 hX (mX1_tells _ D _ a0 3 s11 h) jv_X1_55 jn_1 hc1 ⟨rfl, rfl, by decide, by decide⟩ rfl rfl (Nat.le_of_ble_eq_true rfl) dX1_tellsSomething_26 rfl (fun r14 s15 h => ?_)
        obtain ⟨hz16, h⟩ := h
        have h := h hz16
        refine jx_if_eq 32 36 hX dX1_tellsSomething_29 rfl (by decide) (fun hb17 => ?_) (fun hb17 => ?_)
        · have h := h.1 hb17
          refine jx_iconst 37 hX 0 (by decide) dX1_tellsSomething_36 rfl ?_
          exact jx_zret hX dX1_tellsSomething_37 (by decide) h
        · have h := h.2 hb17
          refine jx_iconst 33 hX 1 (by decide) dX1_tellsSomething_32 rfl (jx_goto 37 hX dX1_tellsSomething_33 (by decide) ?_)
          exact jx_zret hX dX1_tellsSomething_37 (by decide) h
set_option maxHeartbeats 4000000 in
set_option maxRecDepth 100000 in
theorem mX0_minuteTells (l : Launch) (D : jx_Dt) (post : Int32 → jx_St → Prop) (a0 : Nat) (a1 : Int32) (s : jx_St) (h : wX0_minuteTells post a0 a1 s) : jx_Met l yX0_minuteTells cX0_minuteTells 3 (some .boolean) (jx_r 2 45) D jx_LX [.ref (D.2.1 a0), .int a1] s (jx_Qi D jx_LX (fun r u => (r = 0 ∨ r = 1) ∧ post r u)) := by
  refine jx_ofJ (by decide) (Nat.le_of_ble_eq_true rfl) (fun X hl hX => ?_)
  subst hl
  replace hX : jx_K D jx_LX X cX0_minuteTells RX0 3 (some .boolean) (jx_r 2 45) (jx_Qi D jx_LX (fun r u => (r = 0 ∨ r = 1) ∧ post r u)) := hX
  show jx_J D jx_LX X 0 [(0, .ref (D.2.1 a0)), (1, .int a1)] [] s
  have l35 : ∀ (n : Nat) (a0 : Nat) (a1 : Int32) (a2 : Int32) (s : jx_St), wX0_minuteTells_l35 post n a0 a1 a2 s → jx_J D jx_LX X 35 [(0, .ref (D.2.1 a0)), (1, .int a1), (2, .int a2)] [] s := by
    intro n
    induction n with
    | zero => intro a0 a1 a2 s h; exact h.elim
    | succ n ih =>
      intro a0 a1 a2 s h
      rw [wX0_minuteTells_l35] at h
      refine jx_iload_n 36 hX 2 rfl rfl dX0_minuteTells_35 rfl (jx_aload_n 37 hX 0 rfl rfl dX0_minuteTells_36 rfl ?_)
      obtain ⟨hc12, h⟩ := h
      refine jx_getI 40 hX jf_X0_48 rfl hc12 dX0_minuteTells_37 rfl ?_
      refine jx_icmp_ge 43 82 hX dX0_minuteTells_40 rfl (by decide) (fun hb13 => ?_) (fun hb13 => ?_)
      · have h := h.1 hb13
        refine jx_iconst 83 hX 1 (by decide) dX0_minuteTells_82 rfl ?_
        exact jx_zret hX dX0_minuteTells_83 (by decide) h
      · have h := h.2 hb13
        refine jx_iload_n 44 hX 2 rfl rfl dX0_minuteTells_43 rfl (jx_bipush 46 hX 9 (by decide) dX0_minuteTells_44 rfl ?_)
        refine jx_icmp_ge 49 82 hX dX0_minuteTells_46 rfl (by decide) (fun hb14 => ?_) (fun hb14 => ?_)
        · have h := h.1 hb14
          refine jx_iconst 83 hX 1 (by decide) dX0_minuteTells_82 rfl ?_
          exact jx_zret hX dX0_minuteTells_83 (by decide) h
        · have h := h.2 hb14
          refine jx_aload_n 50 hX 0 rfl rfl dX0_minuteTells_49 rfl (jx_getR 53 hX jf_X0_17 rfl hc12 dX0_minuteTells_50 rfl (jx_iload_n 54 hX 2 rfl rfl dX0_minuteTells_53 rfl ?_))
          obtain ⟨hc15, h⟩ := h
          refine jx_aaload 55 hX hc15 dX0_minuteTells_54 rfl (jx_iload_n 56 hX 1 rfl rfl dX0_minuteTells_55 rfl ?_)
          obtain ⟨hc16, h⟩ := h
          refine jx_callVi 59 hX (mX1_isActiveAt _ D _ (s.2 (s.2 a0 8) (a2 : Int32).toNatClampNeg) a1 s h) jv_X0_70 jn_1 hc16 ⟨rfl, rfl, by decide, by decide⟩ rfl rfl (Nat.le_of_ble_eq_true rfl) dX0_minuteTells_56 rfl (fun r17 s18 h => ?_)
          obtain ⟨hz19, h⟩ := h
          have h := h hz19
          refine jx_if_eq 62 76 hX dX0_minuteTells_59 rfl (by decide) (fun hb20 => ?_) (fun hb20 => ?_)
          · have h := h.1 hb20
            obtain ⟨x21, hx21⟩ : ∃ y : Int32, y = a2 + 1 := ⟨_, rfl⟩
            have h := h x21 hx21
            refine jx_iinc 79 hX 2 x21 [(2, .int x21), (0, .ref (D.2.1 a0)), (1, .int a1)] rfl (by rw [hx21]; exact congrArg (fun z => a2 + z) (by decide)) (by decide) rfl dX0_minuteTells_76 rfl (jx_goto 35 hX dX0_minuteTells_79 (by decide) ?_)
            exact jx_sub [1, 2, 0] rfl (ih a0 a1 x21 s18 h)
          · have h := h.2 hb20
            refine jx_aload_n 63 hX 0 rfl rfl dX0_minuteTells_62 rfl (jx_getR 66 hX jf_X0_17 rfl hc12 dX0_minuteTells_63 rfl (jx_iload_n 67 hX 2 rfl rfl dX0_minuteTells_66 rfl ?_))
            obtain ⟨hc22, h⟩ := h
            refine jx_aaload 68 hX hc22 dX0_minuteTells_67 rfl ?_
            obtain ⟨hc23, h⟩ := h
            refine jx_callVi 71 hX (mX1_tellsSomething _ D _ (s18.2 (s18.2 a0 8) (a2 : Int32).toNatClampNeg) s18 h) jv_X0_102 jn_1 hc23 ⟨rfl, rfl, by decide, by decide⟩ rfl rfl (Nat.le_of_ble_eq_true rfl) dX0_minuteTells_68 rfl (fun r24 s25 h => ?_)
            obtain ⟨hz26, h⟩ := h
            have h := h hz26
            refine jx_if_ne 74 76 hX dX0_minuteTells_71 rfl (by decide) (fun hb27 => ?_) (fun hb27 => ?_)
            · have h := h.1 hb27
              obtain ⟨x28, hx28⟩ : ∃ y : Int32, y = a2 + 1 := ⟨_, rfl⟩
              have h := h x28 hx28
              refine jx_iinc 79 hX 2 x28 [(2, .int x28), (0, .ref (D.2.1 a0)), (1, .int a1)] rfl (by rw [hx28]; exact congrArg (fun z => a2 + z) (by decide)) (by decide) rfl dX0_minuteTells_76 rfl (jx_goto 35 hX dX0_minuteTells_79 (by decide) ?_)
              exact jx_sub [1, 2, 0] rfl (ih a0 a1 x28 s25 h)
            · have h := h.2 hb27
              refine jx_iconst 75 hX 0 (by decide) dX0_minuteTells_74 rfl ?_
              exact jx_zret hX dX0_minuteTells_75 (by decide) h
  have l2 : ∀ (n : Nat) (a0 : Nat) (a1 : Int32) (a2 : Int32) (s : jx_St), wX0_minuteTells_l2 post n a0 a1 a2 s → jx_J D jx_LX X 2 [(0, .ref (D.2.1 a0)), (1, .int a1), (2, .int a2)] [] s := by
    intro n
    induction n with
    | zero => intro a0 a1 a2 s h; exact h.elim
    | succ n ih =>
      intro a0 a1 a2 s h
      rw [wX0_minuteTells_l2] at h
      refine jx_iload_n 3 hX 2 rfl rfl dX0_minuteTells_2 rfl (jx_iconst 4 hX 4 (by decide) dX0_minuteTells_3 rfl ?_)
      refine jx_icmp_ge 7 33 hX dX0_minuteTells_4 rfl (by decide) (fun hb1 => ?_) (fun hb1 => ?_)
      · have h := h.1 hb1
        refine jx_iconst 34 hX 1 (by decide) dX0_minuteTells_33 rfl (jx_istore_n 35 hX [(2, .int 1), (0, .ref (D.2.1 a0)), (1, .int a1)] rfl (by decide) rfl dX0_minuteTells_34 rfl ?_)
        obtain ⟨n_, h⟩ := h
        exact jx_sub [1, 2, 0] rfl (l35 n_ a0 a1 1 s h)
      · have h := h.2 hb1
        refine jx_aload_n 8 hX 0 rfl rfl dX0_minuteTells_7 rfl ?_
        obtain ⟨hc2, h⟩ := h
        refine jx_getR 11 hX jf_X0_17 rfl hc2 dX0_minuteTells_8 rfl (jx_aload_n 12 hX 0 rfl rfl dX0_minuteTells_11 rfl (jx_iload_n 13 hX 1 rfl rfl dX0_minuteTells_12 rfl (jx_iload_n 14 hX 2 rfl rfl dX0_minuteTells_13 rfl ?_)))
        refine jx_callVi 17 hX (mX0_teller _ D _ a0 a1 a2 s h) jv_X0_73 jn_0 hc2 ⟨rfl, rfl, by decide, by decide⟩ rfl rfl (Nat.le_of_ble_eq_true rfl) dX0_minuteTells_14 rfl (fun r3 s4 h => ?_)
        obtain ⟨hc5, h⟩ := h
        refine jx_aaload 18 hX hc5 dX0_minuteTells_17 rfl (jx_iload_n 19 hX 2 rfl rfl dX0_minuteTells_18 rfl ?_)
        obtain ⟨hc6, h⟩ := h
        refine jx_callVi 22 hX (mX1_tells _ D _ (s4.2 (s.2 a0 8) (r3 : Int32).toNatClampNeg) a2 s4 h) jv_X0_67 jn_1 hc6 ⟨rfl, rfl, by decide, by decide⟩ rfl rfl (Nat.le_of_ble_eq_true rfl) dX0_minuteTells_19 rfl (fun r7 s8 h => ?_)
        obtain ⟨hz9, h⟩ := h
        have h := h hz9
        refine jx_if_ne 25 27 hX dX0_minuteTells_22 rfl (by decide) (fun hb10 => ?_) (fun hb10 => ?_)
        · have h := h.1 hb10
          obtain ⟨x11, hx11⟩ : ∃ y : Int32, y = a2 + 1 := ⟨_, rfl⟩
          have h := h x11 hx11
          refine jx_iinc 30 hX 2 x11 [(2, .int x11), (0, .ref (D.2.1 a0)), (1, .int a1)] rfl (by rw [hx11]; exact congrArg (fun z => a2 + z) (by decide)) (by decide) rfl dX0_minuteTells_27 rfl (jx_goto 2 hX dX0_minuteTells_30 (by decide) ?_)
          exact jx_sub [1, 2, 0] rfl (ih a0 a1 x11 s8 h)
        · have h := h.2 hb10
          refine jx_iconst 26 hX 0 (by decide) dX0_minuteTells_25 rfl ?_
          exact jx_zret hX dX0_minuteTells_26 (by decide) h
  unfold wX0_minuteTells at h
  refine jx_iconst 1 hX 0 (by decide) dX0_minuteTells_0 rfl (jx_istore_n 2 hX [(2, .int 0), (0, .ref (D.2.1 a0)), (1, .int a1)] rfl (by decide) rfl dX0_minuteTells_1 rfl ?_)
  obtain ⟨n_, h⟩ := h
  exact jx_sub [1, 2, 0] rfl (l2 n_ a0 a1 0 s h)
set_option maxHeartbeats 4000000 in
set_option maxRecDepth 100000 in
theorem mX0_eachMinuteTells (l : Launch) (D : jx_Dt) (post : Int32 → jx_St → Prop) (a0 : Nat) (s : jx_St) (h : wX0_eachMinuteTells post a0 s) : jx_Met l yX0_eachMinuteTells cX0_eachMinuteTells 2 (some .boolean) (jx_r 3 67) D jx_LX [.ref (D.2.1 a0)] s (jx_Qi D jx_LX (fun r u => (r = 0 ∨ r = 1) ∧ post r u)) := by
  refine jx_ofJ (by decide) (Nat.le_of_ble_eq_true rfl) (fun X hl hX => ?_)
  subst hl
  replace hX : jx_K D jx_LX X cX0_eachMinuteTells RX0 2 (some .boolean) (jx_r 3 67) (jx_Qi D jx_LX (fun r u => (r = 0 ∨ r = 1) ∧ post r u)) := hX
  show jx_J D jx_LX X 0 [(0, .ref (D.2.1 a0))] [] s
  have b50 : ∀ (k2_ : Nat → Int32 → jx_St → Prop) (hk2_ : ∀ (a0 : Nat) (a1 : Int32) (s : jx_St), k2_ a0 a1 s → jx_J D jx_LX X 2 [(0, .ref (D.2.1 a0)), (1, .int a1)] [] s) (a0 : Nat) (a1 : Int32) (s : jx_St), wX0_eachMinuteTells_b50 post k2_ a0 a1 s → jx_J D jx_LX X 50 [(0, .ref (D.2.1 a0)), (1, .int a1)] [] s := by
    intro k2_ hk2_ a0 a1 s h
    unfold wX0_eachMinuteTells_b50 at h
    refine jx_aload_n 51 hX 0 rfl rfl dX0_eachMinuteTells_50 rfl (jx_aload_n 52 hX 0 rfl rfl dX0_eachMinuteTells_51 rfl ?_)
    obtain ⟨hc16, h⟩ := h
    refine jx_getR 55 hX jf_X0_17 rfl hc16 dX0_eachMinuteTells_52 rfl (jx_iload_n 56 hX 1 rfl rfl dX0_eachMinuteTells_55 rfl ?_)
    obtain ⟨hc17, h⟩ := h
    refine jx_aaload 57 hX hc17 dX0_eachMinuteTells_56 rfl ?_
    obtain ⟨hc18, h⟩ := h
    refine jx_getI 60 hX jf_X0_60 rfl hc18 dX0_eachMinuteTells_57 rfl ?_
    refine jx_callVi 63 hX (mX0_covers _ D _ a0 (s.1 (s.2 (s.2 a0 8) (a1 : Int32).toNatClampNeg) 3) s h) jv_X0_93 jn_0 hc16 ⟨rfl, rfl, by decide, by decide⟩ rfl rfl (Nat.le_of_ble_eq_true rfl) dX0_eachMinuteTells_60 rfl (fun r19 s20 h => ?_)
    obtain ⟨hz21, h⟩ := h
    have h := h hz21
    refine jx_if_eq 66 84 hX dX0_eachMinuteTells_63 rfl (by decide) (fun hb22 => ?_) (fun hb22 => ?_)
    · have h := h.1 hb22
      obtain ⟨x23, hx23⟩ : ∃ y : Int32, y = a1 + 1 := ⟨_, rfl⟩
      have h := h x23 hx23
      refine jx_iinc 87 hX 1 x23 [(1, .int x23), (0, .ref (D.2.1 a0))] rfl (by rw [hx23]; exact congrArg (fun z => a1 + z) (by decide)) (by decide) rfl dX0_eachMinuteTells_84 rfl (jx_goto 2 hX dX0_eachMinuteTells_87 (by decide) ?_)
      exact jx_sub [1, 0] rfl (hk2_ a0 x23 s20 h)
    · have h := h.2 hb22
      refine jx_aload_n 67 hX 0 rfl rfl dX0_eachMinuteTells_66 rfl (jx_aload_n 68 hX 0 rfl rfl dX0_eachMinuteTells_67 rfl (jx_getR 71 hX jf_X0_17 rfl hc16 dX0_eachMinuteTells_68 rfl (jx_iload_n 72 hX 1 rfl rfl dX0_eachMinuteTells_71 rfl ?_)))
      obtain ⟨hc24, h⟩ := h
      refine jx_aaload 73 hX hc24 dX0_eachMinuteTells_72 rfl ?_
      obtain ⟨hc25, h⟩ := h
      refine jx_getI 76 hX jf_X0_60 rfl hc25 dX0_eachMinuteTells_73 rfl ?_
      refine jx_callVi 79 hX (mX0_minuteTells _ D _ a0 (s20.1 (s20.2 (s20.2 a0 8) (a1 : Int32).toNatClampNeg) 3) s20 h) jv_X0_99 jn_0 hc16 ⟨rfl, rfl, by decide, by decide⟩ rfl rfl (Nat.le_of_ble_eq_true rfl) dX0_eachMinuteTells_76 rfl (fun r26 s27 h => ?_)
      obtain ⟨hz28, h⟩ := h
      have h := h hz28
      refine jx_if_ne 82 84 hX dX0_eachMinuteTells_79 rfl (by decide) (fun hb29 => ?_) (fun hb29 => ?_)
      · have h := h.1 hb29
        obtain ⟨x30, hx30⟩ : ∃ y : Int32, y = a1 + 1 := ⟨_, rfl⟩
        have h := h x30 hx30
        refine jx_iinc 87 hX 1 x30 [(1, .int x30), (0, .ref (D.2.1 a0))] rfl (by rw [hx30]; exact congrArg (fun z => a1 + z) (by decide)) (by decide) rfl dX0_eachMinuteTells_84 rfl (jx_goto 2 hX dX0_eachMinuteTells_87 (by decide) ?_)
        exact jx_sub [1, 0] rfl (hk2_ a0 x30 s27 h)
      · have h := h.2 hb29
        refine jx_iconst 83 hX 0 (by decide) dX0_eachMinuteTells_82 rfl ?_
        exact jx_zret hX dX0_eachMinuteTells_83 (by decide) h
  have l2 : ∀ (n : Nat) (a0 : Nat) (a1 : Int32) (s : jx_St), wX0_eachMinuteTells_l2 post n a0 a1 s → jx_J D jx_LX X 2 [(0, .ref (D.2.1 a0)), (1, .int a1)] [] s := by
    intro n
    induction n with
    | zero => intro a0 a1 s h; exact h.elim
    | succ n ih =>
      intro a0 a1 s h
      rw [wX0_eachMinuteTells_l2] at h
      refine jx_iload_n 3 hX 1 rfl rfl dX0_eachMinuteTells_2 rfl (jx_aload_n 4 hX 0 rfl rfl dX0_eachMinuteTells_3 rfl ?_)
      obtain ⟨hc1, h⟩ := h
      refine jx_getI 7 hX jf_X0_48 rfl hc1 dX0_eachMinuteTells_4 rfl ?_
      refine jx_icmp_ge 10 90 hX dX0_eachMinuteTells_7 rfl (by decide) (fun hb2 => ?_) (fun hb2 => ?_)
      · have h := h.1 hb2
        refine jx_iconst 91 hX 1 (by decide) dX0_eachMinuteTells_90 rfl ?_
        exact jx_zret hX dX0_eachMinuteTells_91 (by decide) h
      · have h := h.2 hb2
        refine jx_iload_n 11 hX 1 rfl rfl dX0_eachMinuteTells_10 rfl (jx_bipush 13 hX 9 (by decide) dX0_eachMinuteTells_11 rfl ?_)
        refine jx_icmp_ge 16 90 hX dX0_eachMinuteTells_13 rfl (by decide) (fun hb3 => ?_) (fun hb3 => ?_)
        · have h := h.1 hb3
          refine jx_iconst 91 hX 1 (by decide) dX0_eachMinuteTells_90 rfl ?_
          exact jx_zret hX dX0_eachMinuteTells_91 (by decide) h
        · have h := h.2 hb3
          refine jx_aload_n 17 hX 0 rfl rfl dX0_eachMinuteTells_16 rfl (jx_aload_n 18 hX 0 rfl rfl dX0_eachMinuteTells_17 rfl (jx_getR 21 hX jf_X0_17 rfl hc1 dX0_eachMinuteTells_18 rfl (jx_iload_n 22 hX 1 rfl rfl dX0_eachMinuteTells_21 rfl ?_)))
          obtain ⟨hc4, h⟩ := h
          refine jx_aaload 23 hX hc4 dX0_eachMinuteTells_22 rfl ?_
          obtain ⟨hc5, h⟩ := h
          refine jx_getI 26 hX jf_X0_57 rfl hc5 dX0_eachMinuteTells_23 rfl ?_
          refine jx_callVi 29 hX (mX0_covers _ D _ a0 (s.1 (s.2 (s.2 a0 8) (a1 : Int32).toNatClampNeg) 2) s h) jv_X0_93 jn_0 hc1 ⟨rfl, rfl, by decide, by decide⟩ rfl rfl (Nat.le_of_ble_eq_true rfl) dX0_eachMinuteTells_26 rfl (fun r6 s7 h => ?_)
          obtain ⟨hz8, h⟩ := h
          have h := h hz8
          refine jx_if_eq 32 50 hX dX0_eachMinuteTells_29 rfl (by decide) (fun hb9 => ?_) (fun hb9 => ?_)
          · have h := h.1 hb9
            exact jx_sub [0, 1] rfl (b50 _ (fun z0 z1 zs hz => ih z0 z1 zs hz) a0 a1 s7 h)
          · have h := h.2 hb9
            refine jx_aload_n 33 hX 0 rfl rfl dX0_eachMinuteTells_32 rfl (jx_aload_n 34 hX 0 rfl rfl dX0_eachMinuteTells_33 rfl (jx_getR 37 hX jf_X0_17 rfl hc1 dX0_eachMinuteTells_34 rfl (jx_iload_n 38 hX 1 rfl rfl dX0_eachMinuteTells_37 rfl ?_)))
            obtain ⟨hc10, h⟩ := h
            refine jx_aaload 39 hX hc10 dX0_eachMinuteTells_38 rfl ?_
            obtain ⟨hc11, h⟩ := h
            refine jx_getI 42 hX jf_X0_57 rfl hc11 dX0_eachMinuteTells_39 rfl ?_
            refine jx_callVi 45 hX (mX0_minuteTells _ D _ a0 (s7.1 (s7.2 (s7.2 a0 8) (a1 : Int32).toNatClampNeg) 2) s7 h) jv_X0_99 jn_0 hc1 ⟨rfl, rfl, by decide, by decide⟩ rfl rfl (Nat.le_of_ble_eq_true rfl) dX0_eachMinuteTells_42 rfl (fun r12 s13 h => ?_)
            obtain ⟨hz14, h⟩ := h
            have h := h hz14
            refine jx_if_ne 48 50 hX dX0_eachMinuteTells_45 rfl (by decide) (fun hb15 => ?_) (fun hb15 => ?_)
            · have h := h.1 hb15
              exact jx_sub [0, 1] rfl (b50 _ (fun z0 z1 zs hz => ih z0 z1 zs hz) a0 a1 s13 h)
            · have h := h.2 hb15
              refine jx_iconst 49 hX 0 (by decide) dX0_eachMinuteTells_48 rfl ?_
              exact jx_zret hX dX0_eachMinuteTells_49 (by decide) h
  unfold wX0_eachMinuteTells at h
  refine jx_iconst 1 hX 0 (by decide) dX0_eachMinuteTells_0 rfl (jx_istore_n 2 hX [(1, .int 0), (0, .ref (D.2.1 a0))] rfl (by decide) rfl dX0_eachMinuteTells_1 rfl ?_)
  obtain ⟨n_, h⟩ := h
  exact jx_sub [1, 0] rfl (l2 n_ a0 0 s h)
set_option maxHeartbeats 4000000 in
set_option maxRecDepth 100000 in
theorem mX0_findActive (l : Launch) (D : jx_Dt) (post : Int32 → jx_St → Prop) (a0 : Nat) (a1 : Int32) (a2 : Int32) (s : jx_St) (h : wX0_findActive post a0 a1 a2 s) : jx_Met l yX0_findActive cX0_findActive 5 (some .int) (jx_r 1 21) D jx_LX [.ref (D.2.1 a0), .int a1, .int a2] s (jx_Qi D jx_LX post) := by
  refine jx_ofJ (by decide) (Nat.le_of_ble_eq_true rfl) (fun X hl hX => ?_)
  subst hl
  replace hX : jx_K D jx_LX X cX0_findActive RX0 5 (some .int) (jx_r 1 21) (jx_Qi D jx_LX post) := hX
  show jx_J D jx_LX X 0 [(0, .ref (D.2.1 a0)), (1, .int a1), (2, .int a2)] [] s
  have l5 : ∀ (n : Nat) (a0 : Nat) (a1 : Int32) (a2 : Int32) (a3 : Int32) (a4 : Int32) (s : jx_St), wX0_findActive_l5 post n a0 a1 a2 a3 a4 s → jx_J D jx_LX X 5 [(0, .ref (D.2.1 a0)), (1, .int a1), (2, .int a2), (3, .int a3), (4, .int a4)] [] s := by
    intro n
    induction n with
    | zero => intro a0 a1 a2 a3 a4 s h; exact h.elim
    | succ n ih =>
      intro a0 a1 a2 a3 a4 s h
      rw [wX0_findActive_l5] at h
      refine jx_iload 7 hX 4 rfl dX0_findActive_5 rfl (jx_aload_n 8 hX 0 rfl rfl dX0_findActive_7 rfl ?_)
      obtain ⟨hc1, h⟩ := h
      refine jx_getI 11 hX jf_X0_48 rfl hc1 dX0_findActive_8 rfl ?_
      refine jx_icmp_ge 14 52 hX dX0_findActive_11 rfl (by decide) (fun hb2 => ?_) (fun hb2 => ?_)
      · have h := h.1 hb2
        refine jx_iconst 53 hX (-1) (by decide) dX0_findActive_52 rfl ?_
        exact jx_iret hX dX0_findActive_53 h
      · have h := h.2 hb2
        refine jx_iload 16 hX 4 rfl dX0_findActive_14 rfl (jx_bipush 18 hX 9 (by decide) dX0_findActive_16 rfl ?_)
        refine jx_icmp_ge 21 52 hX dX0_findActive_18 rfl (by decide) (fun hb3 => ?_) (fun hb3 => ?_)
        · have h := h.1 hb3
          refine jx_iconst 53 hX (-1) (by decide) dX0_findActive_52 rfl ?_
          exact jx_iret hX dX0_findActive_53 h
        · have h := h.2 hb3
          refine jx_aload_n 22 hX 0 rfl rfl dX0_findActive_21 rfl (jx_getR 25 hX jf_X0_17 rfl hc1 dX0_findActive_22 rfl (jx_iload 27 hX 4 rfl dX0_findActive_25 rfl ?_))
          obtain ⟨hc4, h⟩ := h
          refine jx_aaload 28 hX hc4 dX0_findActive_27 rfl (jx_iload_n 29 hX 1 rfl rfl dX0_findActive_28 rfl ?_)
          obtain ⟨hc5, h⟩ := h
          refine jx_callVi 32 hX (mX1_isActiveAt _ D _ (s.2 (s.2 a0 8) (a4 : Int32).toNatClampNeg) a1 s h) jv_X0_70 jn_1 hc5 ⟨rfl, rfl, by decide, by decide⟩ rfl rfl (Nat.le_of_ble_eq_true rfl) dX0_findActive_29 rfl (fun r6 s7 h => ?_)
          obtain ⟨hz8, h⟩ := h
          have h := h hz8
          refine jx_if_eq 35 46 hX dX0_findActive_32 rfl (by decide) (fun hb9 => ?_) (fun hb9 => ?_)
          · have h := h.1 hb9
            obtain ⟨x10, hx10⟩ : ∃ y : Int32, y = a4 + 1 := ⟨_, rfl⟩
            have h := h x10 hx10
            refine jx_iinc 49 hX 4 x10 [(4, .int x10), (0, .ref (D.2.1 a0)), (1, .int a1), (2, .int a2), (3, .int a3)] rfl (by rw [hx10]; exact congrArg (fun z => a4 + z) (by decide)) (by decide) rfl dX0_findActive_46 rfl (jx_goto 5 hX dX0_findActive_49 (by decide) ?_)
            exact jx_sub [1, 2, 3, 4, 0] rfl (ih a0 a1 a2 a3 x10 s7 h)
          · have h := h.2 hb9
            refine jx_iload_n 36 hX 3 rfl rfl dX0_findActive_35 rfl (jx_iload_n 37 hX 2 rfl rfl dX0_findActive_36 rfl ?_)
            refine jx_icmp_ne 40 43 hX dX0_findActive_37 rfl (by decide) (fun hb11 => ?_) (fun hb11 => ?_)
            · have h := h.1 hb11
              obtain ⟨x12, hx12⟩ : ∃ y : Int32, y = a3 + 1 := ⟨_, rfl⟩
              have h := h x12 hx12
              refine jx_iinc 46 hX 3 x12 [(3, .int x12), (0, .ref (D.2.1 a0)), (1, .int a1), (2, .int a2), (4, .int a4)] rfl (by rw [hx12]; exact congrArg (fun z => a3 + z) (by decide)) (by decide) rfl dX0_findActive_43 rfl ?_
              obtain ⟨x13, hx13⟩ : ∃ y : Int32, y = a4 + 1 := ⟨_, rfl⟩
              have h := h x13 hx13
              refine jx_iinc 49 hX 4 x13 [(4, .int x13), (3, .int x12), (0, .ref (D.2.1 a0)), (1, .int a1), (2, .int a2)] rfl (by rw [hx13]; exact congrArg (fun z => a4 + z) (by decide)) (by decide) rfl dX0_findActive_46 rfl (jx_goto 5 hX dX0_findActive_49 (by decide) ?_)
              exact jx_sub [2, 3, 4, 1, 0] rfl (ih a0 a1 a2 x12 x13 s7 h)
            · have h := h.2 hb11
              refine jx_iload 42 hX 4 rfl dX0_findActive_40 rfl ?_
              exact jx_iret hX dX0_findActive_42 h
  unfold wX0_findActive at h
  refine jx_iconst 1 hX 0 (by decide) dX0_findActive_0 rfl (jx_istore_n 2 hX [(3, .int 0), (0, .ref (D.2.1 a0)), (1, .int a1), (2, .int a2)] rfl (by decide) rfl dX0_findActive_1 rfl (jx_iconst 3 hX 1 (by decide) dX0_findActive_2 rfl (jx_istore 5 hX [(4, .int 1), (3, .int 0), (0, .ref (D.2.1 a0)), (1, .int a1), (2, .int a2)] (by decide) rfl dX0_findActive_3 rfl ?_)))
  obtain ⟨n_, h⟩ := h
  exact jx_sub [2, 3, 4, 1, 0] rfl (l5 n_ a0 a1 a2 0 1 s h)
set_option maxHeartbeats 4000000 in
set_option maxRecDepth 100000 in
theorem mX0_hasGroup (l : Launch) (D : jx_Dt) (post : Int32 → jx_St → Prop) (a0 : Nat) (a1 : Int32) (s : jx_St) (h : wX0_hasGroup post a0 a1 s) : jx_Met l yX0_hasGroup cX0_hasGroup 2 (some .boolean) (jx_r 0 0) D jx_LX [.ref (D.2.1 a0), .int a1] s (jx_Qi D jx_LX (fun r u => (r = 0 ∨ r = 1) ∧ post r u)) := by
  refine jx_ofJ (by decide) (Nat.le_of_ble_eq_true rfl) (fun X hl hX => ?_)
  subst hl
  replace hX : jx_K D jx_LX X cX0_hasGroup RX0 2 (some .boolean) (jx_r 0 0) (jx_Qi D jx_LX (fun r u => (r = 0 ∨ r = 1) ∧ post r u)) := hX
  show jx_J D jx_LX X 0 [(0, .ref (D.2.1 a0)), (1, .int a1)] [] s
  unfold wX0_hasGroup at h
  refine jx_iload_n 1 hX 1 rfl rfl dX0_hasGroup_0 rfl ?_
  refine jx_if_lt 4 22 hX dX0_hasGroup_1 rfl (by decide) (fun hb1 => ?_) (fun hb1 => ?_)
  · have h := h.1 hb1
    refine jx_iconst 23 hX 0 (by decide) dX0_hasGroup_22 rfl ?_
    exact jx_zret hX dX0_hasGroup_23 (by decide) h
  · have h := h.2 hb1
    refine jx_iload_n 5 hX 1 rfl rfl dX0_hasGroup_4 rfl (jx_aload_n 6 hX 0 rfl rfl dX0_hasGroup_5 rfl ?_)
    obtain ⟨hc2, h⟩ := h
    refine jx_getI 9 hX jf_X0_48 rfl hc2 dX0_hasGroup_6 rfl ?_
    refine jx_icmp_ge 12 22 hX dX0_hasGroup_9 rfl (by decide) (fun hb3 => ?_) (fun hb3 => ?_)
    · have h := h.1 hb3
      refine jx_iconst 23 hX 0 (by decide) dX0_hasGroup_22 rfl ?_
      exact jx_zret hX dX0_hasGroup_23 (by decide) h
    · have h := h.2 hb3
      refine jx_iload_n 13 hX 1 rfl rfl dX0_hasGroup_12 rfl (jx_bipush 15 hX 9 (by decide) dX0_hasGroup_13 rfl ?_)
      refine jx_icmp_ge 18 22 hX dX0_hasGroup_15 rfl (by decide) (fun hb4 => ?_) (fun hb4 => ?_)
      · have h := h.1 hb4
        refine jx_iconst 23 hX 0 (by decide) dX0_hasGroup_22 rfl ?_
        exact jx_zret hX dX0_hasGroup_23 (by decide) h
      · have h := h.2 hb4
        refine jx_iconst 19 hX 1 (by decide) dX0_hasGroup_18 rfl (jx_goto 23 hX dX0_hasGroup_19 (by decide) ?_)
        exact jx_zret hX dX0_hasGroup_23 (by decide) h
set_option maxHeartbeats 4000000 in
set_option maxRecDepth 100000 in
theorem mX0_isTurn (l : Launch) (D : jx_Dt) (post : Int32 → jx_St → Prop) (a0 : Nat) (a1 : Int32) (s : jx_St) (h : wX0_isTurn post a0 a1 s) : jx_Met l yX0_isTurn cX0_isTurn 3 (some .boolean) (jx_r 2 45) D jx_LX [.ref (D.2.1 a0), .int a1] s (jx_Qi D jx_LX (fun r u => (r = 0 ∨ r = 1) ∧ post r u)) := by
  refine jx_ofJ (by decide) (Nat.le_of_ble_eq_true rfl) (fun X hl hX => ?_)
  subst hl
  replace hX : jx_K D jx_LX X cX0_isTurn RX0 3 (some .boolean) (jx_r 2 45) (jx_Qi D jx_LX (fun r u => (r = 0 ∨ r = 1) ∧ post r u)) := hX
  show jx_J D jx_LX X 0 [(0, .ref (D.2.1 a0)), (1, .int a1)] [] s
  have l34 : ∀ (n : Nat) (a0 : Nat) (a1 : Int32) (a2 : Int32) (s : jx_St), wX0_isTurn_l34 post n a0 a1 a2 s → jx_J D jx_LX X 34 [(0, .ref (D.2.1 a0)), (1, .int a1), (2, .int a2)] [] s := by
    intro n
    induction n with
    | zero => intro a0 a1 a2 s h; exact h.elim
    | succ n ih =>
      intro a0 a1 a2 s h
      rw [wX0_isTurn_l34] at h
      refine jx_iload_n 35 hX 2 rfl rfl dX0_isTurn_34 rfl (jx_aload_n 36 hX 0 rfl rfl dX0_isTurn_35 rfl ?_)
      obtain ⟨hc9, h⟩ := h
      refine jx_getI 39 hX jf_X0_48 rfl hc9 dX0_isTurn_36 rfl ?_
      refine jx_icmp_ge 42 81 hX dX0_isTurn_39 rfl (by decide) (fun hb10 => ?_) (fun hb10 => ?_)
      · have h := h.1 hb10
        refine jx_iconst 82 hX 0 (by decide) dX0_isTurn_81 rfl ?_
        exact jx_zret hX dX0_isTurn_82 (by decide) h
      · have h := h.2 hb10
        refine jx_iload_n 43 hX 2 rfl rfl dX0_isTurn_42 rfl (jx_bipush 45 hX 9 (by decide) dX0_isTurn_43 rfl ?_)
        refine jx_icmp_ge 48 81 hX dX0_isTurn_45 rfl (by decide) (fun hb11 => ?_) (fun hb11 => ?_)
        · have h := h.1 hb11
          refine jx_iconst 82 hX 0 (by decide) dX0_isTurn_81 rfl ?_
          exact jx_zret hX dX0_isTurn_82 (by decide) h
        · have h := h.2 hb11
          refine jx_aload_n 49 hX 0 rfl rfl dX0_isTurn_48 rfl (jx_getR 52 hX jf_X0_17 rfl hc9 dX0_isTurn_49 rfl (jx_iload_n 53 hX 2 rfl rfl dX0_isTurn_52 rfl ?_))
          obtain ⟨hc12, h⟩ := h
          refine jx_aaload 54 hX hc12 dX0_isTurn_53 rfl (jx_iload_n 55 hX 1 rfl rfl dX0_isTurn_54 rfl ?_)
          obtain ⟨hc13, h⟩ := h
          refine jx_callVi 58 hX (mX1_isActiveAt _ D _ (s.2 (s.2 a0 8) (a2 : Int32).toNatClampNeg) a1 s h) jv_X0_70 jn_1 hc13 ⟨rfl, rfl, by decide, by decide⟩ rfl rfl (Nat.le_of_ble_eq_true rfl) dX0_isTurn_55 rfl (fun r14 s15 h => ?_)
          obtain ⟨hz16, h⟩ := h
          have h := h hz16
          refine jx_aload_n 59 hX 0 rfl rfl dX0_isTurn_58 rfl (jx_getR 62 hX jf_X0_17 rfl hc9 dX0_isTurn_59 rfl (jx_iload_n 63 hX 2 rfl rfl dX0_isTurn_62 rfl ?_))
          obtain ⟨hc17, h⟩ := h
          refine jx_aaload 64 hX hc17 dX0_isTurn_63 rfl (jx_iload_n 65 hX 1 rfl rfl dX0_isTurn_64 rfl (jx_iconst 66 hX 1 (by decide) dX0_isTurn_65 rfl (jx_isub 67 hX dX0_isTurn_66 rfl ?_)))
          obtain ⟨hc18, h⟩ := h
          refine jx_callVi 70 hX (mX1_isActiveAt _ D _ (s15.2 (s15.2 a0 8) (a2 : Int32).toNatClampNeg) (a1 - 1) s15 h) jv_X0_70 jn_1 hc18 ⟨rfl, rfl, by decide, by decide⟩ rfl rfl (Nat.le_of_ble_eq_true rfl) dX0_isTurn_67 rfl (fun r19 s20 h => ?_)
          obtain ⟨hz21, h⟩ := h
          have h := h hz21
          refine jx_icmp_eq 73 75 hX dX0_isTurn_70 rfl (by decide) (fun hb22 => ?_) (fun hb22 => ?_)
          · have h := h.1 hb22
            obtain ⟨x23, hx23⟩ : ∃ y : Int32, y = a2 + 1 := ⟨_, rfl⟩
            have h := h x23 hx23
            refine jx_iinc 78 hX 2 x23 [(2, .int x23), (0, .ref (D.2.1 a0)), (1, .int a1)] rfl (by rw [hx23]; exact congrArg (fun z => a2 + z) (by decide)) (by decide) rfl dX0_isTurn_75 rfl (jx_goto 34 hX dX0_isTurn_78 (by decide) ?_)
            exact jx_sub [1, 2, 0] rfl (ih a0 a1 x23 s20 h)
          · have h := h.2 hb22
            refine jx_iconst 74 hX 1 (by decide) dX0_isTurn_73 rfl ?_
            exact jx_zret hX dX0_isTurn_74 (by decide) h
  have l2 : ∀ (n : Nat) (a0 : Nat) (a1 : Int32) (a2 : Int32) (s : jx_St), wX0_isTurn_l2 post n a0 a1 a2 s → jx_J D jx_LX X 2 [(0, .ref (D.2.1 a0)), (1, .int a1), (2, .int a2)] [] s := by
    intro n
    induction n with
    | zero => intro a0 a1 a2 s h; exact h.elim
    | succ n ih =>
      intro a0 a1 a2 s h
      rw [wX0_isTurn_l2] at h
      refine jx_iload_n 3 hX 2 rfl rfl dX0_isTurn_2 rfl (jx_iconst 4 hX 4 (by decide) dX0_isTurn_3 rfl ?_)
      refine jx_icmp_ge 7 32 hX dX0_isTurn_4 rfl (by decide) (fun hb1 => ?_) (fun hb1 => ?_)
      · have h := h.1 hb1
        refine jx_iconst 33 hX 1 (by decide) dX0_isTurn_32 rfl (jx_istore_n 34 hX [(2, .int 1), (0, .ref (D.2.1 a0)), (1, .int a1)] rfl (by decide) rfl dX0_isTurn_33 rfl ?_)
        obtain ⟨n_, h⟩ := h
        exact jx_sub [1, 2, 0] rfl (l34 n_ a0 a1 1 s h)
      · have h := h.2 hb1
        refine jx_aload_n 8 hX 0 rfl rfl dX0_isTurn_7 rfl (jx_iload_n 9 hX 1 rfl rfl dX0_isTurn_8 rfl (jx_iload_n 10 hX 2 rfl rfl dX0_isTurn_9 rfl ?_))
        obtain ⟨hc2, h⟩ := h
        refine jx_callVi 13 hX (mX0_teller _ D _ a0 a1 a2 s h) jv_X0_73 jn_0 hc2 ⟨rfl, rfl, by decide, by decide⟩ rfl rfl (Nat.le_of_ble_eq_true rfl) dX0_isTurn_10 rfl (fun r3 s4 h => ?_)
        refine jx_aload_n 14 hX 0 rfl rfl dX0_isTurn_13 rfl (jx_iload_n 15 hX 1 rfl rfl dX0_isTurn_14 rfl (jx_iconst 16 hX 1 (by decide) dX0_isTurn_15 rfl (jx_isub 17 hX dX0_isTurn_16 rfl (jx_iload_n 18 hX 2 rfl rfl dX0_isTurn_17 rfl ?_))))
        refine jx_callVi 21 hX (mX0_teller _ D _ a0 (a1 - 1) a2 s4 h) jv_X0_73 jn_0 hc2 ⟨rfl, rfl, by decide, by decide⟩ rfl rfl (Nat.le_of_ble_eq_true rfl) dX0_isTurn_18 rfl (fun r5 s6 h => ?_)
        refine jx_icmp_eq 24 26 hX dX0_isTurn_21 rfl (by decide) (fun hb7 => ?_) (fun hb7 => ?_)
        · have h := h.1 hb7
          obtain ⟨x8, hx8⟩ : ∃ y : Int32, y = a2 + 1 := ⟨_, rfl⟩
          have h := h x8 hx8
          refine jx_iinc 29 hX 2 x8 [(2, .int x8), (0, .ref (D.2.1 a0)), (1, .int a1)] rfl (by rw [hx8]; exact congrArg (fun z => a2 + z) (by decide)) (by decide) rfl dX0_isTurn_26 rfl (jx_goto 2 hX dX0_isTurn_29 (by decide) ?_)
          exact jx_sub [1, 2, 0] rfl (ih a0 a1 x8 s6 h)
        · have h := h.2 hb7
          refine jx_iconst 25 hX 1 (by decide) dX0_isTurn_24 rfl ?_
          exact jx_zret hX dX0_isTurn_25 (by decide) h
  unfold wX0_isTurn at h
  refine jx_iconst 1 hX 0 (by decide) dX0_isTurn_0 rfl (jx_istore_n 2 hX [(2, .int 0), (0, .ref (D.2.1 a0)), (1, .int a1)] rfl (by decide) rfl dX0_isTurn_1 rfl ?_)
  obtain ⟨n_, h⟩ := h
  exact jx_sub [1, 2, 0] rfl (l2 n_ a0 a1 0 s h)
set_option maxHeartbeats 4000000 in
set_option maxRecDepth 100000 in
theorem mX0_keepTokens (l : Launch) (D : jx_Dt) (post : jx_St → Prop) (a0 : Nat) (a1 : Nat) (a2 : Int32) (s : jx_St) (h : wX0_keepTokens post a0 a1 a2 s) : jx_Met l yX0_keepTokens cX0_keepTokens 6 none (jx_r 0 0) D jx_LX [.ref (D.2.1 a0), .ref (D.2.1 a1), .int a2] s (jx_Qv D jx_LX post) := by
  refine jx_ofJ (by decide) (Nat.le_of_ble_eq_true rfl) (fun X hl hX => ?_)
  subst hl
  replace hX : jx_K D jx_LX X cX0_keepTokens RX0 6 none (jx_r 0 0) (jx_Qv D jx_LX post) := hX
  show jx_J D jx_LX X 0 [(0, .ref (D.2.1 a0)), (1, .ref (D.2.1 a1)), (2, .int a2)] [] s
  have b84 : ∀ (k10_ : Nat → Nat → Int32 → Int32 → Int32 → jx_St → Prop) (hk10_ : ∀ (a0 : Nat) (a1 : Nat) (a2 : Int32) (a3 : Int32) (a4 : Int32) (s : jx_St), k10_ a0 a1 a2 a3 a4 s → jx_J D jx_LX X 10 [(0, .ref (D.2.1 a0)), (1, .ref (D.2.1 a1)), (2, .int a2), (3, .int a3), (4, .int a4)] [] s) (a0 : Nat) (a1 : Nat) (a2 : Int32) (a4 : Int32) (a5 : Int32) (s : jx_St), wX0_keepTokens_b84 post k10_ a0 a1 a2 a4 a5 s → jx_J D jx_LX X 84 [(0, .ref (D.2.1 a0)), (1, .ref (D.2.1 a1)), (2, .int a2), (4, .int a4), (5, .int a5)] [] s := by
    intro k10_ hk10_ a0 a1 a2 a4 a5 s h
    unfold wX0_keepTokens_b84 at h
    refine jx_iload 86 hX 4 rfl dX0_keepTokens_84 rfl ?_
    refine jx_if_ne 89 112 hX dX0_keepTokens_86 rfl (by decide) (fun hb16 => ?_) (fun hb16 => ?_)
    · have h := h.1 hb16
      refine jx_iload 114 hX 4 rfl dX0_keepTokens_112 rfl (jx_istore_n 115 hX [(3, .int a5), (0, .ref (D.2.1 a0)), (1, .ref (D.2.1 a1)), (2, .int a2), (4, .int a4), (5, .int a5)] rfl (by decide) rfl dX0_keepTokens_114 rfl ?_)
      obtain ⟨x17, hx17⟩ : ∃ y : Int32, y = a4 + 1 := ⟨_, rfl⟩
      have h := h x17 hx17
      refine jx_iinc 118 hX 4 x17 [(4, .int x17), (3, .int a5), (0, .ref (D.2.1 a0)), (1, .ref (D.2.1 a1)), (2, .int a2), (5, .int a5)] rfl (by rw [hx17]; exact congrArg (fun z => a4 + z) (by decide)) (by decide) rfl dX0_keepTokens_115 rfl (jx_goto 10 hX dX0_keepTokens_118 (by decide) ?_)
      exact jx_sub [2, 3, 4, 1, 0] rfl (hk10_ a0 a1 a2 a5 x17 s h)
    · have h := h.2 hb16
      refine jx_aload_n 90 hX 0 rfl rfl dX0_keepTokens_89 rfl ?_
      obtain ⟨hc18, h⟩ := h
      refine jx_getR 93 hX jf_X0_21 rfl hc18 dX0_keepTokens_90 rfl (jx_aload_n 94 hX 0 rfl rfl dX0_keepTokens_93 rfl (jx_getI 97 hX jf_X0_45 rfl hc18 dX0_keepTokens_94 rfl (jx_aload_n 98 hX 1 rfl rfl dX0_keepTokens_97 rfl (jx_iload 100 hX 3 rfl dX0_keepTokens_98 rfl ?_))))
      obtain ⟨hc19, h⟩ := h
      refine jx_caload 101 hX hc19 dX0_keepTokens_100 rfl ?_
      obtain ⟨hc20, h⟩ := h
      refine jx_castore 102 hX hc20 dX0_keepTokens_101 rfl ?_
      refine jx_namu (fun s21 hs21 => ?_)
      have h := h s21 hs21
      refine jx_aload_n 103 hX 0 rfl rfl dX0_keepTokens_102 rfl (jx_dup 104 hX rfl dX0_keepTokens_103 rfl (jx_getI 107 hX jf_X0_45 rfl hc18 dX0_keepTokens_104 rfl (jx_iconst 108 hX 1 (by decide) dX0_keepTokens_107 rfl (jx_iadd 109 hX dX0_keepTokens_108 rfl (jx_putI 112 hX jp_X0_45 rfl hc18 dX0_keepTokens_109 rfl ?_)))))
      refine jx_namu (fun s22 hs22 => ?_)
      have h := h s22 hs22
      refine jx_iload 114 hX 4 rfl dX0_keepTokens_112 rfl (jx_istore_n 115 hX [(3, .int a5), (0, .ref (D.2.1 a0)), (1, .ref (D.2.1 a1)), (2, .int a2), (4, .int a4), (5, .int a5)] rfl (by decide) rfl dX0_keepTokens_114 rfl ?_)
      obtain ⟨x23, hx23⟩ : ∃ y : Int32, y = a4 + 1 := ⟨_, rfl⟩
      have h := h x23 hx23
      refine jx_iinc 118 hX 4 x23 [(4, .int x23), (3, .int a5), (0, .ref (D.2.1 a0)), (1, .ref (D.2.1 a1)), (2, .int a2), (5, .int a5)] rfl (by rw [hx23]; exact congrArg (fun z => a4 + z) (by decide)) (by decide) rfl dX0_keepTokens_115 rfl (jx_goto 10 hX dX0_keepTokens_118 (by decide) ?_)
      exact jx_sub [2, 3, 4, 1, 0] rfl (hk10_ a0 a1 a2 a5 x23 s22 h)
  have b45 : ∀ (k10_ : Nat → Nat → Int32 → Int32 → Int32 → jx_St → Prop) (hk10_ : ∀ (a0 : Nat) (a1 : Nat) (a2 : Int32) (a3 : Int32) (a4 : Int32) (s : jx_St), k10_ a0 a1 a2 a3 a4 s → jx_J D jx_LX X 10 [(0, .ref (D.2.1 a0)), (1, .ref (D.2.1 a1)), (2, .int a2), (3, .int a3), (4, .int a4)] [] s) (a0 : Nat) (a1 : Nat) (a2 : Int32) (a3 : Int32) (a4 : Int32) (k0 : Int32) (s : jx_St), wX0_keepTokens_b45 post k10_ a0 a1 a2 a3 a4 k0 s → jx_J D jx_LX X 45 [(0, .ref (D.2.1 a0)), (1, .ref (D.2.1 a1)), (2, .int a2), (3, .int a3), (4, .int a4)] [.int k0] s := by
    intro k10_ hk10_ a0 a1 a2 a3 a4 k0 s h
    unfold wX0_keepTokens_b45 at h
    refine jx_istore 47 hX [(5, .int k0), (0, .ref (D.2.1 a0)), (1, .ref (D.2.1 a1)), (2, .int a2), (3, .int a3), (4, .int a4)] (by decide) rfl dX0_keepTokens_45 rfl (jx_iload 49 hX 0 rfl dX0_keepTokens_47 rfl ?_)
    refine jx_if_ne 52 84 hX dX0_keepTokens_49 rfl (by decide) (fun hb9 => ?_) (fun hb9 => ?_)
    · have h := h.1 hb9
      exact jx_sub [1, 2, 3, 5, 0] rfl (b84 _ hk10_ a0 a1 a2 a4 k0 s h)
    · have h := h.2 hb9
      refine jx_iload_n 53 hX 4 rfl rfl dX0_keepTokens_52 rfl ?_
      refine jx_if_eq 56 84 hX dX0_keepTokens_53 rfl (by decide) (fun hb10 => ?_) (fun hb10 => ?_)
      · have h := h.1 hb10
        exact jx_sub [1, 2, 3, 5, 0] rfl (b84 _ hk10_ a0 a1 a2 a4 k0 s h)
      · have h := h.2 hb10
        refine jx_aload_n 57 hX 1 rfl rfl dX0_keepTokens_56 rfl ?_
        obtain ⟨hc11, h⟩ := h
        refine jx_getI 60 hX jf_X0_45 rfl hc11 dX0_keepTokens_57 rfl ?_
        refine jx_if_le 63 84 hX dX0_keepTokens_60 rfl (by decide) (fun hb12 => ?_) (fun hb12 => ?_)
        · have h := h.1 hb12
          exact jx_sub [1, 2, 3, 5, 0] rfl (b84 _ hk10_ a0 a1 a2 a4 k0 s h)
        · have h := h.2 hb12
          refine jx_aload_n 64 hX 1 rfl rfl dX0_keepTokens_63 rfl (jx_getR 67 hX jf_X0_21 rfl hc11 dX0_keepTokens_64 rfl (jx_aload_n 68 hX 1 rfl rfl dX0_keepTokens_67 rfl (jx_getI 71 hX jf_X0_45 rfl hc11 dX0_keepTokens_68 rfl (jx_bipush 73 hX 32 (by decide) dX0_keepTokens_71 rfl ?_))))
          obtain ⟨hc13, h⟩ := h
          refine jx_castore 74 hX hc13 dX0_keepTokens_73 rfl ?_
          refine jx_namu (fun s14 hs14 => ?_)
          have h := h s14 hs14
          refine jx_aload_n 75 hX 1 rfl rfl dX0_keepTokens_74 rfl (jx_dup 76 hX rfl dX0_keepTokens_75 rfl (jx_getI 79 hX jf_X0_45 rfl hc11 dX0_keepTokens_76 rfl (jx_iconst 80 hX 1 (by decide) dX0_keepTokens_79 rfl (jx_iadd 81 hX dX0_keepTokens_80 rfl (jx_putI 84 hX jp_X0_45 rfl hc11 dX0_keepTokens_81 rfl ?_)))))
          refine jx_namu (fun s15 hs15 => ?_)
          have h := h s15 hs15
          exact jx_sub [1, 2, 3, 5, 0] rfl (b84 _ hk10_ a0 a1 a2 a4 k0 s15 h)
  have l10 : ∀ (n : Nat) (a0 : Nat) (a1 : Nat) (a2 : Int32) (a3 : Int32) (a4 : Int32) (s : jx_St), wX0_keepTokens_l10 post n a0 a1 a2 a3 a4 s → jx_J D jx_LX X 10 [(0, .ref (D.2.1 a0)), (1, .ref (D.2.1 a1)), (2, .int a2), (3, .int a3), (4, .int a4)] [] s := by
    intro n
    induction n with
    | zero => intro a0 a1 a2 a3 a4 s h; exact h.elim
    | succ n ih =>
      intro a0 a1 a2 a3 a4 s h
      rw [wX0_keepTokens_l10] at h
      refine jx_iload 12 hX 4 rfl dX0_keepTokens_10 rfl (jx_iload_n 13 hX 2 rfl rfl dX0_keepTokens_12 rfl ?_)
      refine jx_icmp_ge 16 121 hX dX0_keepTokens_13 rfl (by decide) (fun hb3 => ?_) (fun hb3 => ?_)
      · have h := h.1 hb3
        exact jx_vret hX dX0_keepTokens_121 h
      · have h := h.2 hb3
        refine jx_iload 18 hX 4 rfl dX0_keepTokens_16 rfl (jx_aload_n 19 hX 1 rfl rfl dX0_keepTokens_18 rfl ?_)
        obtain ⟨hc4, h⟩ := h
        refine jx_alenC 20 hX hc4 dX0_keepTokens_19 rfl ?_
        refine jx_icmp_ge 23 121 hX dX0_keepTokens_20 rfl (by decide) (fun hb5 => ?_) (fun hb5 => ?_)
        · have h := h.1 hb5
          exact jx_vret hX dX0_keepTokens_121 h
        · have h := h.2 hb5
          refine jx_iload 25 hX 4 rfl dX0_keepTokens_23 rfl (jx_sipush 28 hX 700 (by decide) dX0_keepTokens_25 rfl ?_)
          refine jx_icmp_ge 31 121 hX dX0_keepTokens_28 rfl (by decide) (fun hb6 => ?_) (fun hb6 => ?_)
          · have h := h.1 hb6
            exact jx_vret hX dX0_keepTokens_121 h
          · have h := h.2 hb6
            refine jx_aload_n 32 hX 1 rfl rfl dX0_keepTokens_31 rfl (jx_iload 34 hX 4 rfl dX0_keepTokens_32 rfl ?_)
            obtain ⟨hc7, h⟩ := h
            refine jx_caload 35 hX hc7 dX0_keepTokens_34 rfl (jx_bipush 37 hX 32 (by decide) dX0_keepTokens_35 rfl ?_)
            refine jx_icmp_ne 40 44 hX dX0_keepTokens_37 rfl (by decide) (fun hb8 => ?_) (fun hb8 => ?_)
            · have h := h.1 hb8
              refine jx_iconst 45 hX 0 (by decide) dX0_keepTokens_44 rfl ?_
              exact jx_sub [0, 1, 2, 3, 4] rfl (b45 _ (fun z0 z1 z2 z3 z4 zs hz => ih z0 z1 z2 z3 z4 zs hz) a0 a1 a2 a3 a4 0 s h)
            · have h := h.2 hb8
              refine jx_iconst 41 hX 1 (by decide) dX0_keepTokens_40 rfl (jx_goto 45 hX dX0_keepTokens_41 (by decide) ?_)
              exact jx_sub [0, 1, 2, 3, 4] rfl (b45 _ (fun z0 z1 z2 z3 z4 zs hz => ih z0 z1 z2 z3 z4 zs hz) a0 a1 a2 a3 a4 1 s h)
  unfold wX0_keepTokens at h
  refine jx_aload_n 1 hX 0 rfl rfl dX0_keepTokens_0 rfl (jx_iconst 2 hX 0 (by decide) dX0_keepTokens_1 rfl ?_)
  obtain ⟨hc1, h⟩ := h
  refine jx_putI 5 hX jp_X0_45 rfl hc1 dX0_keepTokens_2 rfl ?_
  refine jx_namu (fun s2 hs2 => ?_)
  have h := h s2 hs2
  refine jx_iconst 6 hX 0 (by decide) dX0_keepTokens_5 rfl (jx_istore_n 7 hX [(3, .int 0), (0, .ref (D.2.1 a0)), (1, .ref (D.2.1 a1)), (2, .int a2)] rfl (by decide) rfl dX0_keepTokens_6 rfl (jx_iconst 8 hX 0 (by decide) dX0_keepTokens_7 rfl (jx_istore 10 hX [(4, .int 0), (3, .int 0), (0, .ref (D.2.1 a0)), (1, .ref (D.2.1 a1)), (2, .int a2)] (by decide) rfl dX0_keepTokens_8 rfl ?_)))
  obtain ⟨n_, h⟩ := h
  exact jx_sub [2, 3, 4, 1, 0] rfl (l10 n_ a0 a1 a2 0 0 s2 h)
set_option maxHeartbeats 4000000 in
set_option maxRecDepth 100000 in
theorem mX0_leastVisibility (l : Launch) (D : jx_Dt) (post : Int32 → jx_St → Prop) (a0 : Nat) (a1 : Int32) (s : jx_St) (h : wX0_leastVisibility post a0 a1 s) : jx_Met l yX0_leastVisibility cX0_leastVisibility 4 (some .int) (jx_r 2 45) D jx_LX [.ref (D.2.1 a0), .int a1] s (jx_Qi D jx_LX post) := by
  refine jx_ofJ (by decide) (Nat.le_of_ble_eq_true rfl) (fun X hl hX => ?_)
  subst hl
  replace hX : jx_K D jx_LX X cX0_leastVisibility RX0 4 (some .int) (jx_r 2 45) (jx_Qi D jx_LX post) := hX
  show jx_J D jx_LX X 0 [(0, .ref (D.2.1 a0)), (1, .int a1)] [] s
  have l17 : ∀ (n : Nat) (a0 : Nat) (a1 : Int32) (a2 : Int32) (a3 : Int32) (s : jx_St), wX0_leastVisibility_l17 post n a0 a1 a2 a3 s → jx_J D jx_LX X 17 [(0, .ref (D.2.1 a0)), (1, .int a1), (2, .int a2), (3, .int a3)] [] s := by
    intro n
    induction n with
    | zero => intro a0 a1 a2 a3 s h; exact h.elim
    | succ n ih =>
      intro a0 a1 a2 a3 s h
      rw [wX0_leastVisibility_l17] at h
      refine jx_iload_n 18 hX 3 rfl rfl dX0_leastVisibility_17 rfl (jx_aload_n 19 hX 0 rfl rfl dX0_leastVisibility_18 rfl ?_)
      obtain ⟨hc7, h⟩ := h
      refine jx_getI 22 hX jf_X0_48 rfl hc7 dX0_leastVisibility_19 rfl ?_
      refine jx_icmp_ge 25 77 hX dX0_leastVisibility_22 rfl (by decide) (fun hb8 => ?_) (fun hb8 => ?_)
      · have h := h.1 hb8
        refine jx_iload_n 78 hX 2 rfl rfl dX0_leastVisibility_77 rfl ?_
        exact jx_iret hX dX0_leastVisibility_78 h
      · have h := h.2 hb8
        refine jx_iload_n 26 hX 3 rfl rfl dX0_leastVisibility_25 rfl (jx_bipush 28 hX 9 (by decide) dX0_leastVisibility_26 rfl ?_)
        refine jx_icmp_ge 31 77 hX dX0_leastVisibility_28 rfl (by decide) (fun hb9 => ?_) (fun hb9 => ?_)
        · have h := h.1 hb9
          refine jx_iload_n 78 hX 2 rfl rfl dX0_leastVisibility_77 rfl ?_
          exact jx_iret hX dX0_leastVisibility_78 h
        · have h := h.2 hb9
          refine jx_aload_n 32 hX 0 rfl rfl dX0_leastVisibility_31 rfl (jx_getR 35 hX jf_X0_17 rfl hc7 dX0_leastVisibility_32 rfl (jx_iload_n 36 hX 3 rfl rfl dX0_leastVisibility_35 rfl ?_))
          obtain ⟨hc10, h⟩ := h
          refine jx_aaload 37 hX hc10 dX0_leastVisibility_36 rfl (jx_iload_n 38 hX 1 rfl rfl dX0_leastVisibility_37 rfl ?_)
          obtain ⟨hc11, h⟩ := h
          refine jx_callVi 41 hX (mX1_isActiveAt _ D _ (s.2 (s.2 a0 8) (a3 : Int32).toNatClampNeg) a1 s h) jv_X0_70 jn_1 hc11 ⟨rfl, rfl, by decide, by decide⟩ rfl rfl (Nat.le_of_ble_eq_true rfl) dX0_leastVisibility_38 rfl (fun r12 s13 h => ?_)
          obtain ⟨hz14, h⟩ := h
          have h := h hz14
          refine jx_if_eq 44 71 hX dX0_leastVisibility_41 rfl (by decide) (fun hb15 => ?_) (fun hb15 => ?_)
          · have h := h.1 hb15
            obtain ⟨x16, hx16⟩ : ∃ y : Int32, y = a3 + 1 := ⟨_, rfl⟩
            have h := h x16 hx16
            refine jx_iinc 74 hX 3 x16 [(3, .int x16), (0, .ref (D.2.1 a0)), (1, .int a1), (2, .int a2)] rfl (by rw [hx16]; exact congrArg (fun z => a3 + z) (by decide)) (by decide) rfl dX0_leastVisibility_71 rfl (jx_goto 17 hX dX0_leastVisibility_74 (by decide) ?_)
            exact jx_sub [1, 2, 3, 0] rfl (ih a0 a1 a2 x16 s13 h)
          · have h := h.2 hb15
            refine jx_aload_n 45 hX 0 rfl rfl dX0_leastVisibility_44 rfl (jx_getR 48 hX jf_X0_17 rfl hc7 dX0_leastVisibility_45 rfl (jx_iload_n 49 hX 3 rfl rfl dX0_leastVisibility_48 rfl ?_))
            obtain ⟨hc17, h⟩ := h
            refine jx_aaload 50 hX hc17 dX0_leastVisibility_49 rfl (jx_iconst 51 hX 1 (by decide) dX0_leastVisibility_50 rfl ?_)
            obtain ⟨hc18, h⟩ := h
            refine jx_callVi 54 hX (mX1_tells _ D _ (s13.2 (s13.2 a0 8) (a3 : Int32).toNatClampNeg) 1 s13 h) jv_X0_67 jn_1 hc18 ⟨rfl, rfl, by decide, by decide⟩ rfl rfl (Nat.le_of_ble_eq_true rfl) dX0_leastVisibility_51 rfl (fun r19 s20 h => ?_)
            obtain ⟨hz21, h⟩ := h
            have h := h hz21
            refine jx_if_eq 57 71 hX dX0_leastVisibility_54 rfl (by decide) (fun hb22 => ?_) (fun hb22 => ?_)
            · have h := h.1 hb22
              obtain ⟨x23, hx23⟩ : ∃ y : Int32, y = a3 + 1 := ⟨_, rfl⟩
              have h := h x23 hx23
              refine jx_iinc 74 hX 3 x23 [(3, .int x23), (0, .ref (D.2.1 a0)), (1, .int a1), (2, .int a2)] rfl (by rw [hx23]; exact congrArg (fun z => a3 + z) (by decide)) (by decide) rfl dX0_leastVisibility_71 rfl (jx_goto 17 hX dX0_leastVisibility_74 (by decide) ?_)
              exact jx_sub [1, 2, 3, 0] rfl (ih a0 a1 a2 x23 s20 h)
            · have h := h.2 hb22
              refine jx_iload_n 58 hX 2 rfl rfl dX0_leastVisibility_57 rfl (jx_aload_n 59 hX 0 rfl rfl dX0_leastVisibility_58 rfl (jx_getR 62 hX jf_X0_17 rfl hc7 dX0_leastVisibility_59 rfl (jx_iload_n 63 hX 3 rfl rfl dX0_leastVisibility_62 rfl ?_)))
              obtain ⟨hc24, h⟩ := h
              refine jx_aaload 64 hX hc24 dX0_leastVisibility_63 rfl ?_
              obtain ⟨hc25, h⟩ := h
              refine jx_getI 67 hX jf_X0_77 rfl hc25 dX0_leastVisibility_64 rfl (jx_mmin 70 hX jm_X0_80 (by decide) (Nat.le_of_ble_eq_true rfl) dX0_leastVisibility_67 rfl ?_)
              refine jx_topi (fun x26 hx26 => ?_)
              have h := h x26 hx26
              refine jx_istore_n 71 hX [(2, .int x26), (0, .ref (D.2.1 a0)), (1, .int a1), (3, .int a3)] rfl (by decide) rfl dX0_leastVisibility_70 rfl ?_
              obtain ⟨x27, hx27⟩ : ∃ y : Int32, y = a3 + 1 := ⟨_, rfl⟩
              have h := h x27 hx27
              refine jx_iinc 74 hX 3 x27 [(3, .int x27), (2, .int x26), (0, .ref (D.2.1 a0)), (1, .int a1)] rfl (by rw [hx27]; exact congrArg (fun z => a3 + z) (by decide)) (by decide) rfl dX0_leastVisibility_71 rfl (jx_goto 17 hX dX0_leastVisibility_74 (by decide) ?_)
              exact jx_sub [2, 3, 1, 0] rfl (ih a0 a1 x26 x27 s20 h)
  unfold wX0_leastVisibility at h
  refine jx_aload_n 1 hX 0 rfl rfl dX0_leastVisibility_0 rfl ?_
  obtain ⟨hc1, h⟩ := h
  refine jx_getR 4 hX jf_X0_17 rfl hc1 dX0_leastVisibility_1 rfl (jx_aload_n 5 hX 0 rfl rfl dX0_leastVisibility_4 rfl (jx_iload_n 6 hX 1 rfl rfl dX0_leastVisibility_5 rfl (jx_iconst 7 hX 1 (by decide) dX0_leastVisibility_6 rfl ?_)))
  refine jx_callVi 10 hX (mX0_teller _ D _ a0 a1 1 s h) jv_X0_73 jn_0 hc1 ⟨rfl, rfl, by decide, by decide⟩ rfl rfl (Nat.le_of_ble_eq_true rfl) dX0_leastVisibility_7 rfl (fun r2 s3 h => ?_)
  obtain ⟨hc4, h⟩ := h
  refine jx_aaload 11 hX hc4 dX0_leastVisibility_10 rfl ?_
  obtain ⟨hc5, h⟩ := h
  refine jx_getI 14 hX jf_X0_77 rfl hc5 dX0_leastVisibility_11 rfl ?_
  refine jx_topi (fun x6 hx6 => ?_)
  have h := h x6 hx6
  refine jx_istore_n 15 hX [(2, .int x6), (0, .ref (D.2.1 a0)), (1, .int a1)] rfl (by decide) rfl dX0_leastVisibility_14 rfl (jx_iconst 16 hX 1 (by decide) dX0_leastVisibility_15 rfl (jx_istore_n 17 hX [(3, .int 1), (2, .int x6), (0, .ref (D.2.1 a0)), (1, .int a1)] rfl (by decide) rfl dX0_leastVisibility_16 rfl ?_))
  obtain ⟨n_, h⟩ := h
  exact jx_sub [2, 3, 1, 0] rfl (l17 n_ a0 a1 x6 1 s3 h)
set_option maxHeartbeats 4000000 in
set_option maxRecDepth 100000 in
theorem mX1_heightOf (l : Launch) (D : jx_Dt) (post : Int32 → jx_St → Prop) (a0 : Int32) (s : jx_St) (h : wX1_heightOf post a0 s) : jx_Met l yX1_heightOf cX1_heightOf 1 (some .int) (jx_r 0 0) D jx_LX [.int a0] s (jx_Qi D jx_LX post) := by
  refine jx_ofJ (by decide) (Nat.le_of_ble_eq_true rfl) (fun X hl hX => ?_)
  subst hl
  replace hX : jx_K D jx_LX X cX1_heightOf RX1 1 (some .int) (jx_r 0 0) (jx_Qi D jx_LX post) := hX
  show jx_J D jx_LX X 0 [(0, .int a0)] [] s
  unfold wX1_heightOf at h
  refine jx_iload_n 1 hX 0 rfl rfl dX1_heightOf_0 rfl (jx_iconst 2 hX 3 (by decide) dX1_heightOf_1 rfl (jx_ishr 3 hX dX1_heightOf_2 rfl (jx_sipush 6 hX 1023 (by decide) dX1_heightOf_3 rfl (jx_iand 7 hX dX1_heightOf_6 rfl ?_))))
  exact jx_iret hX dX1_heightOf_7 h
set_option maxHeartbeats 4000000 in
set_option maxRecDepth 100000 in
theorem mX1_amountOf (l : Launch) (D : jx_Dt) (post : Int32 → jx_St → Prop) (a0 : Int32) (s : jx_St) (h : wX1_amountOf post a0 s) : jx_Met l yX1_amountOf cX1_amountOf 1 (some .int) (jx_r 0 0) D jx_LX [.int a0] s (jx_Qi D jx_LX post) := by
  refine jx_ofJ (by decide) (Nat.le_of_ble_eq_true rfl) (fun X hl hX => ?_)
  subst hl
  replace hX : jx_K D jx_LX X cX1_amountOf RX1 1 (some .int) (jx_r 0 0) (jx_Qi D jx_LX post) := hX
  show jx_J D jx_LX X 0 [(0, .int a0)] [] s
  unfold wX1_amountOf at h
  refine jx_iload_n 1 hX 0 rfl rfl dX1_amountOf_0 rfl (jx_bipush 3 hX 7 (by decide) dX1_amountOf_1 rfl (jx_iand 4 hX dX1_amountOf_3 rfl ?_))
  exact jx_iret hX dX1_amountOf_4 h
set_option maxHeartbeats 4000000 in
set_option maxRecDepth 100000 in
theorem mX1_lowerCeiling (l : Launch) (D : jx_Dt) (post : Int32 → jx_St → Prop) (a0 : Nat) (a1 : Int32) (s : jx_St) (h : wX1_lowerCeiling post a0 a1 s) : jx_Met l yX1_lowerCeiling cX1_lowerCeiling 5 (some .int) (jx_r 1 20) D jx_LX [.ref (D.2.1 a0), .int a1] s (jx_Qi D jx_LX post) := by
  refine jx_ofJ (by decide) (Nat.le_of_ble_eq_true rfl) (fun X hl hX => ?_)
  subst hl
  replace hX : jx_K D jx_LX X cX1_lowerCeiling RX1 5 (some .int) (jx_r 1 20) (jx_Qi D jx_LX post) := hX
  show jx_J D jx_LX X 0 [(0, .ref (D.2.1 a0)), (1, .int a1)] [] s
  have l4 : ∀ (n : Nat) (a0 : Nat) (a2 : Int32) (a3 : Int32) (s : jx_St), wX1_lowerCeiling_l4 post n a0 a2 a3 s → jx_J D jx_LX X 4 [(0, .ref (D.2.1 a0)), (2, .int a2), (3, .int a3)] [] s := by
    intro n
    induction n with
    | zero => intro a0 a2 a3 s h; exact h.elim
    | succ n ih =>
      intro a0 a2 a3 s h
      rw [wX1_lowerCeiling_l4] at h
      refine jx_iload_n 5 hX 2 rfl rfl dX1_lowerCeiling_4 rfl (jx_aload_n 6 hX 0 rfl rfl dX1_lowerCeiling_5 rfl ?_)
      obtain ⟨hc1, h⟩ := h
      refine jx_getI 9 hX jf_X1_46 rfl hc1 dX1_lowerCeiling_6 rfl ?_
      refine jx_icmp_ge 12 62 hX dX1_lowerCeiling_9 rfl (by decide) (fun hb2 => ?_) (fun hb2 => ?_)
      · have h := h.1 hb2
        refine jx_iload_n 63 hX 1 rfl rfl dX1_lowerCeiling_62 rfl ?_
        exact jx_iret hX dX1_lowerCeiling_63 h
      · have h := h.2 hb2
        refine jx_iload_n 13 hX 2 rfl rfl dX1_lowerCeiling_12 rfl (jx_iconst 14 hX 4 (by decide) dX1_lowerCeiling_13 rfl ?_)
        refine jx_icmp_ge 17 62 hX dX1_lowerCeiling_14 rfl (by decide) (fun hb3 => ?_) (fun hb3 => ?_)
        · have h := h.1 hb3
          refine jx_iload_n 63 hX 1 rfl rfl dX1_lowerCeiling_62 rfl ?_
          exact jx_iret hX dX1_lowerCeiling_63 h
        · have h := h.2 hb3
          refine jx_aload_n 18 hX 0 rfl rfl dX1_lowerCeiling_17 rfl (jx_getR 21 hX jf_X1_15 rfl hc1 dX1_lowerCeiling_18 rfl (jx_iload_n 22 hX 2 rfl rfl dX1_lowerCeiling_21 rfl ?_))
          obtain ⟨hc4, h⟩ := h
          refine jx_iaload 23 hX hc4 dX1_lowerCeiling_22 rfl ?_
          refine jx_callSi 26 hX (mX1_heightOf _ D _ (s.1 (s.2 a0 11) (a3 : Int32).toNatClampNeg) s h) js_X1_59 ⟨rfl, rfl, by decide, by decide⟩ rfl rfl (Nat.le_of_ble_eq_true rfl) dX1_lowerCeiling_23 rfl (fun r5 s6 h => ?_)
          refine jx_istore 28 hX [(4, .int r5), (0, .ref (D.2.1 a0)), (2, .int a2), (3, .int a3)] (by decide) rfl dX1_lowerCeiling_26 rfl (jx_aload_n 29 hX 1 rfl rfl dX1_lowerCeiling_28 rfl (jx_getR 32 hX jf_X1_15 rfl hc1 dX1_lowerCeiling_29 rfl (jx_iload_n 33 hX 3 rfl rfl dX1_lowerCeiling_32 rfl ?_)))
          obtain ⟨hc7, h⟩ := h
          refine jx_iaload 34 hX hc7 dX1_lowerCeiling_33 rfl ?_
          refine jx_callSi 37 hX (mX1_amountOf _ D _ (s6.1 (s6.2 a0 11) (a3 : Int32).toNatClampNeg) s6 h) js_X1_63 ⟨rfl, rfl, by decide, by decide⟩ rfl rfl (Nat.le_of_ble_eq_true rfl) dX1_lowerCeiling_34 rfl (fun r8 s9 h => ?_)
          refine jx_iconst 38 hX 3 (by decide) dX1_lowerCeiling_37 rfl ?_
          refine jx_icmp_lt 41 56 hX dX1_lowerCeiling_38 rfl (by decide) (fun hb10 => ?_) (fun hb10 => ?_)
          · have h := h.1 hb10
            obtain ⟨x11, hx11⟩ : ∃ y : Int32, y = a3 + 1 := ⟨_, rfl⟩
            have h := h x11 hx11
            refine jx_iinc 59 hX 3 x11 [(3, .int x11), (4, .int r5), (0, .ref (D.2.1 a0)), (2, .int a2)] rfl (by rw [hx11]; exact congrArg (fun z => a3 + z) (by decide)) (by decide) rfl dX1_lowerCeiling_56 rfl (jx_goto 4 hX dX1_lowerCeiling_59 (by decide) ?_)
            exact jx_sub [2, 3, 0] rfl (ih a0 a2 x11 s9 h)
          · have h := h.2 hb10
            refine jx_iload_n 42 hX 2 rfl rfl dX1_lowerCeiling_41 rfl (jx_bipush 44 hX (-2) (by decide) dX1_lowerCeiling_42 rfl ?_)
            refine jx_icmp_eq 47 53 hX dX1_lowerCeiling_44 rfl (by decide) (fun hb12 => ?_) (fun hb12 => ?_)
            · have h := h.1 hb12
              refine jx_iload 55 hX 0 rfl dX1_lowerCeiling_53 rfl (jx_istore_n 56 hX [(2, .int r5), (4, .int r5), (0, .ref (D.2.1 a0)), (3, .int a3)] rfl (by decide) rfl dX1_lowerCeiling_55 rfl ?_)
              obtain ⟨x13, hx13⟩ : ∃ y : Int32, y = a3 + 1 := ⟨_, rfl⟩
              have h := h x13 hx13
              refine jx_iinc 59 hX 3 x13 [(3, .int x13), (2, .int r5), (4, .int r5), (0, .ref (D.2.1 a0))] rfl (by rw [hx13]; exact congrArg (fun z => a3 + z) (by decide)) (by decide) rfl dX1_lowerCeiling_56 rfl (jx_goto 4 hX dX1_lowerCeiling_59 (by decide) ?_)
              exact jx_sub [3, 1, 0] rfl (ih a0 r5 x13 s9 h)
            · have h := h.2 hb12
              refine jx_iload 49 hX 0 rfl dX1_lowerCeiling_47 rfl (jx_iload_n 50 hX 2 rfl rfl dX1_lowerCeiling_49 rfl ?_)
              refine jx_icmp_ge 53 56 hX dX1_lowerCeiling_50 rfl (by decide) (fun hb14 => ?_) (fun hb14 => ?_)
              · have h := h.1 hb14
                obtain ⟨x15, hx15⟩ : ∃ y : Int32, y = a3 + 1 := ⟨_, rfl⟩
                have h := h x15 hx15
                refine jx_iinc 59 hX 3 x15 [(3, .int x15), (4, .int r5), (0, .ref (D.2.1 a0)), (2, .int a2)] rfl (by rw [hx15]; exact congrArg (fun z => a3 + z) (by decide)) (by decide) rfl dX1_lowerCeiling_56 rfl (jx_goto 4 hX dX1_lowerCeiling_59 (by decide) ?_)
                exact jx_sub [2, 3, 0] rfl (ih a0 a2 x15 s9 h)
              · have h := h.2 hb14
                refine jx_iload 55 hX 0 rfl dX1_lowerCeiling_53 rfl (jx_istore_n 56 hX [(2, .int r5), (4, .int r5), (0, .ref (D.2.1 a0)), (3, .int a3)] rfl (by decide) rfl dX1_lowerCeiling_55 rfl ?_)
                obtain ⟨x16, hx16⟩ : ∃ y : Int32, y = a3 + 1 := ⟨_, rfl⟩
                have h := h x16 hx16
                refine jx_iinc 59 hX 3 x16 [(3, .int x16), (2, .int r5), (4, .int r5), (0, .ref (D.2.1 a0))] rfl (by rw [hx16]; exact congrArg (fun z => a3 + z) (by decide)) (by decide) rfl dX1_lowerCeiling_56 rfl (jx_goto 4 hX dX1_lowerCeiling_59 (by decide) ?_)
                exact jx_sub [3, 1, 0] rfl (ih a0 r5 x16 s9 h)
  unfold wX1_lowerCeiling at h
  refine jx_iload_n 1 hX 1 rfl rfl dX1_lowerCeiling_0 rfl (jx_istore_n 2 hX [(2, .int a1), (0, .ref (D.2.1 a0)), (1, .int a1)] rfl (by decide) rfl dX1_lowerCeiling_1 rfl (jx_iconst 3 hX 0 (by decide) dX1_lowerCeiling_2 rfl (jx_istore_n 4 hX [(3, .int 0), (2, .int a1), (0, .ref (D.2.1 a0)), (1, .int a1)] rfl (by decide) rfl dX1_lowerCeiling_3 rfl ?_)))
  obtain ⟨n_, h⟩ := h
  exact jx_sub [2, 1, 0] rfl (l4 n_ a0 a1 0 s h)
set_option maxHeartbeats 4000000 in
set_option maxRecDepth 100000 in
theorem mX0_lowestCeiling (l : Launch) (D : jx_Dt) (post : Int32 → jx_St → Prop) (a0 : Nat) (a1 : Int32) (a2 : Int32) (s : jx_St) (h : wX0_lowestCeiling post a0 a1 a2 s) : jx_Met l yX0_lowestCeiling cX0_lowestCeiling 5 (some .int) (jx_r 2 45) D jx_LX [.ref (D.2.1 a0), .int a1, .int a2] s (jx_Qi D jx_LX post) := by
  refine jx_ofJ (by decide) (Nat.le_of_ble_eq_true rfl) (fun X hl hX => ?_)
  subst hl
  replace hX : jx_K D jx_LX X cX0_lowestCeiling RX0 5 (some .int) (jx_r 2 45) (jx_Qi D jx_LX post) := hX
  show jx_J D jx_LX X 0 [(0, .ref (D.2.1 a0)), (1, .int a1), (2, .int a2)] [] s
  have l20 : ∀ (n : Nat) (a0 : Nat) (a1 : Int32) (a2 : Int32) (a3 : Int32) (a4 : Int32) (s : jx_St), wX0_lowestCeiling_l20 post n a0 a1 a2 a3 a4 s → jx_J D jx_LX X 20 [(0, .ref (D.2.1 a0)), (1, .int a1), (2, .int a2), (3, .int a3), (4, .int a4)] [] s := by
    intro n
    induction n with
    | zero => intro a0 a1 a2 a3 a4 s h; exact h.elim
    | succ n ih =>
      intro a0 a1 a2 a3 a4 s h
      rw [wX0_lowestCeiling_l20] at h
      refine jx_iload 22 hX 4 rfl dX0_lowestCeiling_20 rfl (jx_aload_n 23 hX 0 rfl rfl dX0_lowestCeiling_22 rfl ?_)
      obtain ⟨hc8, h⟩ := h
      refine jx_getI 26 hX jf_X0_48 rfl hc8 dX0_lowestCeiling_23 rfl ?_
      refine jx_icmp_ge 29 72 hX dX0_lowestCeiling_26 rfl (by decide) (fun hb9 => ?_) (fun hb9 => ?_)
      · have h := h.1 hb9
        refine jx_iload_n 73 hX 3 rfl rfl dX0_lowestCeiling_72 rfl ?_
        exact jx_iret hX dX0_lowestCeiling_73 h
      · have h := h.2 hb9
        refine jx_iload 31 hX 4 rfl dX0_lowestCeiling_29 rfl (jx_bipush 33 hX 9 (by decide) dX0_lowestCeiling_31 rfl ?_)
        refine jx_icmp_ge 36 72 hX dX0_lowestCeiling_33 rfl (by decide) (fun hb10 => ?_) (fun hb10 => ?_)
        · have h := h.1 hb10
          refine jx_iload_n 73 hX 3 rfl rfl dX0_lowestCeiling_72 rfl ?_
          exact jx_iret hX dX0_lowestCeiling_73 h
        · have h := h.2 hb10
          refine jx_iload_n 37 hX 2 rfl rfl dX0_lowestCeiling_36 rfl ?_
          refine jx_if_eq 40 66 hX dX0_lowestCeiling_37 rfl (by decide) (fun hb11 => ?_) (fun hb11 => ?_)
          · have h := h.1 hb11
            obtain ⟨x12, hx12⟩ : ∃ y : Int32, y = a4 + 1 := ⟨_, rfl⟩
            have h := h x12 hx12
            refine jx_iinc 69 hX 4 x12 [(4, .int x12), (0, .ref (D.2.1 a0)), (1, .int a1), (2, .int a2), (3, .int a3)] rfl (by rw [hx12]; exact congrArg (fun z => a4 + z) (by decide)) (by decide) rfl dX0_lowestCeiling_66 rfl (jx_goto 20 hX dX0_lowestCeiling_69 (by decide) ?_)
            exact jx_sub [1, 2, 3, 4, 0] rfl (ih a0 a1 a2 a3 x12 s h)
          · have h := h.2 hb11
            refine jx_aload_n 41 hX 0 rfl rfl dX0_lowestCeiling_40 rfl (jx_getR 44 hX jf_X0_17 rfl hc8 dX0_lowestCeiling_41 rfl (jx_iload 46 hX 4 rfl dX0_lowestCeiling_44 rfl ?_))
            obtain ⟨hc13, h⟩ := h
            refine jx_aaload 47 hX hc13 dX0_lowestCeiling_46 rfl (jx_iload_n 48 hX 1 rfl rfl dX0_lowestCeiling_47 rfl ?_)
            obtain ⟨hc14, h⟩ := h
            refine jx_callVi 51 hX (mX1_isActiveAt _ D _ (s.2 (s.2 a0 8) (a4 : Int32).toNatClampNeg) a1 s h) jv_X0_70 jn_1 hc14 ⟨rfl, rfl, by decide, by decide⟩ rfl rfl (Nat.le_of_ble_eq_true rfl) dX0_lowestCeiling_48 rfl (fun r15 s16 h => ?_)
            obtain ⟨hz17, h⟩ := h
            have h := h hz17
            refine jx_if_eq 54 66 hX dX0_lowestCeiling_51 rfl (by decide) (fun hb18 => ?_) (fun hb18 => ?_)
            · have h := h.1 hb18
              obtain ⟨x19, hx19⟩ : ∃ y : Int32, y = a4 + 1 := ⟨_, rfl⟩
              have h := h x19 hx19
              refine jx_iinc 69 hX 4 x19 [(4, .int x19), (0, .ref (D.2.1 a0)), (1, .int a1), (2, .int a2), (3, .int a3)] rfl (by rw [hx19]; exact congrArg (fun z => a4 + z) (by decide)) (by decide) rfl dX0_lowestCeiling_66 rfl (jx_goto 20 hX dX0_lowestCeiling_69 (by decide) ?_)
              exact jx_sub [1, 2, 3, 4, 0] rfl (ih a0 a1 a2 a3 x19 s16 h)
            · have h := h.2 hb18
              refine jx_aload_n 55 hX 0 rfl rfl dX0_lowestCeiling_54 rfl (jx_getR 58 hX jf_X0_17 rfl hc8 dX0_lowestCeiling_55 rfl (jx_iload 60 hX 4 rfl dX0_lowestCeiling_58 rfl ?_))
              obtain ⟨hc20, h⟩ := h
              refine jx_aaload 61 hX hc20 dX0_lowestCeiling_60 rfl (jx_iload_n 62 hX 3 rfl rfl dX0_lowestCeiling_61 rfl ?_)
              obtain ⟨hc21, h⟩ := h
              refine jx_callVi 65 hX (mX1_lowerCeiling _ D _ (s16.2 (s16.2 a0 8) (a4 : Int32).toNatClampNeg) a3 s16 h) jv_X0_85 jn_1 hc21 ⟨rfl, rfl, by decide, by decide⟩ rfl rfl (Nat.le_of_ble_eq_true rfl) dX0_lowestCeiling_62 rfl (fun r22 s23 h => ?_)
              refine jx_istore_n 66 hX [(3, .int r22), (0, .ref (D.2.1 a0)), (1, .int a1), (2, .int a2), (4, .int a4)] rfl (by decide) rfl dX0_lowestCeiling_65 rfl ?_
              obtain ⟨x24, hx24⟩ : ∃ y : Int32, y = a4 + 1 := ⟨_, rfl⟩
              have h := h x24 hx24
              refine jx_iinc 69 hX 4 x24 [(4, .int x24), (3, .int r22), (0, .ref (D.2.1 a0)), (1, .int a1), (2, .int a2)] rfl (by rw [hx24]; exact congrArg (fun z => a4 + z) (by decide)) (by decide) rfl dX0_lowestCeiling_66 rfl (jx_goto 20 hX dX0_lowestCeiling_69 (by decide) ?_)
              exact jx_sub [2, 3, 4, 1, 0] rfl (ih a0 a1 a2 r22 x24 s23 h)
  unfold wX0_lowestCeiling at h
  refine jx_aload_n 1 hX 0 rfl rfl dX0_lowestCeiling_0 rfl ?_
  obtain ⟨hc1, h⟩ := h
  refine jx_getR 4 hX jf_X0_17 rfl hc1 dX0_lowestCeiling_1 rfl (jx_aload_n 5 hX 0 rfl rfl dX0_lowestCeiling_4 rfl (jx_iload_n 6 hX 1 rfl rfl dX0_lowestCeiling_5 rfl (jx_iconst 7 hX 3 (by decide) dX0_lowestCeiling_6 rfl ?_)))
  refine jx_callVi 10 hX (mX0_teller _ D _ a0 a1 3 s h) jv_X0_73 jn_0 hc1 ⟨rfl, rfl, by decide, by decide⟩ rfl rfl (Nat.le_of_ble_eq_true rfl) dX0_lowestCeiling_7 rfl (fun r2 s3 h => ?_)
  obtain ⟨hc4, h⟩ := h
  refine jx_aaload 11 hX hc4 dX0_lowestCeiling_10 rfl (jx_bipush 13 hX (-2) (by decide) dX0_lowestCeiling_11 rfl ?_)
  obtain ⟨hc5, h⟩ := h
  refine jx_callVi 16 hX (mX1_lowerCeiling _ D _ (s3.2 (s.2 a0 8) (r2 : Int32).toNatClampNeg) (-2) s3 h) jv_X0_85 jn_1 hc5 ⟨rfl, rfl, by decide, by decide⟩ rfl rfl (Nat.le_of_ble_eq_true rfl) dX0_lowestCeiling_13 rfl (fun r6 s7 h => ?_)
  refine jx_istore_n 17 hX [(3, .int r6), (0, .ref (D.2.1 a0)), (1, .int a1), (2, .int a2)] rfl (by decide) rfl dX0_lowestCeiling_16 rfl (jx_iconst 18 hX 1 (by decide) dX0_lowestCeiling_17 rfl (jx_istore 20 hX [(4, .int 1), (3, .int r6), (0, .ref (D.2.1 a0)), (1, .int a1), (2, .int a2)] (by decide) rfl dX0_lowestCeiling_18 rfl ?_))
  obtain ⟨n_, h⟩ := h
  exact jx_sub [2, 3, 4, 1, 0] rfl (l20 n_ a0 a1 a2 r6 1 s7 h)
set_option maxHeartbeats 4000000 in
set_option maxRecDepth 100000 in
theorem mX0_nearerTurn (l : Launch) (D : jx_Dt) (post : Int32 → jx_St → Prop) (a0 : Nat) (a1 : Int32) (a2 : Int32) (a3 : Int32) (s : jx_St) (h : wX0_nearerTurn post a0 a1 a2 a3 s) : jx_Met l yX0_nearerTurn cX0_nearerTurn 5 (some .int) (jx_r 3 67) D jx_LX [.ref (D.2.1 a0), .int a1, .int a2, .int a3] s (jx_Qi D jx_LX post) := by
  refine jx_ofJ (by decide) (Nat.le_of_ble_eq_true rfl) (fun X hl hX => ?_)
  subst hl
  replace hX : jx_K D jx_LX X cX0_nearerTurn RX0 5 (some .int) (jx_r 3 67) (jx_Qi D jx_LX post) := hX
  show jx_J D jx_LX X 0 [(0, .ref (D.2.1 a0)), (1, .int a1), (2, .int a2), (3, .int a3)] [] s
  have b20 : ∀ (a0 : Nat) (a2 : Int32) (a3 : Int32) (k0 : Int32) (s : jx_St), wX0_nearerTurn_b20 post a0 a2 a3 k0 s → jx_J D jx_LX X 20 [(0, .ref (D.2.1 a0)), (2, .int a2), (3, .int a3)] [.int k0] s := by
    intro a0 a2 a3 k0 s h
    unfold wX0_nearerTurn_b20 at h
    refine jx_istore 22 hX [(4, .int k0), (0, .ref (D.2.1 a0)), (2, .int a2), (3, .int a3)] (by decide) rfl dX0_nearerTurn_20 rfl (jx_iload 24 hX 0 rfl dX0_nearerTurn_22 rfl ?_)
    refine jx_if_eq 27 47 hX dX0_nearerTurn_24 rfl (by decide) (fun hb4 => ?_) (fun hb4 => ?_)
    · have h := h.1 hb4
      refine jx_iload_n 48 hX 2 rfl rfl dX0_nearerTurn_47 rfl ?_
      exact jx_iret hX dX0_nearerTurn_48 h
    · have h := h.2 hb4
      refine jx_aload_n 28 hX 1 rfl rfl dX0_nearerTurn_27 rfl (jx_iload_n 29 hX 3 rfl rfl dX0_nearerTurn_28 rfl ?_)
      obtain ⟨hc5, h⟩ := h
      refine jx_callVi 32 hX (mX0_covers _ D _ a0 a3 s h) jv_X0_93 jn_0 hc5 ⟨rfl, rfl, by decide, by decide⟩ rfl rfl (Nat.le_of_ble_eq_true rfl) dX0_nearerTurn_29 rfl (fun r6 s7 h => ?_)
      obtain ⟨hz8, h⟩ := h
      have h := h hz8
      refine jx_if_eq 35 47 hX dX0_nearerTurn_32 rfl (by decide) (fun hb9 => ?_) (fun hb9 => ?_)
      · have h := h.1 hb9
        refine jx_iload_n 48 hX 2 rfl rfl dX0_nearerTurn_47 rfl ?_
        exact jx_iret hX dX0_nearerTurn_48 h
      · have h := h.2 hb9
        refine jx_aload_n 36 hX 1 rfl rfl dX0_nearerTurn_35 rfl (jx_iload_n 37 hX 3 rfl rfl dX0_nearerTurn_36 rfl ?_)
        refine jx_callVi 40 hX (mX0_isTurn _ D _ a0 a3 s7 h) jv_X0_96 jn_0 hc5 ⟨rfl, rfl, by decide, by decide⟩ rfl rfl (Nat.le_of_ble_eq_true rfl) dX0_nearerTurn_37 rfl (fun r10 s11 h => ?_)
        obtain ⟨hz12, h⟩ := h
        have h := h hz12
        refine jx_if_eq 43 47 hX dX0_nearerTurn_40 rfl (by decide) (fun hb13 => ?_) (fun hb13 => ?_)
        · have h := h.1 hb13
          refine jx_iload_n 48 hX 2 rfl rfl dX0_nearerTurn_47 rfl ?_
          exact jx_iret hX dX0_nearerTurn_48 h
        · have h := h.2 hb13
          refine jx_iload_n 44 hX 3 rfl rfl dX0_nearerTurn_43 rfl (jx_goto 48 hX dX0_nearerTurn_44 (by decide) ?_)
          exact jx_iret hX dX0_nearerTurn_48 h
  unfold wX0_nearerTurn at h
  refine jx_iload_n 1 hX 3 rfl rfl dX0_nearerTurn_0 rfl (jx_iload_n 2 hX 1 rfl rfl dX0_nearerTurn_1 rfl ?_)
  refine jx_icmp_le 5 19 hX dX0_nearerTurn_2 rfl (by decide) (fun hb1 => ?_) (fun hb1 => ?_)
  · have h := h.1 hb1
    refine jx_iconst 20 hX 0 (by decide) dX0_nearerTurn_19 rfl ?_
    exact jx_sub [0, 2, 3] rfl (b20 a0 a2 a3 0 s h)
  · have h := h.2 hb1
    refine jx_iload_n 6 hX 2 rfl rfl dX0_nearerTurn_5 rfl (jx_iconst 7 hX (-1) (by decide) dX0_nearerTurn_6 rfl ?_)
    refine jx_icmp_eq 10 15 hX dX0_nearerTurn_7 rfl (by decide) (fun hb2 => ?_) (fun hb2 => ?_)
    · have h := h.1 hb2
      refine jx_iconst 16 hX 1 (by decide) dX0_nearerTurn_15 rfl (jx_goto 20 hX dX0_nearerTurn_16 (by decide) ?_)
      exact jx_sub [0, 2, 3] rfl (b20 a0 a2 a3 1 s h)
    · have h := h.2 hb2
      refine jx_iload_n 11 hX 3 rfl rfl dX0_nearerTurn_10 rfl (jx_iload_n 12 hX 2 rfl rfl dX0_nearerTurn_11 rfl ?_)
      refine jx_icmp_ge 15 19 hX dX0_nearerTurn_12 rfl (by decide) (fun hb3 => ?_) (fun hb3 => ?_)
      · have h := h.1 hb3
        refine jx_iconst 20 hX 0 (by decide) dX0_nearerTurn_19 rfl ?_
        exact jx_sub [0, 2, 3] rfl (b20 a0 a2 a3 0 s h)
      · have h := h.2 hb3
        refine jx_iconst 16 hX 1 (by decide) dX0_nearerTurn_15 rfl (jx_goto 20 hX dX0_nearerTurn_16 (by decide) ?_)
        exact jx_sub [0, 2, 3] rfl (b20 a0 a2 a3 1 s h)
set_option maxHeartbeats 4000000 in
set_option maxRecDepth 100000 in
theorem mX0_nextTurn (l : Launch) (D : jx_Dt) (post : Int32 → jx_St → Prop) (a0 : Nat) (a1 : Int32) (s : jx_St) (h : wX0_nextTurn post a0 a1 s) : jx_Met l yX0_nextTurn cX0_nextTurn 4 (some .int) (jx_r 4 91) D jx_LX [.ref (D.2.1 a0), .int a1] s (jx_Qi D jx_LX post) := by
  refine jx_ofJ (by decide) (Nat.le_of_ble_eq_true rfl) (fun X hl hX => ?_)
  subst hl
  replace hX : jx_K D jx_LX X cX0_nextTurn RX0 4 (some .int) (jx_r 4 91) (jx_Qi D jx_LX post) := hX
  show jx_J D jx_LX X 0 [(0, .ref (D.2.1 a0)), (1, .int a1)] [] s
  have l4 : ∀ (n : Nat) (a0 : Nat) (a1 : Int32) (a2 : Int32) (a3 : Int32) (s : jx_St), wX0_nextTurn_l4 post n a0 a1 a2 a3 s → jx_J D jx_LX X 4 [(0, .ref (D.2.1 a0)), (1, .int a1), (2, .int a2), (3, .int a3)] [] s := by
    intro n
    induction n with
    | zero => intro a0 a1 a2 a3 s h; exact h.elim
    | succ n ih =>
      intro a0 a1 a2 a3 s h
      rw [wX0_nextTurn_l4] at h
      refine jx_iload_n 5 hX 3 rfl rfl dX0_nextTurn_4 rfl (jx_aload_n 6 hX 0 rfl rfl dX0_nextTurn_5 rfl ?_)
      obtain ⟨hc1, h⟩ := h
      refine jx_getI 9 hX jf_X0_48 rfl hc1 dX0_nextTurn_6 rfl ?_
      refine jx_icmp_ge 12 56 hX dX0_nextTurn_9 rfl (by decide) (fun hb2 => ?_) (fun hb2 => ?_)
      · have h := h.1 hb2
        refine jx_iload_n 57 hX 2 rfl rfl dX0_nextTurn_56 rfl ?_
        exact jx_iret hX dX0_nextTurn_57 h
      · have h := h.2 hb2
        refine jx_iload_n 13 hX 3 rfl rfl dX0_nextTurn_12 rfl (jx_bipush 15 hX 9 (by decide) dX0_nextTurn_13 rfl ?_)
        refine jx_icmp_ge 18 56 hX dX0_nextTurn_15 rfl (by decide) (fun hb3 => ?_) (fun hb3 => ?_)
        · have h := h.1 hb3
          refine jx_iload_n 57 hX 2 rfl rfl dX0_nextTurn_56 rfl ?_
          exact jx_iret hX dX0_nextTurn_57 h
        · have h := h.2 hb3
          refine jx_aload_n 19 hX 0 rfl rfl dX0_nextTurn_18 rfl (jx_iload_n 20 hX 1 rfl rfl dX0_nextTurn_19 rfl (jx_iload_n 21 hX 2 rfl rfl dX0_nextTurn_20 rfl (jx_aload_n 22 hX 0 rfl rfl dX0_nextTurn_21 rfl (jx_getR 25 hX jf_X0_17 rfl hc1 dX0_nextTurn_22 rfl (jx_iload_n 26 hX 3 rfl rfl dX0_nextTurn_25 rfl ?_)))))
          obtain ⟨hc4, h⟩ := h
          refine jx_aaload 27 hX hc4 dX0_nextTurn_26 rfl ?_
          obtain ⟨hc5, h⟩ := h
          refine jx_getI 30 hX jf_X0_57 rfl hc5 dX0_nextTurn_27 rfl ?_
          refine jx_callVi 33 hX (mX0_nearerTurn _ D _ a0 a1 a2 (s.1 (s.2 (s.2 a0 8) (a3 : Int32).toNatClampNeg) 2) s h) jv_X0_89 jn_0 hc1 ⟨rfl, rfl, by decide, by decide⟩ rfl rfl (Nat.le_of_ble_eq_true rfl) dX0_nextTurn_30 rfl (fun r6 s7 h => ?_)
          refine jx_istore_n 34 hX [(2, .int r6), (0, .ref (D.2.1 a0)), (1, .int a1), (3, .int a3)] rfl (by decide) rfl dX0_nextTurn_33 rfl (jx_aload_n 35 hX 1 rfl rfl dX0_nextTurn_34 rfl (jx_iload_n 36 hX 2 rfl rfl dX0_nextTurn_35 rfl (jx_iload_n 37 hX 0 rfl rfl dX0_nextTurn_36 rfl (jx_aload_n 38 hX 1 rfl rfl dX0_nextTurn_37 rfl (jx_getR 41 hX jf_X0_17 rfl hc1 dX0_nextTurn_38 rfl ?_)))))
          refine jx_iload_n 42 hX 3 rfl rfl dX0_nextTurn_41 rfl ?_
          obtain ⟨hc8, h⟩ := h
          refine jx_aaload 43 hX hc8 dX0_nextTurn_42 rfl ?_
          obtain ⟨hc9, h⟩ := h
          refine jx_getI 46 hX jf_X0_60 rfl hc9 dX0_nextTurn_43 rfl ?_
          refine jx_callVi 49 hX (mX0_nearerTurn _ D _ a0 a1 r6 (s7.1 (s7.2 (s7.2 a0 8) (a3 : Int32).toNatClampNeg) 3) s7 h) jv_X0_89 jn_0 hc1 ⟨rfl, rfl, by decide, by decide⟩ rfl rfl (Nat.le_of_ble_eq_true rfl) dX0_nextTurn_46 rfl (fun r10 s11 h => ?_)
          refine jx_istore_n 50 hX [(2, .int r10), (0, .ref (D.2.1 a0)), (1, .int a1), (3, .int a3)] rfl (by decide) rfl dX0_nextTurn_49 rfl ?_
          obtain ⟨x12, hx12⟩ : ∃ y : Int32, y = a3 + 1 := ⟨_, rfl⟩
          have h := h x12 hx12
          refine jx_iinc 53 hX 3 x12 [(3, .int x12), (2, .int r10), (0, .ref (D.2.1 a0)), (1, .int a1)] rfl (by rw [hx12]; exact congrArg (fun z => a3 + z) (by decide)) (by decide) rfl dX0_nextTurn_50 rfl (jx_goto 4 hX dX0_nextTurn_53 (by decide) ?_)
          exact jx_sub [2, 3, 1, 0] rfl (ih a0 a1 r10 x12 s11 h)
  unfold wX0_nextTurn at h
  refine jx_iconst 1 hX (-1) (by decide) dX0_nextTurn_0 rfl (jx_istore_n 2 hX [(2, .int (-1)), (0, .ref (D.2.1 a0)), (1, .int a1)] rfl (by decide) rfl dX0_nextTurn_1 rfl (jx_iconst 3 hX 1 (by decide) dX0_nextTurn_2 rfl (jx_istore_n 4 hX [(3, .int 1), (2, .int (-1)), (0, .ref (D.2.1 a0)), (1, .int a1)] rfl (by decide) rfl dX0_nextTurn_3 rfl ?_)))
  obtain ⟨n_, h⟩ := h
  exact jx_sub [2, 3, 1, 0] rfl (l4 n_ a0 a1 (-1) 1 s h)
set_option maxHeartbeats 4000000 in
set_option maxRecDepth 100000 in
theorem mX1_sameStart (l : Launch) (D : jx_Dt) (post : Int32 → jx_St → Prop) (a0 : Nat) (a1 : Nat) (a2 : Int32) (s : jx_St) (h : wX1_sameStart post a0 a1 a2 s) : jx_Met l yX1_sameStart cX1_sameStart 4 (some .boolean) (jx_r 0 0) D jx_LX [.ref (D.2.1 a0), .ref (D.2.1 a1), .int a2] s (jx_Qi D jx_LX (fun r u => (r = 0 ∨ r = 1) ∧ post r u)) := by
  refine jx_ofJ (by decide) (Nat.le_of_ble_eq_true rfl) (fun X hl hX => ?_)
  subst hl
  replace hX : jx_K D jx_LX X cX1_sameStart RX1 4 (some .boolean) (jx_r 0 0) (jx_Qi D jx_LX (fun r u => (r = 0 ∨ r = 1) ∧ post r u)) := hX
  show jx_J D jx_LX X 0 [(0, .ref (D.2.1 a0)), (1, .ref (D.2.1 a1)), (2, .int a2)] [] s
  have l2 : ∀ (n : Nat) (a0 : Nat) (a1 : Nat) (a2 : Int32) (a3 : Int32) (s : jx_St), wX1_sameStart_l2 post n a0 a1 a2 a3 s → jx_J D jx_LX X 2 [(0, .ref (D.2.1 a0)), (1, .ref (D.2.1 a1)), (2, .int a2), (3, .int a3)] [] s := by
    intro n
    induction n with
    | zero => intro a0 a1 a2 a3 s h; exact h.elim
    | succ n ih =>
      intro a0 a1 a2 a3 s h
      rw [wX1_sameStart_l2] at h
      refine jx_iload_n 3 hX 3 rfl rfl dX1_sameStart_2 rfl (jx_iload_n 4 hX 2 rfl rfl dX1_sameStart_3 rfl ?_)
      refine jx_icmp_ge 7 36 hX dX1_sameStart_4 rfl (by decide) (fun hb1 => ?_) (fun hb1 => ?_)
      · have h := h.1 hb1
        refine jx_iconst 37 hX 1 (by decide) dX1_sameStart_36 rfl ?_
        exact jx_zret hX dX1_sameStart_37 (by decide) h
      · have h := h.2 hb1
        refine jx_iload_n 8 hX 3 rfl rfl dX1_sameStart_7 rfl (jx_aload_n 9 hX 0 rfl rfl dX1_sameStart_8 rfl ?_)
        obtain ⟨hc2, h⟩ := h
        refine jx_alenI 10 hX hc2 dX1_sameStart_9 rfl ?_
        refine jx_icmp_ge 13 36 hX dX1_sameStart_10 rfl (by decide) (fun hb3 => ?_) (fun hb3 => ?_)
        · have h := h.1 hb3
          refine jx_iconst 37 hX 1 (by decide) dX1_sameStart_36 rfl ?_
          exact jx_zret hX dX1_sameStart_37 (by decide) h
        · have h := h.2 hb3
          refine jx_iload_n 14 hX 3 rfl rfl dX1_sameStart_13 rfl (jx_aload_n 15 hX 1 rfl rfl dX1_sameStart_14 rfl ?_)
          obtain ⟨hc4, h⟩ := h
          refine jx_alenI 16 hX hc4 dX1_sameStart_15 rfl ?_
          refine jx_icmp_ge 19 36 hX dX1_sameStart_16 rfl (by decide) (fun hb5 => ?_) (fun hb5 => ?_)
          · have h := h.1 hb5
            refine jx_iconst 37 hX 1 (by decide) dX1_sameStart_36 rfl ?_
            exact jx_zret hX dX1_sameStart_37 (by decide) h
          · have h := h.2 hb5
            refine jx_aload_n 20 hX 0 rfl rfl dX1_sameStart_19 rfl (jx_iload_n 21 hX 3 rfl rfl dX1_sameStart_20 rfl ?_)
            obtain ⟨hc6, h⟩ := h
            refine jx_iaload 22 hX hc6 dX1_sameStart_21 rfl (jx_aload_n 23 hX 1 rfl rfl dX1_sameStart_22 rfl (jx_iload_n 24 hX 3 rfl rfl dX1_sameStart_23 rfl ?_))
            obtain ⟨hc7, h⟩ := h
            refine jx_iaload 25 hX hc7 dX1_sameStart_24 rfl ?_
            refine jx_icmp_eq 28 30 hX dX1_sameStart_25 rfl (by decide) (fun hb8 => ?_) (fun hb8 => ?_)
            · have h := h.1 hb8
              obtain ⟨x9, hx9⟩ : ∃ y : Int32, y = a3 + 1 := ⟨_, rfl⟩
              have h := h x9 hx9
              refine jx_iinc 33 hX 3 x9 [(3, .int x9), (0, .ref (D.2.1 a0)), (1, .ref (D.2.1 a1)), (2, .int a2)] rfl (by rw [hx9]; exact congrArg (fun z => a3 + z) (by decide)) (by decide) rfl dX1_sameStart_30 rfl (jx_goto 2 hX dX1_sameStart_33 (by decide) ?_)
              exact jx_sub [1, 2, 3, 0] rfl (ih a0 a1 a2 x9 s h)
            · have h := h.2 hb8
              refine jx_iconst 29 hX 0 (by decide) dX1_sameStart_28 rfl ?_
              exact jx_zret hX dX1_sameStart_29 (by decide) h
  unfold wX1_sameStart at h
  refine jx_iconst 1 hX 0 (by decide) dX1_sameStart_0 rfl (jx_istore_n 2 hX [(3, .int 0), (0, .ref (D.2.1 a0)), (1, .ref (D.2.1 a1)), (2, .int a2)] rfl (by decide) rfl dX1_sameStart_1 rfl ?_)
  obtain ⟨n_, h⟩ := h
  exact jx_sub [1, 2, 3, 0] rfl (l2 n_ a0 a1 a2 0 s h)
set_option maxHeartbeats 4000000 in
set_option maxRecDepth 100000 in
theorem mX1_sameAs (l : Launch) (D : jx_Dt) (post : Int32 → jx_St → Prop) (a0 : Nat) (a1 : Nat) (s : jx_St) (h : wX1_sameAs post a0 a1 s) : jx_Met l yX1_sameAs cX1_sameAs 2 (some .boolean) (jx_r 1 23) D jx_LX [.ref (D.2.1 a0), .ref (D.2.1 a1)] s (jx_Qi D jx_LX (fun r u => (r = 0 ∨ r = 1) ∧ post r u)) := by
  refine jx_ofJ (by decide) (Nat.le_of_ble_eq_true rfl) (fun X hl hX => ?_)
  subst hl
  replace hX : jx_K D jx_LX X cX1_sameAs RX1 2 (some .boolean) (jx_r 1 23) (jx_Qi D jx_LX (fun r u => (r = 0 ∨ r = 1) ∧ post r u)) := hX
  show jx_J D jx_LX X 0 [(0, .ref (D.2.1 a0)), (1, .ref (D.2.1 a1))] [] s
  unfold wX1_sameAs at h
  refine jx_aload_n 1 hX 0 rfl rfl dX1_sameAs_0 rfl ?_
  obtain ⟨hc1, h⟩ := h
  refine jx_getI 4 hX jf_X1_18 rfl hc1 dX1_sameAs_1 rfl (jx_aload_n 5 hX 1 rfl rfl dX1_sameAs_4 rfl ?_)
  obtain ⟨hc2, h⟩ := h
  refine jx_getI 8 hX jf_X1_18 rfl hc2 dX1_sameAs_5 rfl ?_
  refine jx_icmp_ne 11 150 hX dX1_sameAs_8 rfl (by decide) (fun hb3 => ?_) (fun hb3 => ?_)
  · have h := h.1 hb3
    refine jx_iconst 151 hX 0 (by decide) dX1_sameAs_150 rfl ?_
    exact jx_zret hX dX1_sameAs_151 (by decide) h
  · have h := h.2 hb3
    refine jx_aload_n 12 hX 0 rfl rfl dX1_sameAs_11 rfl (jx_getI 15 hX jf_X1_22 rfl hc1 dX1_sameAs_12 rfl (jx_aload_n 16 hX 1 rfl rfl dX1_sameAs_15 rfl (jx_getI 19 hX jf_X1_22 rfl hc2 dX1_sameAs_16 rfl ?_)))
    refine jx_icmp_ne 22 150 hX dX1_sameAs_19 rfl (by decide) (fun hb4 => ?_) (fun hb4 => ?_)
    · have h := h.1 hb4
      refine jx_iconst 151 hX 0 (by decide) dX1_sameAs_150 rfl ?_
      exact jx_zret hX dX1_sameAs_151 (by decide) h
    · have h := h.2 hb4
      refine jx_aload_n 23 hX 0 rfl rfl dX1_sameAs_22 rfl (jx_getI 26 hX jf_X1_25 rfl hc1 dX1_sameAs_23 rfl (jx_aload_n 27 hX 1 rfl rfl dX1_sameAs_26 rfl (jx_getI 30 hX jf_X1_25 rfl hc2 dX1_sameAs_27 rfl ?_)))
      refine jx_icmp_ne 33 150 hX dX1_sameAs_30 rfl (by decide) (fun hb5 => ?_) (fun hb5 => ?_)
      · have h := h.1 hb5
        refine jx_iconst 151 hX 0 (by decide) dX1_sameAs_150 rfl ?_
        exact jx_zret hX dX1_sameAs_151 (by decide) h
      · have h := h.2 hb5
        refine jx_aload_n 34 hX 0 rfl rfl dX1_sameAs_33 rfl (jx_getI 37 hX jf_X1_28 rfl hc1 dX1_sameAs_34 rfl (jx_aload_n 38 hX 1 rfl rfl dX1_sameAs_37 rfl (jx_getI 41 hX jf_X1_28 rfl hc2 dX1_sameAs_38 rfl ?_)))
        refine jx_icmp_ne 44 150 hX dX1_sameAs_41 rfl (by decide) (fun hb6 => ?_) (fun hb6 => ?_)
        · have h := h.1 hb6
          refine jx_iconst 151 hX 0 (by decide) dX1_sameAs_150 rfl ?_
          exact jx_zret hX dX1_sameAs_151 (by decide) h
        · have h := h.2 hb6
          refine jx_aload_n 45 hX 0 rfl rfl dX1_sameAs_44 rfl (jx_getI 48 hX jf_X1_31 rfl hc1 dX1_sameAs_45 rfl (jx_aload_n 49 hX 1 rfl rfl dX1_sameAs_48 rfl (jx_getI 52 hX jf_X1_31 rfl hc2 dX1_sameAs_49 rfl ?_)))
          refine jx_icmp_ne 55 150 hX dX1_sameAs_52 rfl (by decide) (fun hb7 => ?_) (fun hb7 => ?_)
          · have h := h.1 hb7
            refine jx_iconst 151 hX 0 (by decide) dX1_sameAs_150 rfl ?_
            exact jx_zret hX dX1_sameAs_151 (by decide) h
          · have h := h.2 hb7
            refine jx_aload_n 56 hX 0 rfl rfl dX1_sameAs_55 rfl (jx_getI 59 hX jf_X1_34 rfl hc1 dX1_sameAs_56 rfl (jx_aload_n 60 hX 1 rfl rfl dX1_sameAs_59 rfl (jx_getI 63 hX jf_X1_34 rfl hc2 dX1_sameAs_60 rfl ?_)))
            refine jx_icmp_ne 66 150 hX dX1_sameAs_63 rfl (by decide) (fun hb8 => ?_) (fun hb8 => ?_)
            · have h := h.1 hb8
              refine jx_iconst 151 hX 0 (by decide) dX1_sameAs_150 rfl ?_
              exact jx_zret hX dX1_sameAs_151 (by decide) h
            · have h := h.2 hb8
              refine jx_aload_n 67 hX 0 rfl rfl dX1_sameAs_66 rfl (jx_getI 70 hX jf_X1_37 rfl hc1 dX1_sameAs_67 rfl (jx_aload_n 71 hX 1 rfl rfl dX1_sameAs_70 rfl (jx_getI 74 hX jf_X1_37 rfl hc2 dX1_sameAs_71 rfl ?_)))
              refine jx_icmp_ne 77 150 hX dX1_sameAs_74 rfl (by decide) (fun hb9 => ?_) (fun hb9 => ?_)
              · have h := h.1 hb9
                refine jx_iconst 151 hX 0 (by decide) dX1_sameAs_150 rfl ?_
                exact jx_zret hX dX1_sameAs_151 (by decide) h
              · have h := h.2 hb9
                refine jx_aload_n 78 hX 0 rfl rfl dX1_sameAs_77 rfl (jx_getI 81 hX jf_X1_40 rfl hc1 dX1_sameAs_78 rfl (jx_aload_n 82 hX 1 rfl rfl dX1_sameAs_81 rfl (jx_getI 85 hX jf_X1_40 rfl hc2 dX1_sameAs_82 rfl ?_)))
                refine jx_icmp_ne 88 150 hX dX1_sameAs_85 rfl (by decide) (fun hb10 => ?_) (fun hb10 => ?_)
                · have h := h.1 hb10
                  refine jx_iconst 151 hX 0 (by decide) dX1_sameAs_150 rfl ?_
                  exact jx_zret hX dX1_sameAs_151 (by decide) h
                · have h := h.2 hb10
                  refine jx_aload_n 89 hX 0 rfl rfl dX1_sameAs_88 rfl (jx_getI 92 hX jf_X1_43 rfl hc1 dX1_sameAs_89 rfl (jx_aload_n 93 hX 1 rfl rfl dX1_sameAs_92 rfl (jx_getI 96 hX jf_X1_43 rfl hc2 dX1_sameAs_93 rfl ?_)))
                  refine jx_icmp_ne 99 150 hX dX1_sameAs_96 rfl (by decide) (fun hb11 => ?_) (fun hb11 => ?_)
                  · have h := h.1 hb11
                    refine jx_iconst 151 hX 0 (by decide) dX1_sameAs_150 rfl ?_
                    exact jx_zret hX dX1_sameAs_151 (by decide) h
                  · have h := h.2 hb11
                    refine jx_aload_n 100 hX 0 rfl rfl dX1_sameAs_99 rfl (jx_getI 103 hX jf_X1_46 rfl hc1 dX1_sameAs_100 rfl (jx_aload_n 104 hX 1 rfl rfl dX1_sameAs_103 rfl (jx_getI 107 hX jf_X1_46 rfl hc2 dX1_sameAs_104 rfl ?_)))
                    refine jx_icmp_ne 110 150 hX dX1_sameAs_107 rfl (by decide) (fun hb12 => ?_) (fun hb12 => ?_)
                    · have h := h.1 hb12
                      refine jx_iconst 151 hX 0 (by decide) dX1_sameAs_150 rfl ?_
                      exact jx_zret hX dX1_sameAs_151 (by decide) h
                    · have h := h.2 hb12
                      refine jx_aload_n 111 hX 0 rfl rfl dX1_sameAs_110 rfl (jx_getR 114 hX jf_X1_9 rfl hc1 dX1_sameAs_111 rfl (jx_aload_n 115 hX 1 rfl rfl dX1_sameAs_114 rfl (jx_getR 118 hX jf_X1_9 rfl hc2 dX1_sameAs_115 rfl (jx_aload_n 119 hX 0 rfl rfl dX1_sameAs_118 rfl (jx_getI 122 hX jf_X1_43 rfl hc1 dX1_sameAs_119 rfl ?_)))))
                      refine jx_callSi 125 hX (mX1_sameStart _ D _ (s.2 a0 10) (s.2 a1 10) (s.1 a0 8) s h) js_X1_66 ⟨rfl, rfl, by decide, by decide⟩ rfl rfl (Nat.le_of_ble_eq_true rfl) dX1_sameAs_122 rfl (fun r13 s14 h => ?_)
                      obtain ⟨hz15, h⟩ := h
                      have h := h hz15
                      refine jx_if_eq 128 150 hX dX1_sameAs_125 rfl (by decide) (fun hb16 => ?_) (fun hb16 => ?_)
                      · have h := h.1 hb16
                        refine jx_iconst 151 hX 0 (by decide) dX1_sameAs_150 rfl ?_
                        exact jx_zret hX dX1_sameAs_151 (by decide) h
                      · have h := h.2 hb16
                        refine jx_aload_n 129 hX 0 rfl rfl dX1_sameAs_128 rfl (jx_getR 132 hX jf_X1_15 rfl hc1 dX1_sameAs_129 rfl (jx_aload_n 133 hX 1 rfl rfl dX1_sameAs_132 rfl (jx_getR 136 hX jf_X1_15 rfl hc2 dX1_sameAs_133 rfl (jx_aload_n 137 hX 0 rfl rfl dX1_sameAs_136 rfl (jx_getI 140 hX jf_X1_46 rfl hc1 dX1_sameAs_137 rfl ?_)))))
                        refine jx_callSi 143 hX (mX1_sameStart _ D _ (s14.2 a0 11) (s14.2 a1 11) (s14.1 a0 9) s14 h) js_X1_66 ⟨rfl, rfl, by decide, by decide⟩ rfl rfl (Nat.le_of_ble_eq_true rfl) dX1_sameAs_140 rfl (fun r17 s18 h => ?_)
                        obtain ⟨hz19, h⟩ := h
                        have h := h hz19
                        refine jx_if_eq 146 150 hX dX1_sameAs_143 rfl (by decide) (fun hb20 => ?_) (fun hb20 => ?_)
                        · have h := h.1 hb20
                          refine jx_iconst 151 hX 0 (by decide) dX1_sameAs_150 rfl ?_
                          exact jx_zret hX dX1_sameAs_151 (by decide) h
                        · have h := h.2 hb20
                          refine jx_iconst 147 hX 1 (by decide) dX1_sameAs_146 rfl (jx_goto 151 hX dX1_sameAs_147 (by decide) ?_)
                          exact jx_zret hX dX1_sameAs_151 (by decide) h
set_option maxHeartbeats 4000000 in
set_option maxRecDepth 100000 in
theorem mX0_sameGroups (l : Launch) (D : jx_Dt) (post : Int32 → jx_St → Prop) (a0 : Nat) (a1 : Nat) (s : jx_St) (h : wX0_sameGroups post a0 a1 s) : jx_Met l yX0_sameGroups cX0_sameGroups 3 (some .boolean) (jx_r 2 44) D jx_LX [.ref (D.2.1 a0), .ref (D.2.1 a1)] s (jx_Qi D jx_LX (fun r u => (r = 0 ∨ r = 1) ∧ post r u)) := by
  refine jx_ofJ (by decide) (Nat.le_of_ble_eq_true rfl) (fun X hl hX => ?_)
  subst hl
  replace hX : jx_K D jx_LX X cX0_sameGroups RX0 3 (some .boolean) (jx_r 2 44) (jx_Qi D jx_LX (fun r u => (r = 0 ∨ r = 1) ∧ post r u)) := hX
  show jx_J D jx_LX X 0 [(0, .ref (D.2.1 a0)), (1, .ref (D.2.1 a1))] [] s
  have l15 : ∀ (n : Nat) (a0 : Nat) (a1 : Nat) (a2 : Int32) (s : jx_St), wX0_sameGroups_l15 post n a0 a1 a2 s → jx_J D jx_LX X 15 [(0, .ref (D.2.1 a0)), (1, .ref (D.2.1 a1)), (2, .int a2)] [] s := by
    intro n
    induction n with
    | zero => intro a0 a1 a2 s h; exact h.elim
    | succ n ih =>
      intro a0 a1 a2 s h
      rw [wX0_sameGroups_l15] at h
      refine jx_iload_n 16 hX 2 rfl rfl dX0_sameGroups_15 rfl (jx_aload_n 17 hX 0 rfl rfl dX0_sameGroups_16 rfl ?_)
      obtain ⟨hc4, h⟩ := h
      refine jx_getI 20 hX jf_X0_48 rfl hc4 dX0_sameGroups_17 rfl ?_
      refine jx_icmp_ge 23 55 hX dX0_sameGroups_20 rfl (by decide) (fun hb5 => ?_) (fun hb5 => ?_)
      · have h := h.1 hb5
        refine jx_iconst 56 hX 1 (by decide) dX0_sameGroups_55 rfl ?_
        exact jx_zret hX dX0_sameGroups_56 (by decide) h
      · have h := h.2 hb5
        refine jx_iload_n 24 hX 2 rfl rfl dX0_sameGroups_23 rfl (jx_bipush 26 hX 9 (by decide) dX0_sameGroups_24 rfl ?_)
        refine jx_icmp_ge 29 55 hX dX0_sameGroups_26 rfl (by decide) (fun hb6 => ?_) (fun hb6 => ?_)
        · have h := h.1 hb6
          refine jx_iconst 56 hX 1 (by decide) dX0_sameGroups_55 rfl ?_
          exact jx_zret hX dX0_sameGroups_56 (by decide) h
        · have h := h.2 hb6
          refine jx_aload_n 30 hX 0 rfl rfl dX0_sameGroups_29 rfl (jx_getR 33 hX jf_X0_17 rfl hc4 dX0_sameGroups_30 rfl (jx_iload_n 34 hX 2 rfl rfl dX0_sameGroups_33 rfl ?_))
          obtain ⟨hc7, h⟩ := h
          refine jx_aaload 35 hX hc7 dX0_sameGroups_34 rfl (jx_aload_n 36 hX 1 rfl rfl dX0_sameGroups_35 rfl ?_)
          obtain ⟨hc8, h⟩ := h
          refine jx_getR 39 hX jf_X0_17 rfl hc8 dX0_sameGroups_36 rfl (jx_iload_n 40 hX 2 rfl rfl dX0_sameGroups_39 rfl ?_)
          obtain ⟨hc9, h⟩ := h
          refine jx_aaload 41 hX hc9 dX0_sameGroups_40 rfl ?_
          obtain ⟨hc10, h⟩ := h
          refine jx_callVi 44 hX (mX1_sameAs _ D _ (s.2 (s.2 a0 8) (a2 : Int32).toNatClampNeg) (s.2 (s.2 a1 8) (a2 : Int32).toNatClampNeg) s h) jv_X0_117 jn_1 hc10 ⟨rfl, rfl, by decide, by decide⟩ rfl rfl (Nat.le_of_ble_eq_true rfl) dX0_sameGroups_41 rfl (fun r11 s12 h => ?_)
          obtain ⟨hz13, h⟩ := h
          have h := h hz13
          refine jx_if_ne 47 49 hX dX0_sameGroups_44 rfl (by decide) (fun hb14 => ?_) (fun hb14 => ?_)
          · have h := h.1 hb14
            obtain ⟨x15, hx15⟩ : ∃ y : Int32, y = a2 + 1 := ⟨_, rfl⟩
            have h := h x15 hx15
            refine jx_iinc 52 hX 2 x15 [(2, .int x15), (0, .ref (D.2.1 a0)), (1, .ref (D.2.1 a1))] rfl (by rw [hx15]; exact congrArg (fun z => a2 + z) (by decide)) (by decide) rfl dX0_sameGroups_49 rfl (jx_goto 15 hX dX0_sameGroups_52 (by decide) ?_)
            exact jx_sub [1, 2, 0] rfl (ih a0 a1 x15 s12 h)
          · have h := h.2 hb14
            refine jx_iconst 48 hX 0 (by decide) dX0_sameGroups_47 rfl ?_
            exact jx_zret hX dX0_sameGroups_48 (by decide) h
  unfold wX0_sameGroups at h
  refine jx_aload_n 1 hX 0 rfl rfl dX0_sameGroups_0 rfl ?_
  obtain ⟨hc1, h⟩ := h
  refine jx_getI 4 hX jf_X0_48 rfl hc1 dX0_sameGroups_1 rfl (jx_aload_n 5 hX 1 rfl rfl dX0_sameGroups_4 rfl ?_)
  obtain ⟨hc2, h⟩ := h
  refine jx_getI 8 hX jf_X0_48 rfl hc2 dX0_sameGroups_5 rfl ?_
  refine jx_icmp_eq 11 13 hX dX0_sameGroups_8 rfl (by decide) (fun hb3 => ?_) (fun hb3 => ?_)
  · have h := h.1 hb3
    refine jx_iconst 14 hX 0 (by decide) dX0_sameGroups_13 rfl (jx_istore_n 15 hX [(2, .int 0), (0, .ref (D.2.1 a0)), (1, .ref (D.2.1 a1))] rfl (by decide) rfl dX0_sameGroups_14 rfl ?_)
    obtain ⟨n_, h⟩ := h
    exact jx_sub [1, 2, 0] rfl (l15 n_ a0 a1 0 s h)
  · have h := h.2 hb3
    refine jx_iconst 12 hX 0 (by decide) dX0_sameGroups_11 rfl ?_
    exact jx_zret hX dX0_sameGroups_12 (by decide) h
set_option maxHeartbeats 4000000 in
set_option maxRecDepth 100000 in
theorem mX0_sameText (l : Launch) (D : jx_Dt) (post : Int32 → jx_St → Prop) (a0 : Nat) (a1 : Nat) (s : jx_St) (h : wX0_sameText post a0 a1 s) : jx_Met l yX0_sameText cX0_sameText 3 (some .boolean) (jx_r 0 0) D jx_LX [.ref (D.2.1 a0), .ref (D.2.1 a1)] s (jx_Qi D jx_LX (fun r u => (r = 0 ∨ r = 1) ∧ post r u)) := by
  refine jx_ofJ (by decide) (Nat.le_of_ble_eq_true rfl) (fun X hl hX => ?_)
  subst hl
  replace hX : jx_K D jx_LX X cX0_sameText RX0 3 (some .boolean) (jx_r 0 0) (jx_Qi D jx_LX (fun r u => (r = 0 ∨ r = 1) ∧ post r u)) := hX
  show jx_J D jx_LX X 0 [(0, .ref (D.2.1 a0)), (1, .ref (D.2.1 a1))] [] s
  have l15 : ∀ (n : Nat) (a0 : Nat) (a1 : Nat) (a2 : Int32) (s : jx_St), wX0_sameText_l15 post n a0 a1 a2 s → jx_J D jx_LX X 15 [(0, .ref (D.2.1 a0)), (1, .ref (D.2.1 a1)), (2, .int a2)] [] s := by
    intro n
    induction n with
    | zero => intro a0 a1 a2 s h; exact h.elim
    | succ n ih =>
      intro a0 a1 a2 s h
      rw [wX0_sameText_l15] at h
      refine jx_iload_n 16 hX 2 rfl rfl dX0_sameText_15 rfl (jx_aload_n 17 hX 0 rfl rfl dX0_sameText_16 rfl ?_)
      obtain ⟨hc4, h⟩ := h
      refine jx_getI 20 hX jf_X0_45 rfl hc4 dX0_sameText_17 rfl ?_
      refine jx_icmp_ge 23 53 hX dX0_sameText_20 rfl (by decide) (fun hb5 => ?_) (fun hb5 => ?_)
      · have h := h.1 hb5
        refine jx_iconst 54 hX 1 (by decide) dX0_sameText_53 rfl ?_
        exact jx_zret hX dX0_sameText_54 (by decide) h
      · have h := h.2 hb5
        refine jx_iload_n 24 hX 2 rfl rfl dX0_sameText_23 rfl (jx_sipush 27 hX 700 (by decide) dX0_sameText_24 rfl ?_)
        refine jx_icmp_ge 30 53 hX dX0_sameText_27 rfl (by decide) (fun hb6 => ?_) (fun hb6 => ?_)
        · have h := h.1 hb6
          refine jx_iconst 54 hX 1 (by decide) dX0_sameText_53 rfl ?_
          exact jx_zret hX dX0_sameText_54 (by decide) h
        · have h := h.2 hb6
          refine jx_aload_n 31 hX 0 rfl rfl dX0_sameText_30 rfl (jx_getR 34 hX jf_X0_21 rfl hc4 dX0_sameText_31 rfl (jx_iload_n 35 hX 2 rfl rfl dX0_sameText_34 rfl ?_))
          obtain ⟨hc7, h⟩ := h
          refine jx_caload 36 hX hc7 dX0_sameText_35 rfl (jx_aload_n 37 hX 1 rfl rfl dX0_sameText_36 rfl ?_)
          obtain ⟨hc8, h⟩ := h
          refine jx_getR 40 hX jf_X0_21 rfl hc8 dX0_sameText_37 rfl (jx_iload_n 41 hX 2 rfl rfl dX0_sameText_40 rfl ?_)
          obtain ⟨hc9, h⟩ := h
          refine jx_caload 42 hX hc9 dX0_sameText_41 rfl ?_
          refine jx_icmp_eq 45 47 hX dX0_sameText_42 rfl (by decide) (fun hb10 => ?_) (fun hb10 => ?_)
          · have h := h.1 hb10
            obtain ⟨x11, hx11⟩ : ∃ y : Int32, y = a2 + 1 := ⟨_, rfl⟩
            have h := h x11 hx11
            refine jx_iinc 50 hX 2 x11 [(2, .int x11), (0, .ref (D.2.1 a0)), (1, .ref (D.2.1 a1))] rfl (by rw [hx11]; exact congrArg (fun z => a2 + z) (by decide)) (by decide) rfl dX0_sameText_47 rfl (jx_goto 15 hX dX0_sameText_50 (by decide) ?_)
            exact jx_sub [1, 2, 0] rfl (ih a0 a1 x11 s h)
          · have h := h.2 hb10
            refine jx_iconst 46 hX 0 (by decide) dX0_sameText_45 rfl ?_
            exact jx_zret hX dX0_sameText_46 (by decide) h
  unfold wX0_sameText at h
  refine jx_aload_n 1 hX 0 rfl rfl dX0_sameText_0 rfl ?_
  obtain ⟨hc1, h⟩ := h
  refine jx_getI 4 hX jf_X0_45 rfl hc1 dX0_sameText_1 rfl (jx_aload_n 5 hX 1 rfl rfl dX0_sameText_4 rfl ?_)
  obtain ⟨hc2, h⟩ := h
  refine jx_getI 8 hX jf_X0_45 rfl hc2 dX0_sameText_5 rfl ?_
  refine jx_icmp_eq 11 13 hX dX0_sameText_8 rfl (by decide) (fun hb3 => ?_) (fun hb3 => ?_)
  · have h := h.1 hb3
    refine jx_iconst 14 hX 0 (by decide) dX0_sameText_13 rfl (jx_istore_n 15 hX [(2, .int 0), (0, .ref (D.2.1 a0)), (1, .ref (D.2.1 a1))] rfl (by decide) rfl dX0_sameText_14 rfl ?_)
    obtain ⟨n_, h⟩ := h
    exact jx_sub [1, 2, 0] rfl (l15 n_ a0 a1 0 s h)
  · have h := h.2 hb3
    refine jx_iconst 12 hX 0 (by decide) dX0_sameText_11 rfl ?_
    exact jx_zret hX dX0_sameText_12 (by decide) h
set_option maxHeartbeats 4000000 in
set_option maxRecDepth 100000 in
theorem mX0_sameAs (l : Launch) (D : jx_Dt) (post : Int32 → jx_St → Prop) (a0 : Nat) (a1 : Nat) (s : jx_St) (h : wX0_sameAs post a0 a1 s) : jx_Met l yX0_sameAs cX0_sameAs 2 (some .boolean) (jx_r 3 66) D jx_LX [.ref (D.2.1 a0), .ref (D.2.1 a1)] s (jx_Qi D jx_LX (fun r u => (r = 0 ∨ r = 1) ∧ post r u)) := by
  refine jx_ofJ (by decide) (Nat.le_of_ble_eq_true rfl) (fun X hl hX => ?_)
  subst hl
  replace hX : jx_K D jx_LX X cX0_sameAs RX0 2 (some .boolean) (jx_r 3 66) (jx_Qi D jx_LX (fun r u => (r = 0 ∨ r = 1) ∧ post r u)) := hX
  show jx_J D jx_LX X 0 [(0, .ref (D.2.1 a0)), (1, .ref (D.2.1 a1))] [] s
  unfold wX0_sameAs at h
  refine jx_aload_n 1 hX 0 rfl rfl dX0_sameAs_0 rfl ?_
  obtain ⟨hc1, h⟩ := h
  refine jx_getI 4 hX jf_X0_26 rfl hc1 dX0_sameAs_1 rfl (jx_aload_n 5 hX 1 rfl rfl dX0_sameAs_4 rfl ?_)
  obtain ⟨hc2, h⟩ := h
  refine jx_getI 8 hX jf_X0_26 rfl hc2 dX0_sameAs_5 rfl ?_
  refine jx_icmp_ne 11 101 hX dX0_sameAs_8 rfl (by decide) (fun hb3 => ?_) (fun hb3 => ?_)
  · have h := h.1 hb3
    refine jx_iconst 102 hX 0 (by decide) dX0_sameAs_101 rfl ?_
    exact jx_zret hX dX0_sameAs_102 (by decide) h
  · have h := h.2 hb3
    refine jx_aload_n 12 hX 0 rfl rfl dX0_sameAs_11 rfl (jx_getI 15 hX jf_X0_30 rfl hc1 dX0_sameAs_12 rfl (jx_aload_n 16 hX 1 rfl rfl dX0_sameAs_15 rfl (jx_getI 19 hX jf_X0_30 rfl hc2 dX0_sameAs_16 rfl ?_)))
    refine jx_icmp_ne 22 101 hX dX0_sameAs_19 rfl (by decide) (fun hb4 => ?_) (fun hb4 => ?_)
    · have h := h.1 hb4
      refine jx_iconst 102 hX 0 (by decide) dX0_sameAs_101 rfl ?_
      exact jx_zret hX dX0_sameAs_102 (by decide) h
    · have h := h.2 hb4
      refine jx_aload_n 23 hX 0 rfl rfl dX0_sameAs_22 rfl (jx_getI 26 hX jf_X0_33 rfl hc1 dX0_sameAs_23 rfl (jx_aload_n 27 hX 1 rfl rfl dX0_sameAs_26 rfl (jx_getI 30 hX jf_X0_33 rfl hc2 dX0_sameAs_27 rfl ?_)))
      refine jx_icmp_ne 33 101 hX dX0_sameAs_30 rfl (by decide) (fun hb5 => ?_) (fun hb5 => ?_)
      · have h := h.1 hb5
        refine jx_iconst 102 hX 0 (by decide) dX0_sameAs_101 rfl ?_
        exact jx_zret hX dX0_sameAs_102 (by decide) h
      · have h := h.2 hb5
        refine jx_aload_n 34 hX 0 rfl rfl dX0_sameAs_33 rfl (jx_getI 37 hX jf_X0_36 rfl hc1 dX0_sameAs_34 rfl (jx_aload_n 38 hX 1 rfl rfl dX0_sameAs_37 rfl (jx_getI 41 hX jf_X0_36 rfl hc2 dX0_sameAs_38 rfl ?_)))
        refine jx_icmp_ne 44 101 hX dX0_sameAs_41 rfl (by decide) (fun hb6 => ?_) (fun hb6 => ?_)
        · have h := h.1 hb6
          refine jx_iconst 102 hX 0 (by decide) dX0_sameAs_101 rfl ?_
          exact jx_zret hX dX0_sameAs_102 (by decide) h
        · have h := h.2 hb6
          refine jx_aload_n 45 hX 0 rfl rfl dX0_sameAs_44 rfl (jx_getI 48 hX jf_X0_39 rfl hc1 dX0_sameAs_45 rfl (jx_aload_n 49 hX 1 rfl rfl dX0_sameAs_48 rfl (jx_getI 52 hX jf_X0_39 rfl hc2 dX0_sameAs_49 rfl ?_)))
          refine jx_icmp_ne 55 101 hX dX0_sameAs_52 rfl (by decide) (fun hb7 => ?_) (fun hb7 => ?_)
          · have h := h.1 hb7
            refine jx_iconst 102 hX 0 (by decide) dX0_sameAs_101 rfl ?_
            exact jx_zret hX dX0_sameAs_102 (by decide) h
          · have h := h.2 hb7
            refine jx_aload_n 56 hX 0 rfl rfl dX0_sameAs_55 rfl (jx_getI 59 hX jf_X0_42 rfl hc1 dX0_sameAs_56 rfl (jx_aload_n 60 hX 1 rfl rfl dX0_sameAs_59 rfl (jx_getI 63 hX jf_X0_42 rfl hc2 dX0_sameAs_60 rfl ?_)))
            refine jx_icmp_ne 66 101 hX dX0_sameAs_63 rfl (by decide) (fun hb8 => ?_) (fun hb8 => ?_)
            · have h := h.1 hb8
              refine jx_iconst 102 hX 0 (by decide) dX0_sameAs_101 rfl ?_
              exact jx_zret hX dX0_sameAs_102 (by decide) h
            · have h := h.2 hb8
              refine jx_aload_n 67 hX 0 rfl rfl dX0_sameAs_66 rfl (jx_getR 70 hX jf_X0_9 rfl hc1 dX0_sameAs_67 rfl (jx_aload_n 71 hX 1 rfl rfl dX0_sameAs_70 rfl (jx_getR 74 hX jf_X0_9 rfl hc2 dX0_sameAs_71 rfl (jx_iconst 75 hX 4 (by decide) dX0_sameAs_74 rfl ?_))))
              refine jx_callSi 78 hX (mX1_sameStart _ D _ (s.2 a0 6) (s.2 a1 6) 4 s h) js_X0_106 ⟨rfl, rfl, by decide, by decide⟩ rfl rfl (Nat.le_of_ble_eq_true rfl) dX0_sameAs_75 rfl (fun r9 s10 h => ?_)
              obtain ⟨hz11, h⟩ := h
              have h := h hz11
              refine jx_if_eq 81 101 hX dX0_sameAs_78 rfl (by decide) (fun hb12 => ?_) (fun hb12 => ?_)
              · have h := h.1 hb12
                refine jx_iconst 102 hX 0 (by decide) dX0_sameAs_101 rfl ?_
                exact jx_zret hX dX0_sameAs_102 (by decide) h
              · have h := h.2 hb12
                refine jx_aload_n 82 hX 0 rfl rfl dX0_sameAs_81 rfl (jx_aload_n 83 hX 1 rfl rfl dX0_sameAs_82 rfl ?_)
                refine jx_callVi 86 hX (mX0_sameGroups _ D _ a0 a1 s10 h) jv_X0_110 jn_0 hc1 ⟨rfl, rfl, by decide, by decide⟩ rfl rfl (Nat.le_of_ble_eq_true rfl) dX0_sameAs_83 rfl (fun r13 s14 h => ?_)
                obtain ⟨hz15, h⟩ := h
                have h := h hz15
                refine jx_if_eq 89 101 hX dX0_sameAs_86 rfl (by decide) (fun hb16 => ?_) (fun hb16 => ?_)
                · have h := h.1 hb16
                  refine jx_iconst 102 hX 0 (by decide) dX0_sameAs_101 rfl ?_
                  exact jx_zret hX dX0_sameAs_102 (by decide) h
                · have h := h.2 hb16
                  refine jx_aload_n 90 hX 0 rfl rfl dX0_sameAs_89 rfl (jx_aload_n 91 hX 1 rfl rfl dX0_sameAs_90 rfl ?_)
                  refine jx_callVi 94 hX (mX0_sameText _ D _ a0 a1 s14 h) jv_X0_114 jn_0 hc1 ⟨rfl, rfl, by decide, by decide⟩ rfl rfl (Nat.le_of_ble_eq_true rfl) dX0_sameAs_91 rfl (fun r17 s18 h => ?_)
                  obtain ⟨hz19, h⟩ := h
                  have h := h hz19
                  refine jx_if_eq 97 101 hX dX0_sameAs_94 rfl (by decide) (fun hb20 => ?_) (fun hb20 => ?_)
                  · have h := h.1 hb20
                    refine jx_iconst 102 hX 0 (by decide) dX0_sameAs_101 rfl ?_
                    exact jx_zret hX dX0_sameAs_102 (by decide) h
                  · have h := h.2 hb20
                    refine jx_iconst 98 hX 1 (by decide) dX0_sameAs_97 rfl (jx_goto 102 hX dX0_sameAs_98 (by decide) ?_)
                    exact jx_zret hX dX0_sameAs_102 (by decide) h
set_option maxHeartbeats 4000000 in
set_option maxRecDepth 100000 in
theorem mX0_start (l : Launch) (D : jx_Dt) (post : jx_St → Prop) (a0 : Nat) (a1 : Int32) (s : jx_St) (h : wX0_start post a0 a1 s) : jx_Met l yX0_start cX0_start 2 none (jx_r 2 40) D jx_LX [.ref (D.2.1 a0), .int a1] s (jx_Qv D jx_LX post) := by
  refine jx_ofJ (by decide) (Nat.le_of_ble_eq_true rfl) (fun X hl hX => ?_)
  subst hl
  replace hX : jx_K D jx_LX X cX0_start RX0 2 none (jx_r 2 40) (jx_Qv D jx_LX post) := hX
  show jx_J D jx_LX X 0 [(0, .ref (D.2.1 a0)), (1, .int a1)] [] s
  unfold wX0_start at h
  refine jx_aload_n 1 hX 0 rfl rfl dX0_start_0 rfl (jx_iconst 2 hX 0 (by decide) dX0_start_1 rfl ?_)
  obtain ⟨hc1, h⟩ := h
  refine jx_putI 5 hX jp_X0_26 rfl hc1 dX0_start_2 rfl ?_
  refine jx_namu (fun s2 hs2 => ?_)
  have h := h s2 hs2
  refine jx_aload_n 6 hX 0 rfl rfl dX0_start_5 rfl (jx_iload_n 7 hX 1 rfl rfl dX0_start_6 rfl (jx_putI 10 hX jp_X0_30 rfl hc1 dX0_start_7 rfl ?_))
  refine jx_namu (fun s3 hs3 => ?_)
  have h := h s3 hs3
  refine jx_aload_n 11 hX 0 rfl rfl dX0_start_10 rfl (jx_iconst 12 hX (-1) (by decide) dX0_start_11 rfl (jx_putI 15 hX jp_X0_33 rfl hc1 dX0_start_12 rfl ?_))
  refine jx_namu (fun s4 hs4 => ?_)
  have h := h s4 hs4
  refine jx_aload_n 16 hX 0 rfl rfl dX0_start_15 rfl (jx_sipush 19 hX (-1001) (by decide) dX0_start_16 rfl (jx_putI 22 hX jp_X0_36 rfl hc1 dX0_start_19 rfl ?_))
  refine jx_namu (fun s5 hs5 => ?_)
  have h := h s5 hs5
  refine jx_aload_n 23 hX 0 rfl rfl dX0_start_22 rfl (jx_sipush 26 hX (-1001) (by decide) dX0_start_23 rfl (jx_putI 29 hX jp_X0_39 rfl hc1 dX0_start_26 rfl ?_))
  refine jx_namu (fun s6 hs6 => ?_)
  have h := h s6 hs6
  refine jx_aload_n 30 hX 0 rfl rfl dX0_start_29 rfl (jx_sipush 33 hX (-1001) (by decide) dX0_start_30 rfl (jx_putI 36 hX jp_X0_42 rfl hc1 dX0_start_33 rfl ?_))
  refine jx_namu (fun s7 hs7 => ?_)
  have h := h s7 hs7
  refine jx_aload_n 37 hX 0 rfl rfl dX0_start_36 rfl (jx_iconst 38 hX 0 (by decide) dX0_start_37 rfl (jx_putI 41 hX jp_X0_45 rfl hc1 dX0_start_38 rfl ?_))
  refine jx_namu (fun s8 hs8 => ?_)
  have h := h s8 hs8
  refine jx_aload_n 42 hX 0 rfl rfl dX0_start_41 rfl (jx_iconst 43 hX 0 (by decide) dX0_start_42 rfl (jx_putI 46 hX jp_X0_48 rfl hc1 dX0_start_43 rfl ?_))
  refine jx_namu (fun s9 hs9 => ?_)
  have h := h s9 hs9
  refine jx_aload_n 47 hX 0 rfl rfl dX0_start_46 rfl ?_
  refine jx_callVv 50 hX (mX0_addGroup _ D _ a0 s9 h) jv_X0_51 jn_0 hc1 ⟨rfl, rfl, by decide, by decide⟩ rfl rfl (Nat.le_of_ble_eq_true rfl) dX0_start_47 rfl (fun s11 h => ?_)
  exact jx_vret hX dX0_start_50 h
set_option maxHeartbeats 4000000 in
set_option maxRecDepth 100000 in
theorem mX1_addCloud (l : Launch) (D : jx_Dt) (post : jx_St → Prop) (a0 : Nat) (a1 : Int32) (s : jx_St) (h : wX1_addCloud post a0 a1 s) : jx_Met l yX1_addCloud cX1_addCloud 3 none (jx_r 1 21) D jx_LX [.ref (D.2.1 a0), .int a1] s (jx_Qv D jx_LX post) := by
  refine jx_ofJ (by decide) (Nat.le_of_ble_eq_true rfl) (fun X hl hX => ?_)
  subst hl
  replace hX : jx_K D jx_LX X cX1_addCloud RX1 3 none (jx_r 1 21) (jx_Qv D jx_LX post) := hX
  show jx_J D jx_LX X 0 [(0, .ref (D.2.1 a0)), (1, .int a1)] [] s
  unfold wX1_addCloud at h
  refine jx_aload_n 1 hX 0 rfl rfl dX1_addCloud_0 rfl ?_
  obtain ⟨hc1, h⟩ := h
  refine jx_getI 4 hX jf_X1_46 rfl hc1 dX1_addCloud_1 rfl (jx_iconst 5 hX 0 (by decide) dX1_addCloud_4 rfl (jx_mmax 8 hX jm_X1_49 (by decide) (Nat.le_of_ble_eq_true rfl) dX1_addCloud_5 rfl ?_))
  refine jx_topi (fun x2 hx2 => ?_)
  have h := h x2 hx2
  refine jx_istore_n 9 hX [(2, .int x2), (0, .ref (D.2.1 a0)), (1, .int a1)] rfl (by decide) rfl dX1_addCloud_8 rfl (jx_iload_n 10 hX 0 rfl rfl dX1_addCloud_9 rfl (jx_iconst 11 hX 4 (by decide) dX1_addCloud_10 rfl ?_))
  refine jx_icmp_ge 14 28 hX dX1_addCloud_11 rfl (by decide) (fun hb3 => ?_) (fun hb3 => ?_)
  · have h := h.1 hb3
    exact jx_vret hX dX1_addCloud_28 h
  · have h := h.2 hb3
    refine jx_aload_n 15 hX 1 rfl rfl dX1_addCloud_14 rfl (jx_getR 18 hX jf_X1_15 rfl hc1 dX1_addCloud_15 rfl (jx_iload_n 19 hX 0 rfl rfl dX1_addCloud_18 rfl (jx_iload_n 20 hX 2 rfl rfl dX1_addCloud_19 rfl ?_)))
    obtain ⟨hc4, h⟩ := h
    refine jx_iastore 21 hX hc4 dX1_addCloud_20 rfl ?_
    refine jx_namu (fun s5 hs5 => ?_)
    have h := h s5 hs5
    refine jx_aload_n 22 hX 1 rfl rfl dX1_addCloud_21 rfl (jx_iload_n 23 hX 0 rfl rfl dX1_addCloud_22 rfl (jx_iconst 24 hX 1 (by decide) dX1_addCloud_23 rfl (jx_iadd 25 hX dX1_addCloud_24 rfl (jx_putI 28 hX jp_X1_46 rfl hc1 dX1_addCloud_25 rfl ?_))))
    refine jx_namu (fun s6 hs6 => ?_)
    have h := h s6 hs6
    exact jx_vret hX dX1_addCloud_28 h
set_option maxHeartbeats 4000000 in
set_option maxRecDepth 100000 in
theorem mX1_addWeather (l : Launch) (D : jx_Dt) (post : jx_St → Prop) (a0 : Nat) (a1 : Int32) (s : jx_St) (h : wX1_addWeather post a0 a1 s) : jx_Met l yX1_addWeather cX1_addWeather 3 none (jx_r 1 21) D jx_LX [.ref (D.2.1 a0), .int a1] s (jx_Qv D jx_LX post) := by
  refine jx_ofJ (by decide) (Nat.le_of_ble_eq_true rfl) (fun X hl hX => ?_)
  subst hl
  replace hX : jx_K D jx_LX X cX1_addWeather RX1 3 none (jx_r 1 21) (jx_Qv D jx_LX post) := hX
  show jx_J D jx_LX X 0 [(0, .ref (D.2.1 a0)), (1, .int a1)] [] s
  unfold wX1_addWeather at h
  refine jx_aload_n 1 hX 0 rfl rfl dX1_addWeather_0 rfl ?_
  obtain ⟨hc1, h⟩ := h
  refine jx_getI 4 hX jf_X1_43 rfl hc1 dX1_addWeather_1 rfl (jx_iconst 5 hX 0 (by decide) dX1_addWeather_4 rfl (jx_mmax 8 hX jm_X1_49 (by decide) (Nat.le_of_ble_eq_true rfl) dX1_addWeather_5 rfl ?_))
  refine jx_topi (fun x2 hx2 => ?_)
  have h := h x2 hx2
  refine jx_istore_n 9 hX [(2, .int x2), (0, .ref (D.2.1 a0)), (1, .int a1)] rfl (by decide) rfl dX1_addWeather_8 rfl (jx_iload_n 10 hX 0 rfl rfl dX1_addWeather_9 rfl (jx_iconst 11 hX 3 (by decide) dX1_addWeather_10 rfl ?_))
  refine jx_icmp_ge 14 28 hX dX1_addWeather_11 rfl (by decide) (fun hb3 => ?_) (fun hb3 => ?_)
  · have h := h.1 hb3
    exact jx_vret hX dX1_addWeather_28 h
  · have h := h.2 hb3
    refine jx_aload_n 15 hX 1 rfl rfl dX1_addWeather_14 rfl (jx_getR 18 hX jf_X1_9 rfl hc1 dX1_addWeather_15 rfl (jx_iload_n 19 hX 0 rfl rfl dX1_addWeather_18 rfl (jx_iload_n 20 hX 2 rfl rfl dX1_addWeather_19 rfl ?_)))
    obtain ⟨hc4, h⟩ := h
    refine jx_iastore 21 hX hc4 dX1_addWeather_20 rfl ?_
    refine jx_namu (fun s5 hs5 => ?_)
    have h := h s5 hs5
    refine jx_aload_n 22 hX 1 rfl rfl dX1_addWeather_21 rfl (jx_iload_n 23 hX 0 rfl rfl dX1_addWeather_22 rfl (jx_iconst 24 hX 1 (by decide) dX1_addWeather_23 rfl (jx_iadd 25 hX dX1_addWeather_24 rfl (jx_putI 28 hX jp_X1_43 rfl hc1 dX1_addWeather_25 rfl ?_))))
    refine jx_namu (fun s6 hs6 => ?_)
    have h := h s6 hs6
    exact jx_vret hX dX1_addWeather_28 h
