/-! ===== the machine does what the predicates say (written by program) ===== -/
set_option maxHeartbeats 4000000 in
set_option maxRecDepth 100000 in
theorem mX3_active (l : Launch) (D : jx_Dt) (post : Int32 → jx_St → Prop) (a0 : Nat) (a1 : Int32) (s : jx_St) (h : wX3_active post a0 a1 s) : jx_Met l yX3_active cX3_active 2 (some .int) (jx_r 2 44) D jx_LX [.ref (D.2.1 a0), .int a1] s (jx_Qi D jx_LX post) := by
  refine jx_ofJ (by decide) (Nat.le_of_ble_eq_true rfl) (fun X hl hX => ?_)
  subst hl
  replace hX : jx_K D jx_LX X cX3_active RX3 2 (some .int) (jx_r 2 44) (jx_Qi D jx_LX post) := hX
  show jx_J D jx_LX X 0 [(0, .ref (D.2.1 a0)), (1, .int a1)] [] s
  unfold wX3_active at h
  refine jx_aload_n 1 hX 0 rfl rfl dX3_active_0 rfl ?_
  obtain ⟨hc1, h⟩ := h
  refine jx_getR 4 hX jf_X3_26 rfl hc1 dX3_active_1 rfl (jx_iload_n 5 hX 1 rfl rfl dX3_active_4 rfl ?_)
  obtain ⟨hc2, h⟩ := h
  refine jx_callVi 8 hX (mX0_covers _ D _ (s.2 a0 4) a1 s h) jv_X3_115 jn_0 hc2 ⟨rfl, rfl, by decide, by decide⟩ rfl rfl (Nat.le_of_ble_eq_true rfl) dX3_active_5 rfl (fun r3 s4 h => ?_)
  obtain ⟨hz5, h⟩ := h
  have h := h hz5
  refine jx_if_eq 11 22 hX dX3_active_8 rfl (by decide) (fun hb6 => ?_) (fun hb6 => ?_)
  · have h := h.1 hb6
    refine jx_iconst 23 hX (-1) (by decide) dX3_active_22 rfl ?_
    exact jx_iret hX dX3_active_23 h
  · have h := h.2 hb6
    refine jx_aload_n 12 hX 0 rfl rfl dX3_active_11 rfl (jx_getR 15 hX jf_X3_26 rfl hc1 dX3_active_12 rfl (jx_iload_n 16 hX 1 rfl rfl dX3_active_15 rfl ?_))
    obtain ⟨hc7, h⟩ := h
    refine jx_callVi 19 hX (mX0_countActive _ D _ (s4.2 a0 4) a1 s4 h) jv_X3_122 jn_0 hc7 ⟨rfl, rfl, by decide, by decide⟩ rfl rfl (Nat.le_of_ble_eq_true rfl) dX3_active_16 rfl (fun r8 s9 h => ?_)
    refine jx_goto 23 hX dX3_active_19 (by decide) ?_
    exact jx_iret hX dX3_active_23 h
set_option maxHeartbeats 4000000 in
set_option maxRecDepth 100000 in
theorem mX3_activeOne (l : Launch) (D : jx_Dt) (post : Int32 → jx_St → Prop) (a0 : Nat) (a1 : Int32) (a2 : Int32) (s : jx_St) (h : wX3_activeOne post a0 a1 a2 s) : jx_Met l yX3_activeOne cX3_activeOne 3 (some .int) (jx_r 2 45) D jx_LX [.ref (D.2.1 a0), .int a1, .int a2] s (jx_Qi D jx_LX post) := by
  refine jx_ofJ (by decide) (Nat.le_of_ble_eq_true rfl) (fun X hl hX => ?_)
  subst hl
  replace hX : jx_K D jx_LX X cX3_activeOne RX3 3 (some .int) (jx_r 2 45) (jx_Qi D jx_LX post) := hX
  show jx_J D jx_LX X 0 [(0, .ref (D.2.1 a0)), (1, .int a1), (2, .int a2)] [] s
  unfold wX3_activeOne at h
  refine jx_aload_n 1 hX 0 rfl rfl dX3_activeOne_0 rfl ?_
  obtain ⟨hc1, h⟩ := h
  refine jx_getR 4 hX jf_X3_26 rfl hc1 dX3_activeOne_1 rfl (jx_iload_n 5 hX 1 rfl rfl dX3_activeOne_4 rfl ?_)
  obtain ⟨hc2, h⟩ := h
  refine jx_callVi 8 hX (mX0_covers _ D _ (s.2 a0 4) a1 s h) jv_X3_115 jn_0 hc2 ⟨rfl, rfl, by decide, by decide⟩ rfl rfl (Nat.le_of_ble_eq_true rfl) dX3_activeOne_5 rfl (fun r3 s4 h => ?_)
  obtain ⟨hz5, h⟩ := h
  have h := h hz5
  refine jx_if_eq 11 23 hX dX3_activeOne_8 rfl (by decide) (fun hb6 => ?_) (fun hb6 => ?_)
  · have h := h.1 hb6
    refine jx_iconst 24 hX (-1) (by decide) dX3_activeOne_23 rfl ?_
    exact jx_iret hX dX3_activeOne_24 h
  · have h := h.2 hb6
    refine jx_aload_n 12 hX 0 rfl rfl dX3_activeOne_11 rfl (jx_getR 15 hX jf_X3_26 rfl hc1 dX3_activeOne_12 rfl (jx_iload_n 16 hX 1 rfl rfl dX3_activeOne_15 rfl (jx_iload_n 17 hX 2 rfl rfl dX3_activeOne_16 rfl ?_)))
    obtain ⟨hc7, h⟩ := h
    refine jx_callVi 20 hX (mX0_findActive _ D _ (s4.2 a0 4) a1 a2 s4 h) jv_X3_126 jn_0 hc7 ⟨rfl, rfl, by decide, by decide⟩ rfl rfl (Nat.le_of_ble_eq_true rfl) dX3_activeOne_17 rfl (fun r8 s9 h => ?_)
    refine jx_goto 24 hX dX3_activeOne_20 (by decide) ?_
    exact jx_iret hX dX3_activeOne_24 h
set_option maxHeartbeats 4000000 in
set_option maxRecDepth 100000 in
theorem mX3_byteOf (l : Launch) (D : jx_Dt) (post : Int32 → jx_St → Prop) (a0 : Int64) (a2 : Int32) (s : jx_St) (h : wX3_byteOf post a0 a2 s) : jx_Met l yX3_byteOf cX3_byteOf 3 (some .int) (jx_r 0 0) D jx_LX [.long a0, .int a2] s (jx_Qi D jx_LX post) := by
  refine jx_ofJ (by decide) (Nat.le_of_ble_eq_true rfl) (fun X hl hX => ?_)
  subst hl
  replace hX : jx_K D jx_LX X cX3_byteOf RX3 3 (some .int) (jx_r 0 0) (jx_Qi D jx_LX post) := hX
  show jx_J D jx_LX X 0 [(0, .long a0), (2, .int a2)] [] s
  unfold wX3_byteOf at h
  refine jx_lload_n 1 hX 0 rfl rfl dX3_byteOf_0 rfl (jx_bipush 3 hX 8 (by decide) dX3_byteOf_1 rfl (jx_iload_n 4 hX 1 rfl rfl dX3_byteOf_3 rfl (jx_imul 5 hX dX3_byteOf_4 rfl (jx_lshr 6 hX dX3_byteOf_5 rfl (jx_l2i 7 hX dX3_byteOf_6 rfl ?_)))))
  refine jx_sipush 10 hX 255 (by decide) dX3_byteOf_7 rfl (jx_iand 11 hX dX3_byteOf_10 rfl ?_)
  exact jx_iret hX dX3_byteOf_11 h
set_option maxHeartbeats 4000000 in
set_option maxRecDepth 100000 in
theorem mX3_ceiling (l : Launch) (D : jx_Dt) (post : Int32 → jx_St → Prop) (a0 : Nat) (a1 : Int32) (a2 : Int32) (s : jx_St) (h : wX3_ceiling post a0 a1 a2 s) : jx_Met l yX3_ceiling cX3_ceiling 3 (some .int) (jx_r 3 69) D jx_LX [.ref (D.2.1 a0), .int a1, .int a2] s (jx_Qi D jx_LX post) := by
  refine jx_ofJ (by decide) (Nat.le_of_ble_eq_true rfl) (fun X hl hX => ?_)
  subst hl
  replace hX : jx_K D jx_LX X cX3_ceiling RX3 3 (some .int) (jx_r 3 69) (jx_Qi D jx_LX post) := hX
  show jx_J D jx_LX X 0 [(0, .ref (D.2.1 a0)), (1, .int a1), (2, .int a2)] [] s
  unfold wX3_ceiling at h
  refine jx_aload_n 1 hX 0 rfl rfl dX3_ceiling_0 rfl ?_
  obtain ⟨hc1, h⟩ := h
  refine jx_getR 4 hX jf_X3_26 rfl hc1 dX3_ceiling_1 rfl (jx_iload_n 5 hX 1 rfl rfl dX3_ceiling_4 rfl ?_)
  obtain ⟨hc2, h⟩ := h
  refine jx_callVi 8 hX (mX0_covers _ D _ (s.2 a0 4) a1 s h) jv_X3_115 jn_0 hc2 ⟨rfl, rfl, by decide, by decide⟩ rfl rfl (Nat.le_of_ble_eq_true rfl) dX3_ceiling_5 rfl (fun r3 s4 h => ?_)
  obtain ⟨hz5, h⟩ := h
  have h := h hz5
  refine jx_if_eq 11 20 hX dX3_ceiling_8 rfl (by decide) (fun hb6 => ?_) (fun hb6 => ?_)
  · have h := h.1 hb6
    refine jx_iconst 21 hX (-1) (by decide) dX3_ceiling_20 rfl ?_
    exact jx_iret hX dX3_ceiling_21 h
  · have h := h.2 hb6
    refine jx_iload_n 12 hX 2 rfl rfl dX3_ceiling_11 rfl ?_
    refine jx_if_lt 15 20 hX dX3_ceiling_12 rfl (by decide) (fun hb7 => ?_) (fun hb7 => ?_)
    · have h := h.1 hb7
      refine jx_iconst 21 hX (-1) (by decide) dX3_ceiling_20 rfl ?_
      exact jx_iret hX dX3_ceiling_21 h
    · have h := h.2 hb7
      refine jx_iload_n 16 hX 2 rfl rfl dX3_ceiling_15 rfl (jx_iconst 17 hX 1 (by decide) dX3_ceiling_16 rfl ?_)
      refine jx_icmp_le 20 22 hX dX3_ceiling_17 rfl (by decide) (fun hb8 => ?_) (fun hb8 => ?_)
      · have h := h.1 hb8
        refine jx_aload_n 23 hX 0 rfl rfl dX3_ceiling_22 rfl (jx_getR 26 hX jf_X3_26 rfl hc1 dX3_ceiling_23 rfl (jx_iload_n 27 hX 1 rfl rfl dX3_ceiling_26 rfl (jx_iload_n 28 hX 2 rfl rfl dX3_ceiling_27 rfl (jx_iconst 29 hX 1 (by decide) dX3_ceiling_28 rfl ?_))))
        refine jx_icmp_ne 32 36 hX dX3_ceiling_29 rfl (by decide) (fun hb9 => ?_) (fun hb9 => ?_)
        · have h := h.1 hb9
          refine jx_iconst 37 hX 0 (by decide) dX3_ceiling_36 rfl ?_
          obtain ⟨hc10, h⟩ := h
          refine jx_callVi 40 hX (mX0_lowestCeiling _ D _ (s4.2 a0 4) a1 0 s4 h) jv_X3_132 jn_0 hc10 ⟨rfl, rfl, by decide, by decide⟩ rfl rfl (Nat.le_of_ble_eq_true rfl) dX3_ceiling_37 rfl (fun r11 s12 h => ?_)
          exact jx_iret hX dX3_ceiling_40 h
        · have h := h.2 hb9
          refine jx_iconst 33 hX 1 (by decide) dX3_ceiling_32 rfl (jx_goto 37 hX dX3_ceiling_33 (by decide) ?_)
          obtain ⟨hc13, h⟩ := h
          refine jx_callVi 40 hX (mX0_lowestCeiling _ D _ (s4.2 a0 4) a1 1 s4 h) jv_X3_132 jn_0 hc13 ⟨rfl, rfl, by decide, by decide⟩ rfl rfl (Nat.le_of_ble_eq_true rfl) dX3_ceiling_37 rfl (fun r14 s15 h => ?_)
          exact jx_iret hX dX3_ceiling_40 h
      · have h := h.2 hb8
        refine jx_iconst 21 hX (-1) (by decide) dX3_ceiling_20 rfl ?_
        exact jx_iret hX dX3_ceiling_21 h
set_option maxHeartbeats 4000000 in
set_option maxRecDepth 100000 in
theorem mX3_character (l : Launch) (D : jx_Dt) (post : Int32 → jx_St → Prop) (a0 : Nat) (a1 : Int32) (s : jx_St) (h : wX3_character post a0 a1 s) : jx_Met l yX3_character cX3_character 2 (some .int) (jx_r 0 0) D jx_LX [.ref (D.2.1 a0), .int a1] s (jx_Qi D jx_LX post) := by
  refine jx_ofJ (by decide) (Nat.le_of_ble_eq_true rfl) (fun X hl hX => ?_)
  subst hl
  replace hX : jx_K D jx_LX X cX3_character RX3 2 (some .int) (jx_r 0 0) (jx_Qi D jx_LX post) := hX
  show jx_J D jx_LX X 0 [(0, .ref (D.2.1 a0)), (1, .int a1)] [] s
  unfold wX3_character at h
  refine jx_iload_n 1 hX 1 rfl rfl dX3_character_0 rfl ?_
  refine jx_if_lt 4 21 hX dX3_character_1 rfl (by decide) (fun hb1 => ?_) (fun hb1 => ?_)
  · have h := h.1 hb1
    refine jx_iconst 22 hX (-1) (by decide) dX3_character_21 rfl ?_
    exact jx_iret hX dX3_character_22 h
  · have h := h.2 hb1
    refine jx_iload_n 5 hX 1 rfl rfl dX3_character_4 rfl (jx_aload_n 6 hX 0 rfl rfl dX3_character_5 rfl ?_)
    obtain ⟨hc2, h⟩ := h
    refine jx_getI 9 hX jf_X3_20 rfl hc2 dX3_character_6 rfl ?_
    refine jx_icmp_ge 12 21 hX dX3_character_9 rfl (by decide) (fun hb3 => ?_) (fun hb3 => ?_)
    · have h := h.1 hb3
      refine jx_iconst 22 hX (-1) (by decide) dX3_character_21 rfl ?_
      exact jx_iret hX dX3_character_22 h
    · have h := h.2 hb3
      refine jx_aload_n 13 hX 0 rfl rfl dX3_character_12 rfl (jx_getR 16 hX jf_X3_17 rfl hc2 dX3_character_13 rfl (jx_iload_n 17 hX 1 rfl rfl dX3_character_16 rfl ?_))
      obtain ⟨hc4, h⟩ := h
      refine jx_caload 18 hX hc4 dX3_character_17 rfl (jx_goto 22 hX dX3_character_18 (by decide) ?_)
      exact jx_iret hX dX3_character_22 h
set_option maxHeartbeats 4000000 in
set_option maxRecDepth 100000 in
theorem mX3_check (l : Launch) (D : jx_Dt) (post : Int32 → jx_St → Prop) (a0 : Nat) (s : jx_St) (h : wX3_check post a0 s) : jx_Met l yX3_check cX3_check 2 (some .int) (jx_r 11 282) D jx_LX [.ref (D.2.1 a0)] s (jx_Qi D jx_LX post) := by
  refine jx_ofJ (by decide) (Nat.le_of_ble_eq_true rfl) (fun X hl hX => ?_)
  subst hl
  replace hX : jx_K D jx_LX X cX3_check RX3 2 (some .int) (jx_r 11 282) (jx_Qi D jx_LX post) := hX
  show jx_J D jx_LX X 0 [(0, .ref (D.2.1 a0))] [] s
  unfold wX3_check at h
  refine jx_aload_n 1 hX 0 rfl rfl dX3_check_0 rfl ?_
  obtain ⟨hc1, h⟩ := h
  refine jx_getR 4 hX jf_X3_26 rfl hc1 dX3_check_1 rfl ?_
  obtain ⟨hc2, h⟩ := h
  refine jx_getI 7 hX jf_X3_49 rfl hc2 dX3_check_4 rfl ?_
  refine jx_if_ne 10 12 hX dX3_check_7 rfl (by decide) (fun hb3 => ?_) (fun hb3 => ?_)
  · have h := h.1 hb3
    refine jx_aload_n 13 hX 0 rfl rfl dX3_check_12 rfl (jx_getR 16 hX jf_X3_33 rfl hc1 dX3_check_13 rfl (jx_aload_n 17 hX 0 rfl rfl dX3_check_16 rfl (jx_getR 20 hX jf_X3_26 rfl hc1 dX3_check_17 rfl (jx_getR 23 hX jf_X3_142 rfl hc2 dX3_check_20 rfl (jx_aload_n 24 hX 0 rfl rfl dX3_check_23 rfl ?_)))))
    refine jx_getR 27 hX jf_X3_26 rfl hc1 dX3_check_24 rfl (jx_getI 30 hX jf_X3_139 rfl hc2 dX3_check_27 rfl (jx_aload_n 31 hX 0 rfl rfl dX3_check_30 rfl (jx_getR 34 hX jf_X3_26 rfl hc1 dX3_check_31 rfl (jx_getI 37 hX jf_X3_145 rfl hc2 dX3_check_34 rfl ?_))))
    obtain ⟨hc4, h⟩ := h
    refine jx_callVi 40 hX (mX2_readText _ D _ (s.2 a0 5) (s.2 (s.2 a0 4) 9) (s.1 (s.2 a0 4) 10) (s.1 (s.2 a0 4) 1) s h) jv_X3_41 jn_2 hc4 ⟨rfl, rfl, by decide, by decide⟩ rfl rfl (Nat.le_of_ble_eq_true rfl) dX3_check_37 rfl (fun r5 s6 h => ?_)
    refine jx_istore_n 41 hX [(1, .int r5), (0, .ref (D.2.1 a0))] rfl (by decide) rfl dX3_check_40 rfl (jx_iload_n 42 hX 0 rfl rfl dX3_check_41 rfl ?_)
    refine jx_if_ne 45 76 hX dX3_check_42 rfl (by decide) (fun hb7 => ?_) (fun hb7 => ?_)
    · have h := h.1 hb7
      refine jx_iconst 77 hX 0 (by decide) dX3_check_76 rfl ?_
      exact jx_iret hX dX3_check_77 h
    · have h := h.2 hb7
      refine jx_aload_n 46 hX 1 rfl rfl dX3_check_45 rfl (jx_getR 49 hX jf_X3_26 rfl hc1 dX3_check_46 rfl (jx_aload_n 50 hX 1 rfl rfl dX3_check_49 rfl (jx_getR 53 hX jf_X3_33 rfl hc1 dX3_check_50 rfl ?_)))
      obtain ⟨hc8, h⟩ := h
      refine jx_getR 56 hX jf_X3_148 rfl hc8 dX3_check_53 rfl ?_
      obtain ⟨hc9, h⟩ := h
      refine jx_callVi 59 hX (mX0_sameAs _ D _ (s6.2 a0 4) (s6.2 (s6.2 a0 5) 7) s6 h) jv_X3_151 jn_0 hc9 ⟨rfl, rfl, by decide, by decide⟩ rfl rfl (Nat.le_of_ble_eq_true rfl) dX3_check_56 rfl (fun r10 s11 h => ?_)
      obtain ⟨hz12, h⟩ := h
      have h := h hz12
      refine jx_if_eq 62 76 hX dX3_check_59 rfl (by decide) (fun hb13 => ?_) (fun hb13 => ?_)
      · have h := h.1 hb13
        refine jx_iconst 77 hX 0 (by decide) dX3_check_76 rfl ?_
        exact jx_iret hX dX3_check_77 h
      · have h := h.2 hb13
        refine jx_aload_n 63 hX 1 rfl rfl dX3_check_62 rfl (jx_getR 66 hX jf_X3_26 rfl hc1 dX3_check_63 rfl ?_)
        obtain ⟨hc14, h⟩ := h
        refine jx_callVi 69 hX (mX0_eachMinuteTells _ D _ (s11.2 a0 4) s11 h) jv_X3_155 jn_0 hc14 ⟨rfl, rfl, by decide, by decide⟩ rfl rfl (Nat.le_of_ble_eq_true rfl) dX3_check_66 rfl (fun r15 s16 h => ?_)
        obtain ⟨hz17, h⟩ := h
        have h := h hz17
        refine jx_if_eq 72 76 hX dX3_check_69 rfl (by decide) (fun hb18 => ?_) (fun hb18 => ?_)
        · have h := h.1 hb18
          refine jx_iconst 77 hX 0 (by decide) dX3_check_76 rfl ?_
          exact jx_iret hX dX3_check_77 h
        · have h := h.2 hb18
          refine jx_iconst 73 hX 1 (by decide) dX3_check_72 rfl (jx_goto 77 hX dX3_check_73 (by decide) ?_)
          exact jx_iret hX dX3_check_77 h
  · have h := h.2 hb3
    refine jx_iconst 11 hX 1 (by decide) dX3_check_10 rfl ?_
    exact jx_iret hX dX3_check_11 h
set_option maxHeartbeats 4000000 in
set_option maxRecDepth 100000 in
theorem mX3_cloud (l : Launch) (D : jx_Dt) (post : Int32 → jx_St → Prop) (a0 : Nat) (a1 : Int32) (a2 : Int32) (s : jx_St) (h : wX3_cloud post a0 a1 a2 s) : jx_Met l yX3_cloud cX3_cloud 3 (some .int) (jx_r 1 21) D jx_LX [.ref (D.2.1 a0), .int a1, .int a2] s (jx_Qi D jx_LX post) := by
  refine jx_ofJ (by decide) (Nat.le_of_ble_eq_true rfl) (fun X hl hX => ?_)
  subst hl
  replace hX : jx_K D jx_LX X cX3_cloud RX3 3 (some .int) (jx_r 1 21) (jx_Qi D jx_LX post) := hX
  show jx_J D jx_LX X 0 [(0, .ref (D.2.1 a0)), (1, .int a1), (2, .int a2)] [] s
  unfold wX3_cloud at h
  refine jx_aload_n 1 hX 0 rfl rfl dX3_cloud_0 rfl ?_
  obtain ⟨hc1, h⟩ := h
  refine jx_getR 4 hX jf_X3_26 rfl hc1 dX3_cloud_1 rfl (jx_iload_n 5 hX 1 rfl rfl dX3_cloud_4 rfl ?_)
  obtain ⟨hc2, h⟩ := h
  refine jx_callVi 8 hX (mX0_hasGroup _ D _ (s.2 a0 4) a1 s h) jv_X3_71 jn_0 hc2 ⟨rfl, rfl, by decide, by decide⟩ rfl rfl (Nat.le_of_ble_eq_true rfl) dX3_cloud_5 rfl (fun r3 s4 h => ?_)
  obtain ⟨hz5, h⟩ := h
  have h := h hz5
  refine jx_if_eq 11 31 hX dX3_cloud_8 rfl (by decide) (fun hb6 => ?_) (fun hb6 => ?_)
  · have h := h.1 hb6
    refine jx_iconst 32 hX (-1) (by decide) dX3_cloud_31 rfl ?_
    exact jx_iret hX dX3_cloud_32 h
  · have h := h.2 hb6
    refine jx_iload_n 12 hX 2 rfl rfl dX3_cloud_11 rfl ?_
    refine jx_if_lt 15 31 hX dX3_cloud_12 rfl (by decide) (fun hb7 => ?_) (fun hb7 => ?_)
    · have h := h.1 hb7
      refine jx_iconst 32 hX (-1) (by decide) dX3_cloud_31 rfl ?_
      exact jx_iret hX dX3_cloud_32 h
    · have h := h.2 hb7
      refine jx_iload_n 16 hX 2 rfl rfl dX3_cloud_15 rfl (jx_aload_n 17 hX 0 rfl rfl dX3_cloud_16 rfl (jx_getR 20 hX jf_X3_26 rfl hc1 dX3_cloud_17 rfl ?_))
      obtain ⟨hc8, h⟩ := h
      refine jx_getR 23 hX jf_X3_75 rfl hc8 dX3_cloud_20 rfl (jx_iload_n 24 hX 1 rfl rfl dX3_cloud_23 rfl ?_)
      obtain ⟨hc9, h⟩ := h
      refine jx_aaload 25 hX hc9 dX3_cloud_24 rfl ?_
      obtain ⟨hc10, h⟩ := h
      refine jx_getI 28 hX jf_X3_106 rfl hc10 dX3_cloud_25 rfl ?_
      refine jx_icmp_lt 31 33 hX dX3_cloud_28 rfl (by decide) (fun hb11 => ?_) (fun hb11 => ?_)
      · have h := h.1 hb11
        refine jx_aload_n 34 hX 0 rfl rfl dX3_cloud_33 rfl (jx_getR 37 hX jf_X3_26 rfl hc1 dX3_cloud_34 rfl (jx_getR 40 hX jf_X3_75 rfl hc8 dX3_cloud_37 rfl (jx_iload_n 41 hX 1 rfl rfl dX3_cloud_40 rfl (jx_aaload 42 hX hc9 dX3_cloud_41 rfl (jx_getR 45 hX jf_X3_112 rfl hc10 dX3_cloud_42 rfl ?_)))))
        refine jx_iload_n 46 hX 2 rfl rfl dX3_cloud_45 rfl ?_
        obtain ⟨hc12, h⟩ := h
        refine jx_iaload 47 hX hc12 dX3_cloud_46 rfl ?_
        exact jx_iret hX dX3_cloud_47 h
      · have h := h.2 hb11
        refine jx_iconst 32 hX (-1) (by decide) dX3_cloud_31 rfl ?_
        exact jx_iret hX dX3_cloud_32 h
set_option maxHeartbeats 4000000 in
set_option maxRecDepth 100000 in
theorem mX3_from (l : Launch) (D : jx_Dt) (post : Int32 → jx_St → Prop) (a0 : Nat) (a1 : Int32) (a2 : Int32) (s : jx_St) (h : wX3_from post a0 a1 a2 s) : jx_Met l yX3_from cX3_from 3 (some .int) (jx_r 2 45) D jx_LX [.ref (D.2.1 a0), .int a1, .int a2] s (jx_Qi D jx_LX post) := by
  refine jx_ofJ (by decide) (Nat.le_of_ble_eq_true rfl) (fun X hl hX => ?_)
  subst hl
  replace hX : jx_K D jx_LX X cX3_from RX3 3 (some .int) (jx_r 2 45) (jx_Qi D jx_LX post) := hX
  show jx_J D jx_LX X 0 [(0, .ref (D.2.1 a0)), (1, .int a1), (2, .int a2)] [] s
  unfold wX3_from at h
  refine jx_aload_n 1 hX 0 rfl rfl dX3_from_0 rfl ?_
  obtain ⟨hc1, h⟩ := h
  refine jx_getR 4 hX jf_X3_26 rfl hc1 dX3_from_1 rfl (jx_iload_n 5 hX 1 rfl rfl dX3_from_4 rfl ?_)
  obtain ⟨hc2, h⟩ := h
  refine jx_callVi 8 hX (mX0_covers _ D _ (s.2 a0 4) a1 s h) jv_X3_115 jn_0 hc2 ⟨rfl, rfl, by decide, by decide⟩ rfl rfl (Nat.le_of_ble_eq_true rfl) dX3_from_5 rfl (fun r3 s4 h => ?_)
  obtain ⟨hz5, h⟩ := h
  have h := h hz5
  refine jx_if_eq 11 20 hX dX3_from_8 rfl (by decide) (fun hb6 => ?_) (fun hb6 => ?_)
  · have h := h.1 hb6
    refine jx_iconst 21 hX (-1) (by decide) dX3_from_20 rfl ?_
    exact jx_iret hX dX3_from_21 h
  · have h := h.2 hb6
    refine jx_iload_n 12 hX 2 rfl rfl dX3_from_11 rfl ?_
    refine jx_if_lt 15 20 hX dX3_from_12 rfl (by decide) (fun hb7 => ?_) (fun hb7 => ?_)
    · have h := h.1 hb7
      refine jx_iconst 21 hX (-1) (by decide) dX3_from_20 rfl ?_
      exact jx_iret hX dX3_from_21 h
    · have h := h.2 hb7
      refine jx_iload_n 16 hX 2 rfl rfl dX3_from_15 rfl (jx_iconst 17 hX 4 (by decide) dX3_from_16 rfl ?_)
      refine jx_icmp_lt 20 22 hX dX3_from_17 rfl (by decide) (fun hb8 => ?_) (fun hb8 => ?_)
      · have h := h.1 hb8
        refine jx_aload_n 23 hX 0 rfl rfl dX3_from_22 rfl (jx_getR 26 hX jf_X3_26 rfl hc1 dX3_from_23 rfl (jx_iload_n 27 hX 1 rfl rfl dX3_from_26 rfl (jx_iload_n 28 hX 2 rfl rfl dX3_from_27 rfl ?_)))
        obtain ⟨hc9, h⟩ := h
        refine jx_callVi 31 hX (mX0_teller _ D _ (s4.2 a0 4) a1 a2 s4 h) jv_X3_118 jn_0 hc9 ⟨rfl, rfl, by decide, by decide⟩ rfl rfl (Nat.le_of_ble_eq_true rfl) dX3_from_28 rfl (fun r10 s11 h => ?_)
        exact jx_iret hX dX3_from_31 h
      · have h := h.2 hb8
        refine jx_iconst 21 hX (-1) (by decide) dX3_from_20 rfl ?_
        exact jx_iret hX dX3_from_21 h
set_option maxHeartbeats 4000000 in
set_option maxRecDepth 100000 in
theorem mX3_group (l : Launch) (D : jx_Dt) (post : Int32 → jx_St → Prop) (a0 : Nat) (a1 : Int32) (a2 : Int32) (s : jx_St) (h : wX3_group post a0 a1 a2 s) : jx_Met l yX3_group cX3_group 4 (some .int) (jx_r 1 21) D jx_LX [.ref (D.2.1 a0), .int a1, .int a2] s (jx_Qi D jx_LX post) := by
  refine jx_ofJ (by decide) (Nat.le_of_ble_eq_true rfl) (fun X hl hX => ?_)
  subst hl
  replace hX : jx_K D jx_LX X cX3_group RX3 4 (some .int) (jx_r 1 21) (jx_Qi D jx_LX post) := hX
  show jx_J D jx_LX X 0 [(0, .ref (D.2.1 a0)), (1, .int a1), (2, .int a2)] [] s
  unfold wX3_group at h
  refine jx_aload_n 1 hX 0 rfl rfl dX3_group_0 rfl ?_
  obtain ⟨hc1, h⟩ := h
  refine jx_getR 4 hX jf_X3_26 rfl hc1 dX3_group_1 rfl (jx_iload_n 5 hX 1 rfl rfl dX3_group_4 rfl ?_)
  obtain ⟨hc2, h⟩ := h
  refine jx_callVi 8 hX (mX0_hasGroup _ D _ (s.2 a0 4) a1 s h) jv_X3_71 jn_0 hc2 ⟨rfl, rfl, by decide, by decide⟩ rfl rfl (Nat.le_of_ble_eq_true rfl) dX3_group_5 rfl (fun r3 s4 h => ?_)
  obtain ⟨hz5, h⟩ := h
  have h := h hz5
  refine jx_if_ne 11 13 hX dX3_group_8 rfl (by decide) (fun hb6 => ?_) (fun hb6 => ?_)
  · have h := h.1 hb6
    refine jx_aload_n 14 hX 0 rfl rfl dX3_group_13 rfl (jx_getR 17 hX jf_X3_26 rfl hc1 dX3_group_14 rfl ?_)
    obtain ⟨hc7, h⟩ := h
    refine jx_getR 20 hX jf_X3_75 rfl hc7 dX3_group_17 rfl (jx_iload_n 21 hX 1 rfl rfl dX3_group_20 rfl ?_)
    obtain ⟨hc8, h⟩ := h
    refine jx_aaload 22 hX hc8 dX3_group_21 rfl ?_
    refine jx_topc (fun x9 hx9 => ?_)
    have h := h x9 hx9
    refine jx_astore_n 23 hX [(3, .ref (D.2.1 x9)), (0, .ref (D.2.1 a0)), (1, .int a1), (2, .int a2)] rfl (by decide) rfl dX3_group_22 rfl (jx_iload_n 24 hX 3 rfl rfl dX3_group_23 rfl ?_)
    by_cases hb10 : a2 = 0
    · have h := h.1 hb10
      refine jx_tabIn 80 (off := 56) hX dX3_group_24 (by rw [hb10]; decide) (by rw [hb10]; decide) (by rw [hb10]; decide) (by decide) ?_
      refine jx_aload_n 81 hX 0 rfl rfl dX3_group_80 rfl ?_
      obtain ⟨hc11, h⟩ := h
      refine jx_getI 84 hX jf_X3_79 rfl hc11 dX3_group_81 rfl ?_
      exact jx_iret hX dX3_group_84 h
    · have h := h.2
      by_cases hb12 : a2 = 1
      · have h := h.1 hb12
        refine jx_tabIn 85 (off := 61) hX dX3_group_24 (by rw [hb12]; decide) (by rw [hb12]; decide) (by rw [hb12]; decide) (by decide) ?_
        refine jx_aload_n 86 hX 0 rfl rfl dX3_group_85 rfl ?_
        obtain ⟨hc13, h⟩ := h
        refine jx_getI 89 hX jf_X3_82 rfl hc13 dX3_group_86 rfl ?_
        exact jx_iret hX dX3_group_89 h
      · have h := h.2
        by_cases hb14 : a2 = 2
        · have h := h.1 hb14
          refine jx_tabIn 90 (off := 66) hX dX3_group_24 (by rw [hb14]; decide) (by rw [hb14]; decide) (by rw [hb14]; decide) (by decide) ?_
          refine jx_aload_n 91 hX 0 rfl rfl dX3_group_90 rfl ?_
          obtain ⟨hc15, h⟩ := h
          refine jx_getI 94 hX jf_X3_85 rfl hc15 dX3_group_91 rfl ?_
          exact jx_iret hX dX3_group_94 h
        · have h := h.2
          by_cases hb16 : a2 = 3
          · have h := h.1 hb16
            refine jx_tabIn 95 (off := 71) hX dX3_group_24 (by rw [hb16]; decide) (by rw [hb16]; decide) (by rw [hb16]; decide) (by decide) ?_
            refine jx_aload_n 96 hX 0 rfl rfl dX3_group_95 rfl ?_
            obtain ⟨hc17, h⟩ := h
            refine jx_getI 99 hX jf_X3_88 rfl hc17 dX3_group_96 rfl ?_
            exact jx_iret hX dX3_group_99 h
          · have h := h.2
            by_cases hb18 : a2 = 4
            · have h := h.1 hb18
              refine jx_tabIn 100 (off := 76) hX dX3_group_24 (by rw [hb18]; decide) (by rw [hb18]; decide) (by rw [hb18]; decide) (by decide) ?_
              refine jx_aload_n 101 hX 0 rfl rfl dX3_group_100 rfl ?_
              obtain ⟨hc19, h⟩ := h
              refine jx_getI 104 hX jf_X3_91 rfl hc19 dX3_group_101 rfl ?_
              exact jx_iret hX dX3_group_104 h
            · have h := h.2
              by_cases hb20 : a2 = 5
              · have h := h.1 hb20
                refine jx_tabIn 105 (off := 81) hX dX3_group_24 (by rw [hb20]; decide) (by rw [hb20]; decide) (by rw [hb20]; decide) (by decide) ?_
                refine jx_aload_n 106 hX 0 rfl rfl dX3_group_105 rfl ?_
                obtain ⟨hc21, h⟩ := h
                refine jx_getI 109 hX jf_X3_94 rfl hc21 dX3_group_106 rfl ?_
                exact jx_iret hX dX3_group_109 h
              · have h := h.2
                by_cases hb22 : a2 = 6
                · have h := h.1 hb22
                  refine jx_tabIn 110 (off := 86) hX dX3_group_24 (by rw [hb22]; decide) (by rw [hb22]; decide) (by rw [hb22]; decide) (by decide) ?_
                  refine jx_aload_n 111 hX 0 rfl rfl dX3_group_110 rfl ?_
                  obtain ⟨hc23, h⟩ := h
                  refine jx_getI 114 hX jf_X3_97 rfl hc23 dX3_group_111 rfl ?_
                  exact jx_iret hX dX3_group_114 h
                · have h := h.2
                  by_cases hb24 : a2 = 7
                  · have h := h.1 hb24
                    refine jx_tabIn 115 (off := 91) hX dX3_group_24 (by rw [hb24]; decide) (by rw [hb24]; decide) (by rw [hb24]; decide) (by decide) ?_
                    refine jx_aload_n 116 hX 0 rfl rfl dX3_group_115 rfl ?_
                    obtain ⟨hc25, h⟩ := h
                    refine jx_getI 119 hX jf_X3_100 rfl hc25 dX3_group_116 rfl ?_
                    exact jx_iret hX dX3_group_119 h
                  · have h := h.2
                    by_cases hb26 : a2 = 8
                    · have h := h.1 hb26
                      refine jx_tabIn 120 (off := 96) hX dX3_group_24 (by rw [hb26]; decide) (by rw [hb26]; decide) (by rw [hb26]; decide) (by decide) ?_
                      refine jx_aload_n 121 hX 0 rfl rfl dX3_group_120 rfl ?_
                      obtain ⟨hc27, h⟩ := h
                      refine jx_getI 124 hX jf_X3_103 rfl hc27 dX3_group_121 rfl ?_
                      exact jx_iret hX dX3_group_124 h
                    · have h := h.2
                      by_cases hb28 : a2 = 9
                      · have h := h.1 hb28
                        refine jx_tabIn 125 (off := 101) hX dX3_group_24 (by rw [hb28]; decide) (by rw [hb28]; decide) (by rw [hb28]; decide) (by decide) ?_
                        refine jx_aload_n 126 hX 0 rfl rfl dX3_group_125 rfl ?_
                        obtain ⟨hc29, h⟩ := h
                        refine jx_getI 129 hX jf_X3_106 rfl hc29 dX3_group_126 rfl ?_
                        exact jx_iret hX dX3_group_129 h
                      · have h := h.2
                        have h := h hb10 hb12 hb14 hb16 hb18 hb20 hb22 hb24 hb26 hb28
                        have ehb10 : (a2 : Int32).toInt ≠ 0 := fun z => hb10 (Int32.toInt_inj.mp (z.trans (by decide)))
                        have ehb12 : (a2 : Int32).toInt ≠ 1 := fun z => hb12 (Int32.toInt_inj.mp (z.trans (by decide)))
                        have ehb14 : (a2 : Int32).toInt ≠ 2 := fun z => hb14 (Int32.toInt_inj.mp (z.trans (by decide)))
                        have ehb16 : (a2 : Int32).toInt ≠ 3 := fun z => hb16 (Int32.toInt_inj.mp (z.trans (by decide)))
                        have ehb18 : (a2 : Int32).toInt ≠ 4 := fun z => hb18 (Int32.toInt_inj.mp (z.trans (by decide)))
                        have ehb20 : (a2 : Int32).toInt ≠ 5 := fun z => hb20 (Int32.toInt_inj.mp (z.trans (by decide)))
                        have ehb22 : (a2 : Int32).toInt ≠ 6 := fun z => hb22 (Int32.toInt_inj.mp (z.trans (by decide)))
                        have ehb24 : (a2 : Int32).toInt ≠ 7 := fun z => hb24 (Int32.toInt_inj.mp (z.trans (by decide)))
                        have ehb26 : (a2 : Int32).toInt ≠ 8 := fun z => hb26 (Int32.toInt_inj.mp (z.trans (by decide)))
                        have ehb28 : (a2 : Int32).toInt ≠ 9 := fun z => hb28 (Int32.toInt_inj.mp (z.trans (by decide)))
                        refine jx_tabOut 130 hX dX3_group_24 (by omega) (by decide) ?_
                        refine jx_iconst 131 hX (-1) (by decide) dX3_group_130 rfl ?_
                        exact jx_iret hX dX3_group_131 h
  · have h := h.2 hb6
    refine jx_iconst 12 hX (-1) (by decide) dX3_group_11 rfl ?_
    exact jx_iret hX dX3_group_12 h
set_option maxHeartbeats 4000000 in
set_option maxRecDepth 100000 in
theorem mX3_least (l : Launch) (D : jx_Dt) (post : Int32 → jx_St → Prop) (a0 : Nat) (a1 : Int32) (s : jx_St) (h : wX3_least post a0 a1 s) : jx_Met l yX3_least cX3_least 2 (some .int) (jx_r 3 68) D jx_LX [.ref (D.2.1 a0), .int a1] s (jx_Qi D jx_LX post) := by
  refine jx_ofJ (by decide) (Nat.le_of_ble_eq_true rfl) (fun X hl hX => ?_)
  subst hl
  replace hX : jx_K D jx_LX X cX3_least RX3 2 (some .int) (jx_r 3 68) (jx_Qi D jx_LX post) := hX
  show jx_J D jx_LX X 0 [(0, .ref (D.2.1 a0)), (1, .int a1)] [] s
  unfold wX3_least at h
  refine jx_aload_n 1 hX 0 rfl rfl dX3_least_0 rfl ?_
  obtain ⟨hc1, h⟩ := h
  refine jx_getR 4 hX jf_X3_26 rfl hc1 dX3_least_1 rfl (jx_iload_n 5 hX 1 rfl rfl dX3_least_4 rfl ?_)
  obtain ⟨hc2, h⟩ := h
  refine jx_callVi 8 hX (mX0_covers _ D _ (s.2 a0 4) a1 s h) jv_X3_115 jn_0 hc2 ⟨rfl, rfl, by decide, by decide⟩ rfl rfl (Nat.le_of_ble_eq_true rfl) dX3_least_5 rfl (fun r3 s4 h => ?_)
  obtain ⟨hz5, h⟩ := h
  have h := h hz5
  refine jx_if_eq 11 22 hX dX3_least_8 rfl (by decide) (fun hb6 => ?_) (fun hb6 => ?_)
  · have h := h.1 hb6
    refine jx_iconst 23 hX (-1) (by decide) dX3_least_22 rfl ?_
    exact jx_iret hX dX3_least_23 h
  · have h := h.2 hb6
    refine jx_aload_n 12 hX 0 rfl rfl dX3_least_11 rfl (jx_getR 15 hX jf_X3_26 rfl hc1 dX3_least_12 rfl (jx_iload_n 16 hX 1 rfl rfl dX3_least_15 rfl ?_))
    obtain ⟨hc7, h⟩ := h
    refine jx_callVi 19 hX (mX0_leastVisibility _ D _ (s4.2 a0 4) a1 s4 h) jv_X3_129 jn_0 hc7 ⟨rfl, rfl, by decide, by decide⟩ rfl rfl (Nat.le_of_ble_eq_true rfl) dX3_least_16 rfl (fun r8 s9 h => ?_)
    refine jx_goto 23 hX dX3_least_19 (by decide) ?_
    exact jx_iret hX dX3_least_23 h
set_option maxHeartbeats 4000000 in
set_option maxRecDepth 100000 in
theorem mX3_next (l : Launch) (D : jx_Dt) (post : Int32 → jx_St → Prop) (a0 : Nat) (a1 : Int32) (s : jx_St) (h : wX3_next post a0 a1 s) : jx_Met l yX3_next cX3_next 2 (some .int) (jx_r 5 114) D jx_LX [.ref (D.2.1 a0), .int a1] s (jx_Qi D jx_LX post) := by
  refine jx_ofJ (by decide) (Nat.le_of_ble_eq_true rfl) (fun X hl hX => ?_)
  subst hl
  replace hX : jx_K D jx_LX X cX3_next RX3 2 (some .int) (jx_r 5 114) (jx_Qi D jx_LX post) := hX
  show jx_J D jx_LX X 0 [(0, .ref (D.2.1 a0)), (1, .int a1)] [] s
  unfold wX3_next at h
  refine jx_aload_n 1 hX 0 rfl rfl dX3_next_0 rfl ?_
  obtain ⟨hc1, h⟩ := h
  refine jx_getR 4 hX jf_X3_26 rfl hc1 dX3_next_1 rfl (jx_iload_n 5 hX 1 rfl rfl dX3_next_4 rfl ?_)
  obtain ⟨hc2, h⟩ := h
  refine jx_callVi 8 hX (mX0_covers _ D _ (s.2 a0 4) a1 s h) jv_X3_115 jn_0 hc2 ⟨rfl, rfl, by decide, by decide⟩ rfl rfl (Nat.le_of_ble_eq_true rfl) dX3_next_5 rfl (fun r3 s4 h => ?_)
  obtain ⟨hz5, h⟩ := h
  have h := h hz5
  refine jx_if_eq 11 22 hX dX3_next_8 rfl (by decide) (fun hb6 => ?_) (fun hb6 => ?_)
  · have h := h.1 hb6
    refine jx_iconst 23 hX (-1) (by decide) dX3_next_22 rfl ?_
    exact jx_iret hX dX3_next_23 h
  · have h := h.2 hb6
    refine jx_aload_n 12 hX 0 rfl rfl dX3_next_11 rfl (jx_getR 15 hX jf_X3_26 rfl hc1 dX3_next_12 rfl (jx_iload_n 16 hX 1 rfl rfl dX3_next_15 rfl ?_))
    obtain ⟨hc7, h⟩ := h
    refine jx_callVi 19 hX (mX0_nextTurn _ D _ (s4.2 a0 4) a1 s4 h) jv_X3_136 jn_0 hc7 ⟨rfl, rfl, by decide, by decide⟩ rfl rfl (Nat.le_of_ble_eq_true rfl) dX3_next_16 rfl (fun r8 s9 h => ?_)
    refine jx_goto 23 hX dX3_next_19 (by decide) ?_
    exact jx_iret hX dX3_next_23 h
set_option maxHeartbeats 4000000 in
set_option maxRecDepth 100000 in
theorem mX3_print (l : Launch) (D : jx_Dt) (post : Int32 → jx_St → Prop) (a0 : Nat) (s : jx_St) (h : wX3_print post a0 s) : jx_Met l yX3_print cX3_print 2 (some .int) (jx_r 0 0) D jx_LX [.ref (D.2.1 a0)] s (jx_Qi D jx_LX post) := by
  refine jx_ofJ (by decide) (Nat.le_of_ble_eq_true rfl) (fun X hl hX => ?_)
  subst hl
  replace hX : jx_K D jx_LX X cX3_print RX3 2 (some .int) (jx_r 0 0) (jx_Qi D jx_LX post) := hX
  show jx_J D jx_LX X 0 [(0, .ref (D.2.1 a0))] [] s
  have l2 : ∀ (n : Nat) (a0 : Nat) (a1 : Int32) (s : jx_St), wX3_print_l2 post n a0 a1 s → jx_J D jx_LX X 2 [(0, .ref (D.2.1 a0)), (1, .int a1)] [] s := by
    intro n
    induction n with
    | zero => intro a0 a1 s h; exact h.elim
    | succ n ih =>
      intro a0 a1 s h
      rw [wX3_print_l2] at h
      refine jx_iload_n 3 hX 1 rfl rfl dX3_print_2 rfl (jx_aload_n 4 hX 0 rfl rfl dX3_print_3 rfl ?_)
      obtain ⟨hc1, h⟩ := h
      refine jx_getR 7 hX jf_X3_26 rfl hc1 dX3_print_4 rfl ?_
      obtain ⟨hc2, h⟩ := h
      refine jx_getI 10 hX jf_X3_139 rfl hc2 dX3_print_7 rfl ?_
      refine jx_icmp_ge 13 34 hX dX3_print_10 rfl (by decide) (fun hb3 => ?_) (fun hb3 => ?_)
      · have h := h.1 hb3
        refine jx_aload_n 35 hX 0 rfl rfl dX3_print_34 rfl (jx_aload_n 36 hX 0 rfl rfl dX3_print_35 rfl (jx_getR 39 hX jf_X3_26 rfl hc1 dX3_print_36 rfl (jx_getI 42 hX jf_X3_139 rfl hc2 dX3_print_39 rfl (jx_putI 45 hX jp_X3_20 rfl hc1 dX3_print_42 rfl ?_))))
        refine jx_namu (fun s4 hs4 => ?_)
        have h := h s4 hs4
        refine jx_aload_n 46 hX 0 rfl rfl dX3_print_45 rfl (jx_getI 49 hX jf_X3_20 rfl hc1 dX3_print_46 rfl ?_)
        exact jx_iret hX dX3_print_49 h
      · have h := h.2 hb3
        refine jx_aload_n 14 hX 0 rfl rfl dX3_print_13 rfl (jx_getR 17 hX jf_X3_17 rfl hc1 dX3_print_14 rfl (jx_iload_n 18 hX 1 rfl rfl dX3_print_17 rfl (jx_aload_n 19 hX 0 rfl rfl dX3_print_18 rfl (jx_getR 22 hX jf_X3_26 rfl hc1 dX3_print_19 rfl (jx_getR 25 hX jf_X3_142 rfl hc2 dX3_print_22 rfl ?_)))))
        refine jx_iload_n 26 hX 1 rfl rfl dX3_print_25 rfl ?_
        obtain ⟨hc5, h⟩ := h
        refine jx_caload 27 hX hc5 dX3_print_26 rfl ?_
        obtain ⟨hc6, h⟩ := h
        refine jx_castore 28 hX hc6 dX3_print_27 rfl ?_
        refine jx_namu (fun s7 hs7 => ?_)
        have h := h s7 hs7
        obtain ⟨x8, hx8⟩ : ∃ y : Int32, y = a1 + 1 := ⟨_, rfl⟩
        have h := h x8 hx8
        refine jx_iinc 31 hX 1 x8 [(1, .int x8), (0, .ref (D.2.1 a0))] rfl (by rw [hx8]; exact congrArg (fun z => a1 + z) (by decide)) (by decide) rfl dX3_print_28 rfl (jx_goto 2 hX dX3_print_31 (by decide) ?_)
        exact jx_sub [1, 0] rfl (ih a0 x8 s7 h)
  unfold wX3_print at h
  refine jx_iconst 1 hX 0 (by decide) dX3_print_0 rfl (jx_istore_n 2 hX [(1, .int 0), (0, .ref (D.2.1 a0))] rfl (by decide) rfl dX3_print_1 rfl ?_)
  obtain ⟨n_, h⟩ := h
  exact jx_sub [1, 0] rfl (l2 n_ a0 0 s h)
set_option maxHeartbeats 4000000 in
set_option maxRecDepth 100000 in
theorem mX3_read (l : Launch) (D : jx_Dt) (post : Int32 → jx_St → Prop) (a0 : Nat) (a1 : Int32) (s : jx_St) (h : wX3_read post a0 a1 s) : jx_Met l yX3_read cX3_read 3 (some .int) (jx_r 11 282) D jx_LX [.ref (D.2.1 a0), .int a1] s (jx_Qi D jx_LX post) := by
  refine jx_ofJ (by decide) (Nat.le_of_ble_eq_true rfl) (fun X hl hX => ?_)
  subst hl
  replace hX : jx_K D jx_LX X cX3_read RX3 3 (some .int) (jx_r 11 282) (jx_Qi D jx_LX post) := hX
  show jx_J D jx_LX X 0 [(0, .ref (D.2.1 a0)), (1, .int a1)] [] s
  unfold wX3_read at h
  refine jx_iload_n 1 hX 1 rfl rfl dX3_read_0 rfl (jx_bipush 3 hX 28 (by decide) dX3_read_1 rfl ?_)
  refine jx_icmp_lt 6 12 hX dX3_read_3 rfl (by decide) (fun hb1 => ?_) (fun hb1 => ?_)
  · have h := h.1 hb1
    refine jx_iconst 13 hX (-1) (by decide) dX3_read_12 rfl ?_
    exact jx_iret hX dX3_read_13 h
  · have h := h.2 hb1
    refine jx_iload_n 7 hX 1 rfl rfl dX3_read_6 rfl (jx_bipush 9 hX 31 (by decide) dX3_read_7 rfl ?_)
    refine jx_icmp_le 12 14 hX dX3_read_9 rfl (by decide) (fun hb2 => ?_) (fun hb2 => ?_)
    · have h := h.1 hb2
      refine jx_aload_n 15 hX 0 rfl rfl dX3_read_14 rfl ?_
      obtain ⟨hc3, h⟩ := h
      refine jx_getR 18 hX jf_X3_33 rfl hc3 dX3_read_15 rfl (jx_aload_n 19 hX 0 rfl rfl dX3_read_18 rfl (jx_getR 22 hX jf_X3_9 rfl hc3 dX3_read_19 rfl (jx_aload_n 23 hX 0 rfl rfl dX3_read_22 rfl (jx_getI 26 hX jf_X3_13 rfl hc3 dX3_read_23 rfl (jx_iload_n 27 hX 1 rfl rfl dX3_read_26 rfl ?_)))))
      obtain ⟨hc4, h⟩ := h
      refine jx_callVi 30 hX (mX2_readText _ D _ (s.2 a0 5) (s.2 a0 0) (s.1 a0 1) a1 s h) jv_X3_41 jn_2 hc4 ⟨rfl, rfl, by decide, by decide⟩ rfl rfl (Nat.le_of_ble_eq_true rfl) dX3_read_27 rfl (fun r5 s6 h => ?_)
      refine jx_istore_n 31 hX [(2, .int r5), (0, .ref (D.2.1 a0)), (1, .int a1)] rfl (by decide) rfl dX3_read_30 rfl (jx_aload_n 32 hX 1 rfl rfl dX3_read_31 rfl (jx_iconst 33 hX 0 (by decide) dX3_read_32 rfl (jx_putI 36 hX jp_X3_13 rfl hc3 dX3_read_33 rfl ?_)))
      refine jx_namu (fun s7 hs7 => ?_)
      have h := h s7 hs7
      refine jx_iload_n 37 hX 0 rfl rfl dX3_read_36 rfl ?_
      refine jx_if_ne 40 55 hX dX3_read_37 rfl (by decide) (fun hb8 => ?_) (fun hb8 => ?_)
      · have h := h.1 hb8
        refine jx_iload_n 56 hX 0 rfl rfl dX3_read_55 rfl ?_
        exact jx_iret hX dX3_read_56 h
      · have h := h.2 hb8
        refine jx_aload_n 41 hX 1 rfl rfl dX3_read_40 rfl (jx_aload_n 42 hX 1 rfl rfl dX3_read_41 rfl (jx_getR 45 hX jf_X3_33 rfl hc3 dX3_read_42 rfl (jx_aload_n 46 hX 1 rfl rfl dX3_read_45 rfl (jx_getR 49 hX jf_X3_26 rfl hc3 dX3_read_46 rfl ?_))))
        obtain ⟨hc9, h⟩ := h
        refine jx_callVc 52 hX (mX2_exchange _ D _ (s7.2 a0 5) (s7.2 a0 4) s7 h) jv_X3_45 jn_2 hc9 ⟨rfl, rfl, by decide, by decide⟩ rfl rfl (Nat.le_of_ble_eq_true rfl) dX3_read_49 rfl (fun r10 s11 h => ?_)
        refine jx_putR 55 hX jp_X3_26 (fun _ => rfl) (fun _ => rfl) rfl hc3 dX3_read_52 rfl ?_
        refine jx_namu (fun s12 hs12 => ?_)
        have h := h s12 hs12
        refine jx_iload_n 56 hX 0 rfl rfl dX3_read_55 rfl ?_
        exact jx_iret hX dX3_read_56 h
    · have h := h.2 hb2
      refine jx_iconst 13 hX (-1) (by decide) dX3_read_12 rfl ?_
      exact jx_iret hX dX3_read_13 h
set_option maxHeartbeats 4000000 in
set_option maxRecDepth 100000 in
theorem mX3_told (l : Launch) (D : jx_Dt) (post : Int32 → jx_St → Prop) (a0 : Nat) (a1 : Int32) (s : jx_St) (h : wX3_told post a0 a1 s) : jx_Met l yX3_told cX3_told 2 (some .int) (jx_r 0 0) D jx_LX [.ref (D.2.1 a0), .int a1] s (jx_Qi D jx_LX post) := by
  refine jx_ofJ (by decide) (Nat.le_of_ble_eq_true rfl) (fun X hl hX => ?_)
  subst hl
  replace hX : jx_K D jx_LX X cX3_told RX3 2 (some .int) (jx_r 0 0) (jx_Qi D jx_LX post) := hX
  show jx_J D jx_LX X 0 [(0, .ref (D.2.1 a0)), (1, .int a1)] [] s
  unfold wX3_told at h
  refine jx_iload_n 1 hX 1 rfl rfl dX3_told_0 rfl ?_
  refine jx_if_ne 4 12 hX dX3_told_1 rfl (by decide) (fun hb1 => ?_) (fun hb1 => ?_)
  · have h := h.1 hb1
    refine jx_iload_n 13 hX 1 rfl rfl dX3_told_12 rfl (jx_iconst 14 hX 1 (by decide) dX3_told_13 rfl ?_)
    refine jx_icmp_ne 17 25 hX dX3_told_14 rfl (by decide) (fun hb2 => ?_) (fun hb2 => ?_)
    · have h := h.1 hb2
      refine jx_aload_n 26 hX 0 rfl rfl dX3_told_25 rfl ?_
      obtain ⟨hc3, h⟩ := h
      refine jx_getR 29 hX jf_X3_26 rfl hc3 dX3_told_26 rfl ?_
      obtain ⟨hc4, h⟩ := h
      refine jx_getI 32 hX jf_X3_49 rfl hc4 dX3_told_29 rfl ?_
      refine jx_if_ne 35 39 hX dX3_told_32 rfl (by decide) (fun hb5 => ?_) (fun hb5 => ?_)
      · have h := h.1 hb5
        refine jx_iload_n 40 hX 1 rfl rfl dX3_told_39 rfl ?_
        by_cases hb6 : a1 = 2
        · have h := h.1 hb6
          refine jx_tabIn 72 (off := 32) hX dX3_told_40 (by rw [hb6]; decide) (by rw [hb6]; decide) (by rw [hb6]; decide) (by decide) ?_
          refine jx_aload_n 73 hX 0 rfl rfl dX3_told_72 rfl (jx_getR 76 hX jf_X3_26 rfl hc3 dX3_told_73 rfl (jx_getI 79 hX jf_X3_55 rfl hc4 dX3_told_76 rfl ?_))
          exact jx_iret hX dX3_told_79 h
        · have h := h.2
          by_cases hb7 : a1 = 3
          · have h := h.1 hb7
            refine jx_tabIn 80 (off := 40) hX dX3_told_40 (by rw [hb7]; decide) (by rw [hb7]; decide) (by rw [hb7]; decide) (by decide) ?_
            refine jx_aload_n 81 hX 0 rfl rfl dX3_told_80 rfl (jx_getR 84 hX jf_X3_26 rfl hc3 dX3_told_81 rfl (jx_getI 87 hX jf_X3_58 rfl hc4 dX3_told_84 rfl ?_))
            exact jx_iret hX dX3_told_87 h
          · have h := h.2
            by_cases hb8 : a1 = 4
            · have h := h.1 hb8
              refine jx_tabIn 88 (off := 48) hX dX3_told_40 (by rw [hb8]; decide) (by rw [hb8]; decide) (by rw [hb8]; decide) (by decide) ?_
              refine jx_aload_n 89 hX 0 rfl rfl dX3_told_88 rfl (jx_getR 92 hX jf_X3_26 rfl hc3 dX3_told_89 rfl (jx_getI 95 hX jf_X3_61 rfl hc4 dX3_told_92 rfl ?_))
              exact jx_iret hX dX3_told_95 h
            · have h := h.2
              by_cases hb9 : a1 = 5
              · have h := h.1 hb9
                refine jx_tabIn 96 (off := 56) hX dX3_told_40 (by rw [hb9]; decide) (by rw [hb9]; decide) (by rw [hb9]; decide) (by decide) ?_
                refine jx_aload_n 97 hX 0 rfl rfl dX3_told_96 rfl (jx_getR 100 hX jf_X3_26 rfl hc3 dX3_told_97 rfl (jx_getI 103 hX jf_X3_64 rfl hc4 dX3_told_100 rfl ?_))
                exact jx_iret hX dX3_told_103 h
              · have h := h.2
                have h := h hb6 hb7 hb8 hb9
                have ehb6 : (a1 : Int32).toInt ≠ 2 := fun z => hb6 (Int32.toInt_inj.mp (z.trans (by decide)))
                have ehb7 : (a1 : Int32).toInt ≠ 3 := fun z => hb7 (Int32.toInt_inj.mp (z.trans (by decide)))
                have ehb8 : (a1 : Int32).toInt ≠ 4 := fun z => hb8 (Int32.toInt_inj.mp (z.trans (by decide)))
                have ehb9 : (a1 : Int32).toInt ≠ 5 := fun z => hb9 (Int32.toInt_inj.mp (z.trans (by decide)))
                refine jx_tabOut 104 hX dX3_told_40 (by omega) (by decide) ?_
                refine jx_iload_n 105 hX 1 rfl rfl dX3_told_104 rfl (jx_bipush 107 hX 6 (by decide) dX3_told_105 rfl ?_)
                refine jx_icmp_lt 110 131 hX dX3_told_107 rfl (by decide) (fun hb10 => ?_) (fun hb10 => ?_)
                · have h := h.1 hb10
                  refine jx_sipush 134 hX (-1001) (by decide) dX3_told_131 rfl ?_
                  exact jx_iret hX dX3_told_134 h
                · have h := h.2 hb10
                  refine jx_iload_n 111 hX 1 rfl rfl dX3_told_110 rfl (jx_bipush 113 hX 10 (by decide) dX3_told_111 rfl ?_)
                  refine jx_icmp_ge 116 131 hX dX3_told_113 rfl (by decide) (fun hb11 => ?_) (fun hb11 => ?_)
                  · have h := h.1 hb11
                    refine jx_sipush 134 hX (-1001) (by decide) dX3_told_131 rfl ?_
                    exact jx_iret hX dX3_told_134 h
                  · have h := h.2 hb11
                    refine jx_aload_n 117 hX 0 rfl rfl dX3_told_116 rfl (jx_getR 120 hX jf_X3_26 rfl hc3 dX3_told_117 rfl (jx_getR 123 hX jf_X3_67 rfl hc4 dX3_told_120 rfl (jx_iload_n 124 hX 1 rfl rfl dX3_told_123 rfl (jx_bipush 126 hX 6 (by decide) dX3_told_124 rfl (jx_isub 127 hX dX3_told_126 rfl ?_)))))
                    obtain ⟨hc12, h⟩ := h
                    refine jx_iaload 128 hX hc12 dX3_told_127 rfl (jx_goto 134 hX dX3_told_128 (by decide) ?_)
                    exact jx_iret hX dX3_told_134 h
      · have h := h.2 hb5
        refine jx_sipush 38 hX (-1001) (by decide) dX3_told_35 rfl ?_
        exact jx_iret hX dX3_told_38 h
    · have h := h.2 hb2
      refine jx_aload_n 18 hX 0 rfl rfl dX3_told_17 rfl ?_
      obtain ⟨hc13, h⟩ := h
      refine jx_getR 21 hX jf_X3_26 rfl hc13 dX3_told_18 rfl ?_
      obtain ⟨hc14, h⟩ := h
      refine jx_getI 24 hX jf_X3_52 rfl hc14 dX3_told_21 rfl ?_
      exact jx_iret hX dX3_told_24 h
  · have h := h.2 hb1
    refine jx_aload_n 5 hX 0 rfl rfl dX3_told_4 rfl ?_
    obtain ⟨hc15, h⟩ := h
    refine jx_getR 8 hX jf_X3_26 rfl hc15 dX3_told_5 rfl ?_
    obtain ⟨hc16, h⟩ := h
    refine jx_getI 11 hX jf_X3_49 rfl hc16 dX3_told_8 rfl ?_
    exact jx_iret hX dX3_told_11 h
set_option maxHeartbeats 4000000 in
set_option maxRecDepth 100000 in
theorem mX3_type (l : Launch) (D : jx_Dt) (post : Int32 → jx_St → Prop) (a0 : Nat) (a1 : Int64) (a3 : Int32) (s : jx_St) (h : wX3_type post a0 a1 a3 s) : jx_Met l yX3_type cX3_type 6 (some .int) (jx_r 1 22) D jx_LX [.ref (D.2.1 a0), .long a1, .int a3] s (jx_Qi D jx_LX post) := by
  refine jx_ofJ (by decide) (Nat.le_of_ble_eq_true rfl) (fun X hl hX => ?_)
  subst hl
  replace hX : jx_K D jx_LX X cX3_type RX3 6 (some .int) (jx_r 1 22) (jx_Qi D jx_LX post) := hX
  show jx_J D jx_LX X 0 [(0, .ref (D.2.1 a0)), (1, .long a1), (3, .int a3)] [] s
  have l69 : ∀ (n : Nat) (a0 : Nat) (a1 : Int64) (a4 : Int32) (s : jx_St), wX3_type_l69 post n a0 a1 a4 s → jx_J D jx_LX X 69 [(0, .ref (D.2.1 a0)), (1, .long a1), (4, .int a4)] [] s := by
    intro n
    induction n with
    | zero => intro a0 a1 a4 s h; exact h.elim
    | succ n ih =>
      intro a0 a1 a4 s h
      rw [wX3_type_l69] at h
      refine jx_iload 71 hX 2 rfl dX3_type_69 rfl ?_
      refine jx_if_lt 74 106 hX dX3_type_71 rfl (by decide) (fun hb12 => ?_) (fun hb12 => ?_)
      · have h := h.1 hb12
        refine jx_aload_n 107 hX 0 rfl rfl dX3_type_106 rfl ?_
        obtain ⟨hc13, h⟩ := h
        refine jx_getI 110 hX jf_X3_13 rfl hc13 dX3_type_107 rfl ?_
        exact jx_iret hX dX3_type_110 h
      · have h := h.2 hb12
        refine jx_aload_n 75 hX 0 rfl rfl dX3_type_74 rfl ?_
        obtain ⟨hc14, h⟩ := h
        refine jx_getR 78 hX jf_X3_9 rfl hc14 dX3_type_75 rfl (jx_aload_n 79 hX 0 rfl rfl dX3_type_78 rfl (jx_getI 82 hX jf_X3_13 rfl hc14 dX3_type_79 rfl (jx_lload_n 83 hX 1 rfl rfl dX3_type_82 rfl (jx_iload 85 hX 2 rfl dX3_type_83 rfl ?_))))
        refine jx_callSi 88 hX (mX3_byteOf _ D _ a1 a4 s h) js_X3_37 ⟨rfl, rfl, by decide, by decide⟩ rfl rfl (Nat.le_of_ble_eq_true rfl) dX3_type_85 rfl (fun r15 s16 h => ?_)
        refine jx_i2c 89 hX dX3_type_88 rfl ?_
        obtain ⟨hc17, h⟩ := h
        refine jx_castore 90 hX hc17 dX3_type_89 rfl ?_
        refine jx_namu (fun s18 hs18 => ?_)
        have h := h s18 hs18
        refine jx_aload_n 91 hX 0 rfl rfl dX3_type_90 rfl (jx_dup 92 hX rfl dX3_type_91 rfl (jx_getI 95 hX jf_X3_13 rfl hc14 dX3_type_92 rfl (jx_iconst 96 hX 1 (by decide) dX3_type_95 rfl (jx_iadd 97 hX dX3_type_96 rfl (jx_putI 100 hX jp_X3_13 rfl hc14 dX3_type_97 rfl ?_)))))
        refine jx_namu (fun s19 hs19 => ?_)
        have h := h s19 hs19
        obtain ⟨x20, hx20⟩ : ∃ y : Int32, y = a4 + (-1) := ⟨_, rfl⟩
        have h := h x20 hx20
        refine jx_iinc 103 hX 2 x20 [(4, .int x20), (0, .ref (D.2.1 a0)), (1, .long a1)] rfl (by rw [hx20]; exact congrArg (fun z => a4 + z) (by decide)) (by decide) rfl dX3_type_100 rfl (jx_goto 69 hX dX3_type_103 (by decide) ?_)
        exact jx_sub [1, 2, 0] rfl (ih a0 a1 x20 s19 h)
  have l28 : ∀ (n : Nat) (a0 : Nat) (a1 : Int64) (a3 : Int32) (a4 : Int32) (s : jx_St), wX3_type_l28 post n a0 a1 a3 a4 s → jx_J D jx_LX X 28 [(0, .ref (D.2.1 a0)), (1, .long a1), (3, .int a3), (4, .int a4)] [] s := by
    intro n
    induction n with
    | zero => intro a0 a1 a3 a4 s h; exact h.elim
    | succ n ih =>
      intro a0 a1 a3 a4 s h
      rw [wX3_type_l28] at h
      refine jx_iload 30 hX 3 rfl dX3_type_28 rfl (jx_iload_n 31 hX 2 rfl rfl dX3_type_30 rfl ?_)
      refine jx_icmp_ge 34 64 hX dX3_type_31 rfl (by decide) (fun hb5 => ?_) (fun hb5 => ?_)
      · have h := h.1 hb5
        refine jx_iload_n 65 hX 2 rfl rfl dX3_type_64 rfl (jx_iconst 66 hX 1 (by decide) dX3_type_65 rfl (jx_isub 67 hX dX3_type_66 rfl ?_))
        refine jx_topi (fun x6 hx6 => ?_)
        have h := h x6 hx6
        refine jx_istore 69 hX [(4, .int x6), (0, .ref (D.2.1 a0)), (1, .long a1), (3, .int a3)] (by decide) rfl dX3_type_67 rfl ?_
        obtain ⟨n_, h⟩ := h
        exact jx_sub [1, 2, 0] rfl (l69 n_ a0 a1 x6 s h)
      · have h := h.2 hb5
        refine jx_lload_n 35 hX 1 rfl rfl dX3_type_34 rfl (jx_iload 37 hX 3 rfl dX3_type_35 rfl ?_)
        refine jx_callSi 40 hX (mX3_byteOf _ D _ a1 a4 s h) js_X3_37 ⟨rfl, rfl, by decide, by decide⟩ rfl rfl (Nat.le_of_ble_eq_true rfl) dX3_type_37 rfl (fun r7 s8 h => ?_)
        refine jx_istore 42 hX [(5, .int r7), (0, .ref (D.2.1 a0)), (1, .long a1), (3, .int a3), (4, .int a4)] (by decide) rfl dX3_type_40 rfl (jx_iload 44 hX 0 rfl dX3_type_42 rfl (jx_bipush 46 hX 32 (by decide) dX3_type_44 rfl ?_))
        refine jx_icmp_lt 49 56 hX dX3_type_46 rfl (by decide) (fun hb9 => ?_) (fun hb9 => ?_)
        · have h := h.1 hb9
          refine jx_iconst 57 hX (-1) (by decide) dX3_type_56 rfl ?_
          exact jx_iret hX dX3_type_57 h
        · have h := h.2 hb9
          refine jx_iload 51 hX 0 rfl dX3_type_49 rfl (jx_bipush 53 hX 126 (by decide) dX3_type_51 rfl ?_)
          refine jx_icmp_le 56 58 hX dX3_type_53 rfl (by decide) (fun hb10 => ?_) (fun hb10 => ?_)
          · have h := h.1 hb10
            obtain ⟨x11, hx11⟩ : ∃ y : Int32, y = a4 + 1 := ⟨_, rfl⟩
            have h := h x11 hx11
            refine jx_iinc 61 hX 4 x11 [(4, .int x11), (5, .int r7), (0, .ref (D.2.1 a0)), (1, .long a1), (3, .int a3)] rfl (by rw [hx11]; exact congrArg (fun z => a4 + z) (by decide)) (by decide) rfl dX3_type_58 rfl (jx_goto 28 hX dX3_type_61 (by decide) ?_)
            exact jx_sub [2, 3, 4, 0] rfl (ih a0 a1 a3 x11 s8 h)
          · have h := h.2 hb10
            refine jx_iconst 57 hX (-1) (by decide) dX3_type_56 rfl ?_
            exact jx_iret hX dX3_type_57 h
  unfold wX3_type at h
  refine jx_iload_n 1 hX 2 rfl rfl dX3_type_0 rfl (jx_iconst 2 hX 1 (by decide) dX3_type_1 rfl ?_)
  refine jx_icmp_lt 5 23 hX dX3_type_2 rfl (by decide) (fun hb1 => ?_) (fun hb1 => ?_)
  · have h := h.1 hb1
    refine jx_iconst 24 hX (-1) (by decide) dX3_type_23 rfl ?_
    exact jx_iret hX dX3_type_24 h
  · have h := h.2 hb1
    refine jx_iload_n 6 hX 2 rfl rfl dX3_type_5 rfl (jx_bipush 8 hX 8 (by decide) dX3_type_6 rfl ?_)
    refine jx_icmp_gt 11 23 hX dX3_type_8 rfl (by decide) (fun hb2 => ?_) (fun hb2 => ?_)
    · have h := h.1 hb2
      refine jx_iconst 24 hX (-1) (by decide) dX3_type_23 rfl ?_
      exact jx_iret hX dX3_type_24 h
    · have h := h.2 hb2
      refine jx_aload_n 12 hX 0 rfl rfl dX3_type_11 rfl ?_
      obtain ⟨hc3, h⟩ := h
      refine jx_getI 15 hX jf_X3_13 rfl hc3 dX3_type_12 rfl (jx_iload_n 16 hX 2 rfl rfl dX3_type_15 rfl (jx_iadd 17 hX dX3_type_16 rfl (jx_sipush 20 hX 700 (by decide) dX3_type_17 rfl ?_)))
      refine jx_icmp_le 23 25 hX dX3_type_20 rfl (by decide) (fun hb4 => ?_) (fun hb4 => ?_)
      · have h := h.1 hb4
        refine jx_iconst 26 hX 0 (by decide) dX3_type_25 rfl (jx_istore 28 hX [(4, .int 0), (0, .ref (D.2.1 a0)), (1, .long a1), (3, .int a3)] (by decide) rfl dX3_type_26 rfl ?_)
        obtain ⟨n_, h⟩ := h
        exact jx_sub [1, 2, 3, 0] rfl (l28 n_ a0 a1 a3 0 s h)
      · have h := h.2 hb4
        refine jx_iconst 24 hX (-1) (by decide) dX3_type_23 rfl ?_
        exact jx_iret hX dX3_type_24 h
set_option maxHeartbeats 4000000 in
set_option maxRecDepth 100000 in
theorem mX3_weather (l : Launch) (D : jx_Dt) (post : Int32 → jx_St → Prop) (a0 : Nat) (a1 : Int32) (a2 : Int32) (s : jx_St) (h : wX3_weather post a0 a1 a2 s) : jx_Met l yX3_weather cX3_weather 3 (some .int) (jx_r 1 21) D jx_LX [.ref (D.2.1 a0), .int a1, .int a2] s (jx_Qi D jx_LX post) := by
  refine jx_ofJ (by decide) (Nat.le_of_ble_eq_true rfl) (fun X hl hX => ?_)
  subst hl
  replace hX : jx_K D jx_LX X cX3_weather RX3 3 (some .int) (jx_r 1 21) (jx_Qi D jx_LX post) := hX
  show jx_J D jx_LX X 0 [(0, .ref (D.2.1 a0)), (1, .int a1), (2, .int a2)] [] s
  unfold wX3_weather at h
  refine jx_aload_n 1 hX 0 rfl rfl dX3_weather_0 rfl ?_
  obtain ⟨hc1, h⟩ := h
  refine jx_getR 4 hX jf_X3_26 rfl hc1 dX3_weather_1 rfl (jx_iload_n 5 hX 1 rfl rfl dX3_weather_4 rfl ?_)
  obtain ⟨hc2, h⟩ := h
  refine jx_callVi 8 hX (mX0_hasGroup _ D _ (s.2 a0 4) a1 s h) jv_X3_71 jn_0 hc2 ⟨rfl, rfl, by decide, by decide⟩ rfl rfl (Nat.le_of_ble_eq_true rfl) dX3_weather_5 rfl (fun r3 s4 h => ?_)
  obtain ⟨hz5, h⟩ := h
  have h := h hz5
  refine jx_if_eq 11 31 hX dX3_weather_8 rfl (by decide) (fun hb6 => ?_) (fun hb6 => ?_)
  · have h := h.1 hb6
    refine jx_iconst 32 hX (-1) (by decide) dX3_weather_31 rfl ?_
    exact jx_iret hX dX3_weather_32 h
  · have h := h.2 hb6
    refine jx_iload_n 12 hX 2 rfl rfl dX3_weather_11 rfl ?_
    refine jx_if_lt 15 31 hX dX3_weather_12 rfl (by decide) (fun hb7 => ?_) (fun hb7 => ?_)
    · have h := h.1 hb7
      refine jx_iconst 32 hX (-1) (by decide) dX3_weather_31 rfl ?_
      exact jx_iret hX dX3_weather_32 h
    · have h := h.2 hb7
      refine jx_iload_n 16 hX 2 rfl rfl dX3_weather_15 rfl (jx_aload_n 17 hX 0 rfl rfl dX3_weather_16 rfl (jx_getR 20 hX jf_X3_26 rfl hc1 dX3_weather_17 rfl ?_))
      obtain ⟨hc8, h⟩ := h
      refine jx_getR 23 hX jf_X3_75 rfl hc8 dX3_weather_20 rfl (jx_iload_n 24 hX 1 rfl rfl dX3_weather_23 rfl ?_)
      obtain ⟨hc9, h⟩ := h
      refine jx_aaload 25 hX hc9 dX3_weather_24 rfl ?_
      obtain ⟨hc10, h⟩ := h
      refine jx_getI 28 hX jf_X3_103 rfl hc10 dX3_weather_25 rfl ?_
      refine jx_icmp_lt 31 33 hX dX3_weather_28 rfl (by decide) (fun hb11 => ?_) (fun hb11 => ?_)
      · have h := h.1 hb11
        refine jx_aload_n 34 hX 0 rfl rfl dX3_weather_33 rfl (jx_getR 37 hX jf_X3_26 rfl hc1 dX3_weather_34 rfl (jx_getR 40 hX jf_X3_75 rfl hc8 dX3_weather_37 rfl (jx_iload_n 41 hX 1 rfl rfl dX3_weather_40 rfl (jx_aaload 42 hX hc9 dX3_weather_41 rfl (jx_getR 45 hX jf_X3_109 rfl hc10 dX3_weather_42 rfl ?_)))))
        refine jx_iload_n 46 hX 2 rfl rfl dX3_weather_45 rfl ?_
        obtain ⟨hc12, h⟩ := h
        refine jx_iaload 47 hX hc12 dX3_weather_46 rfl ?_
        exact jx_iret hX dX3_weather_47 h
      · have h := h.2 hb11
        refine jx_iconst 32 hX (-1) (by decide) dX3_weather_31 rfl ?_
        exact jx_iret hX dX3_weather_32 h
