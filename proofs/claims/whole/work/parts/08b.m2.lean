/-! ===== the machine does what the predicates say (written by program) ===== -/
set_option maxHeartbeats 4000000 in
set_option maxRecDepth 100000 in
theorem mX2_holds (l : Launch) (D : jx_Dt) (post : Int32 → jx_St → Prop) (a0 : Nat) (a1 : Int32) (a2 : Nat) (s : jx_St) (h : wX2_holds post a0 a1 a2 s) : jx_Met l yX2_holds cX2_holds 4 (some .boolean) (jx_r 5 141) D jx_LX [.ref (D.2.1 a0), .int a1, .ref (D.2.2.2.1 a2)] s (jx_Qi D jx_LX (fun r u => (r = 0 ∨ r = 1) ∧ post r u)) := by
  refine jx_ofJ (by decide) (Nat.le_of_ble_eq_true rfl) (fun X hl hX => ?_)
  subst hl
  replace hX : jx_K D jx_LX X cX2_holds RX2 4 (some .boolean) (jx_r 5 141) (jx_Qi D jx_LX (fun r u => (r = 0 ∨ r = 1) ∧ post r u)) := hX
  show jx_J D jx_LX X 0 [(0, .ref (D.2.1 a0)), (1, .int a1), (2, .ref (D.2.2.2.1 a2))] [] s
  have l19 : ∀ (n : Nat) (a0 : Nat) (a1 : Int32) (a2 : Nat) (a3 : Int32) (s : jx_St), wX2_holds_l19 post n a0 a1 a2 a3 s → jx_J D jx_LX X 19 [(0, .ref (D.2.1 a0)), (1, .int a1), (2, .ref (D.2.2.2.1 a2)), (3, .int a3)] [] s := by
    intro n
    induction n with
    | zero => intro a0 a1 a2 a3 s h; exact h.elim
    | succ n ih =>
      intro a0 a1 a2 a3 s h
      rw [wX2_holds_l19] at h
      refine jx_iload_n 20 hX 3 rfl rfl dX2_holds_19 rfl (jx_aload_n 21 hX 2 rfl rfl dX2_holds_20 rfl ?_)
      obtain ⟨hc4, h⟩ := h
      refine jx_slen 24 hX hc4 jv_X2_258 (by decide) (Nat.le_of_ble_eq_true rfl) dX2_holds_21 rfl ?_
      refine jx_icmp_ge 27 51 hX dX2_holds_24 rfl (by decide) (fun hb5 => ?_) (fun hb5 => ?_)
      · have h := h.1 hb5
        refine jx_iconst 52 hX 1 (by decide) dX2_holds_51 rfl ?_
        exact jx_zret hX dX2_holds_52 (by decide) h
      · have h := h.2 hb5
        refine jx_aload_n 28 hX 0 rfl rfl dX2_holds_27 rfl ?_
        obtain ⟨hc6, h⟩ := h
        refine jx_getR 31 hX jf_X2_25 rfl hc6 dX2_holds_28 rfl (jx_iload_n 32 hX 1 rfl rfl dX2_holds_31 rfl (jx_iload_n 33 hX 3 rfl rfl dX2_holds_32 rfl (jx_iadd 34 hX dX2_holds_33 rfl ?_)))
        obtain ⟨hc7, h⟩ := h
        refine jx_caload 35 hX hc7 dX2_holds_34 rfl (jx_aload_n 36 hX 2 rfl rfl dX2_holds_35 rfl (jx_iload_n 37 hX 3 rfl rfl dX2_holds_36 rfl ?_))
        obtain ⟨hc8, h⟩ := h
        refine jx_scat 40 hX hc4 hc8 jv_X2_262 (by decide) (Nat.le_of_ble_eq_true rfl) dX2_holds_37 rfl ?_
        refine jx_icmp_eq 43 45 hX dX2_holds_40 rfl (by decide) (fun hb9 => ?_) (fun hb9 => ?_)
        · have h := h.1 hb9
          obtain ⟨x10, hx10⟩ : ∃ y : Int32, y = a3 + 1 := ⟨_, rfl⟩
          have h := h x10 hx10
          refine jx_iinc 48 hX 3 x10 [(3, .int x10), (0, .ref (D.2.1 a0)), (1, .int a1), (2, .ref (D.2.2.2.1 a2))] rfl (by rw [hx10]; exact congrArg (fun z => a3 + z) (by decide)) (by decide) rfl dX2_holds_45 rfl (jx_goto 19 hX dX2_holds_48 (by decide) ?_)
          exact jx_sub [1, 2, 3, 0] rfl (ih a0 a1 a2 x10 s h)
        · have h := h.2 hb9
          refine jx_iconst 44 hX 0 (by decide) dX2_holds_43 rfl ?_
          exact jx_zret hX dX2_holds_44 (by decide) h
  unfold wX2_holds at h
  refine jx_iload_n 1 hX 1 rfl rfl dX2_holds_0 rfl ?_
  refine jx_if_lt 4 15 hX dX2_holds_1 rfl (by decide) (fun hb1 => ?_) (fun hb1 => ?_)
  · have h := h.1 hb1
    refine jx_iconst 16 hX 0 (by decide) dX2_holds_15 rfl ?_
    exact jx_zret hX dX2_holds_16 (by decide) h
  · have h := h.2 hb1
    refine jx_iload_n 5 hX 1 rfl rfl dX2_holds_4 rfl (jx_aload_n 6 hX 2 rfl rfl dX2_holds_5 rfl ?_)
    obtain ⟨hc2, h⟩ := h
    refine jx_slen 9 hX hc2 jv_X2_258 (by decide) (Nat.le_of_ble_eq_true rfl) dX2_holds_6 rfl (jx_iadd 10 hX dX2_holds_9 rfl (jx_bipush 12 hX 16 (by decide) dX2_holds_10 rfl ?_))
    refine jx_icmp_le 15 17 hX dX2_holds_12 rfl (by decide) (fun hb3 => ?_) (fun hb3 => ?_)
    · have h := h.1 hb3
      refine jx_iconst 18 hX 0 (by decide) dX2_holds_17 rfl (jx_istore_n 19 hX [(3, .int 0), (0, .ref (D.2.1 a0)), (1, .int a1), (2, .ref (D.2.2.2.1 a2))] rfl (by decide) rfl dX2_holds_18 rfl ?_)
      obtain ⟨n_, h⟩ := h
      exact jx_sub [1, 2, 3, 0] rfl (l19 n_ a0 a1 a2 0 s h)
    · have h := h.2 hb3
      refine jx_iconst 16 hX 0 (by decide) dX2_holds_15 rfl ?_
      exact jx_zret hX dX2_holds_16 (by decide) h
set_option maxHeartbeats 4000000 in
set_option maxRecDepth 100000 in
theorem mX2_digits (l : Launch) (D : jx_Dt) (post : Int32 → jx_St → Prop) (a0 : Nat) (a1 : Int32) (a2 : Int32) (s : jx_St) (h : wX2_digits post a0 a1 a2 s) : jx_Met l yX2_digits cX2_digits 5 (some .int) (jx_r 0 0) D jx_LX [.ref (D.2.1 a0), .int a1, .int a2] s (jx_Qi D jx_LX post) := by
  refine jx_ofJ (by decide) (Nat.le_of_ble_eq_true rfl) (fun X hl hX => ?_)
  subst hl
  replace hX : jx_K D jx_LX X cX2_digits RX2 5 (some .int) (jx_r 0 0) (jx_Qi D jx_LX post) := hX
  show jx_J D jx_LX X 0 [(0, .ref (D.2.1 a0)), (1, .int a1), (2, .int a2)] [] s
  have l19 : ∀ (n : Nat) (a0 : Nat) (a1 : Int32) (a2 : Int32) (a3 : Int32) (a4 : Int32) (s : jx_St), wX2_digits_l19 post n a0 a1 a2 a3 a4 s → jx_J D jx_LX X 19 [(0, .ref (D.2.1 a0)), (1, .int a1), (2, .int a2), (3, .int a3), (4, .int a4)] [] s := by
    intro n
    induction n with
    | zero => intro a0 a1 a2 a3 a4 s h; exact h.elim
    | succ n ih =>
      intro a0 a1 a2 a3 a4 s h
      rw [wX2_digits_l19] at h
      refine jx_iload 21 hX 4 rfl dX2_digits_19 rfl (jx_iload_n 22 hX 1 rfl rfl dX2_digits_21 rfl (jx_iload_n 23 hX 2 rfl rfl dX2_digits_22 rfl (jx_iadd 24 hX dX2_digits_23 rfl ?_)))
      refine jx_icmp_ge 27 75 hX dX2_digits_24 rfl (by decide) (fun hb3 => ?_) (fun hb3 => ?_)
      · have h := h.1 hb3
        refine jx_iload_n 76 hX 3 rfl rfl dX2_digits_75 rfl ?_
        exact jx_iret hX dX2_digits_76 h
      · have h := h.2 hb3
        refine jx_aload_n 28 hX 0 rfl rfl dX2_digits_27 rfl ?_
        obtain ⟨hc4, h⟩ := h
        refine jx_getR 31 hX jf_X2_25 rfl hc4 dX2_digits_28 rfl (jx_iload 33 hX 4 rfl dX2_digits_31 rfl ?_)
        obtain ⟨hc5, h⟩ := h
        refine jx_caload 34 hX hc5 dX2_digits_33 rfl (jx_bipush 36 hX 48 (by decide) dX2_digits_34 rfl ?_)
        refine jx_icmp_lt 39 51 hX dX2_digits_36 rfl (by decide) (fun hb6 => ?_) (fun hb6 => ?_)
        · have h := h.1 hb6
          refine jx_iconst 52 hX (-1) (by decide) dX2_digits_51 rfl ?_
          exact jx_iret hX dX2_digits_52 h
        · have h := h.2 hb6
          refine jx_aload_n 40 hX 0 rfl rfl dX2_digits_39 rfl (jx_getR 43 hX jf_X2_25 rfl hc4 dX2_digits_40 rfl (jx_iload 45 hX 4 rfl dX2_digits_43 rfl (jx_caload 46 hX hc5 dX2_digits_45 rfl (jx_bipush 48 hX 57 (by decide) dX2_digits_46 rfl ?_))))
          refine jx_icmp_le 51 53 hX dX2_digits_48 rfl (by decide) (fun hb7 => ?_) (fun hb7 => ?_)
          · have h := h.1 hb7
            refine jx_iload_n 54 hX 3 rfl rfl dX2_digits_53 rfl (jx_bipush 56 hX 10 (by decide) dX2_digits_54 rfl (jx_imul 57 hX dX2_digits_56 rfl (jx_aload_n 58 hX 0 rfl rfl dX2_digits_57 rfl (jx_getR 61 hX jf_X2_25 rfl hc4 dX2_digits_58 rfl (jx_iload 63 hX 4 rfl dX2_digits_61 rfl ?_)))))
            refine jx_caload 64 hX hc5 dX2_digits_63 rfl (jx_bipush 66 hX 48 (by decide) dX2_digits_64 rfl (jx_isub 67 hX dX2_digits_66 rfl (jx_iadd 68 hX dX2_digits_67 rfl ?_)))
            refine jx_topi (fun x8 hx8 => ?_)
            have h := h x8 hx8
            refine jx_istore_n 69 hX [(3, .int x8), (0, .ref (D.2.1 a0)), (1, .int a1), (2, .int a2), (4, .int a4)] rfl (by decide) rfl dX2_digits_68 rfl ?_
            obtain ⟨x9, hx9⟩ : ∃ y : Int32, y = a4 + 1 := ⟨_, rfl⟩
            have h := h x9 hx9
            refine jx_iinc 72 hX 4 x9 [(4, .int x9), (3, .int x8), (0, .ref (D.2.1 a0)), (1, .int a1), (2, .int a2)] rfl (by rw [hx9]; exact congrArg (fun z => a4 + z) (by decide)) (by decide) rfl dX2_digits_69 rfl (jx_goto 19 hX dX2_digits_72 (by decide) ?_)
            exact jx_sub [2, 3, 4, 1, 0] rfl (ih a0 a1 a2 x8 x9 s h)
          · have h := h.2 hb7
            refine jx_iconst 52 hX (-1) (by decide) dX2_digits_51 rfl ?_
            exact jx_iret hX dX2_digits_52 h
  unfold wX2_digits at h
  refine jx_iload_n 1 hX 1 rfl rfl dX2_digits_0 rfl ?_
  refine jx_if_lt 4 12 hX dX2_digits_1 rfl (by decide) (fun hb1 => ?_) (fun hb1 => ?_)
  · have h := h.1 hb1
    refine jx_iconst 13 hX (-1) (by decide) dX2_digits_12 rfl ?_
    exact jx_iret hX dX2_digits_13 h
  · have h := h.2 hb1
    refine jx_iload_n 5 hX 1 rfl rfl dX2_digits_4 rfl (jx_iload_n 6 hX 2 rfl rfl dX2_digits_5 rfl (jx_iadd 7 hX dX2_digits_6 rfl (jx_bipush 9 hX 16 (by decide) dX2_digits_7 rfl ?_)))
    refine jx_icmp_le 12 14 hX dX2_digits_9 rfl (by decide) (fun hb2 => ?_) (fun hb2 => ?_)
    · have h := h.1 hb2
      refine jx_iconst 15 hX 0 (by decide) dX2_digits_14 rfl (jx_istore_n 16 hX [(3, .int 0), (0, .ref (D.2.1 a0)), (1, .int a1), (2, .int a2)] rfl (by decide) rfl dX2_digits_15 rfl (jx_iload_n 17 hX 2 rfl rfl dX2_digits_16 rfl (jx_istore 19 hX [(4, .int a1), (3, .int 0), (0, .ref (D.2.1 a0)), (1, .int a1), (2, .int a2)] (by decide) rfl dX2_digits_17 rfl ?_)))
      obtain ⟨n_, h⟩ := h
      exact jx_sub [2, 3, 4, 1, 0] rfl (l19 n_ a0 a1 a2 0 a1 s h)
    · have h := h.2 hb2
      refine jx_iconst 13 hX (-1) (by decide) dX2_digits_12 rfl ?_
      exact jx_iret hX dX2_digits_13 h
set_option maxHeartbeats 4000000 in
set_option maxRecDepth 100000 in
theorem mX2_degreesAt (l : Launch) (D : jx_Dt) (post : Int32 → jx_St → Prop) (a0 : Nat) (a1 : Int32) (s : jx_St) (h : wX2_degreesAt post a0 a1 s) : jx_Met l yX2_degreesAt cX2_degreesAt 4 (some .int) (jx_r 6 164) D jx_LX [.ref (D.2.1 a0), .int a1] s (jx_Qi D jx_LX post) := by
  refine jx_ofJ (by decide) (Nat.le_of_ble_eq_true rfl) (fun X hl hX => ?_)
  subst hl
  replace hX : jx_K D jx_LX X cX2_degreesAt RX2 4 (some .int) (jx_r 6 164) (jx_Qi D jx_LX post) := hX
  show jx_J D jx_LX X 0 [(0, .ref (D.2.1 a0)), (1, .int a1)] [] s
  have b21 : ∀ (a2 : Int32) (k0 : Nat) (k1 : Int32) (s : jx_St), wX2_degreesAt_b21 post a2 k0 k1 s → jx_J D jx_LX X 21 [(2, .int a2)] [.int k1, .ref (D.2.1 k0)] s := by
    intro a2 k0 k1 s h
    unfold wX2_degreesAt_b21 at h
    refine jx_iconst 22 hX 2 (by decide) dX2_degreesAt_21 rfl ?_
    obtain ⟨hc6, h⟩ := h
    refine jx_callVi 25 hX (mX2_digits _ D _ k0 k1 2 s h) jv_X2_175 jn_2 hc6 ⟨rfl, rfl, by decide, by decide⟩ rfl rfl (Nat.le_of_ble_eq_true rfl) dX2_degreesAt_22 rfl (fun r7 s8 h => ?_)
    refine jx_istore_n 26 hX [(3, .int r7), (2, .int a2)] rfl (by decide) rfl dX2_degreesAt_25 rfl (jx_iload_n 27 hX 0 rfl rfl dX2_degreesAt_26 rfl (jx_iconst 28 hX (-1) (by decide) dX2_degreesAt_27 rfl ?_))
    refine jx_icmp_ne 31 35 hX dX2_degreesAt_28 rfl (by decide) (fun hb9 => ?_) (fun hb9 => ?_)
    · have h := h.1 hb9
      refine jx_iload_n 36 hX 1 rfl rfl dX2_degreesAt_35 rfl ?_
      refine jx_if_eq 39 44 hX dX2_degreesAt_36 rfl (by decide) (fun hb10 => ?_) (fun hb10 => ?_)
      · have h := h.1 hb10
        refine jx_iload_n 45 hX 0 rfl rfl dX2_degreesAt_44 rfl ?_
        exact jx_iret hX dX2_degreesAt_45 h
      · have h := h.2 hb10
        refine jx_iload_n 40 hX 0 rfl rfl dX2_degreesAt_39 rfl (jx_ineg 41 hX dX2_degreesAt_40 rfl (jx_goto 45 hX dX2_degreesAt_41 (by decide) ?_))
        exact jx_iret hX dX2_degreesAt_45 h
    · have h := h.2 hb9
      refine jx_sipush 34 hX (-1001) (by decide) dX2_degreesAt_31 rfl ?_
      exact jx_iret hX dX2_degreesAt_34 h
  unfold wX2_degreesAt at h
  refine jx_aload_n 1 hX 0 rfl rfl dX2_degreesAt_0 rfl (jx_iload_n 2 hX 1 rfl rfl dX2_degreesAt_1 rfl (jx_ldcW 5 hX 12 (by decide) rfl dX2_degreesAt_2 rfl ?_))
  obtain ⟨hc1, h⟩ := h
  refine jx_callVi 8 hX (mX2_holds _ D _ a0 a1 12 s h) jv_X2_196 jn_2 hc1 ⟨rfl, rfl, by decide, by decide⟩ rfl rfl (Nat.le_of_ble_eq_true rfl) dX2_degreesAt_5 rfl (fun r2 s3 h => ?_)
  obtain ⟨hz4, h⟩ := h
  have h := h hz4
  refine jx_istore_n 9 hX [(2, .int r2), (0, .ref (D.2.1 a0)), (1, .int a1)] rfl (by decide) rfl dX2_degreesAt_8 rfl (jx_aload_n 10 hX 1 rfl rfl dX2_degreesAt_9 rfl (jx_iload_n 11 hX 0 rfl rfl dX2_degreesAt_10 rfl ?_))
  refine jx_if_eq 14 20 hX dX2_degreesAt_11 rfl (by decide) (fun hb5 => ?_) (fun hb5 => ?_)
  · have h := h.1 hb5
    refine jx_iload_n 21 hX 2 rfl rfl dX2_degreesAt_20 rfl ?_
    exact jx_sub [0] rfl (b21 r2 a0 a1 s3 h)
  · have h := h.2 hb5
    refine jx_iload_n 15 hX 2 rfl rfl dX2_degreesAt_14 rfl (jx_iconst 16 hX 1 (by decide) dX2_degreesAt_15 rfl (jx_iadd 17 hX dX2_degreesAt_16 rfl (jx_goto 21 hX dX2_degreesAt_17 (by decide) ?_)))
    exact jx_sub [0] rfl (b21 r2 a0 (a1 + 1) s3 h)
set_option maxHeartbeats 4000000 in
set_option maxRecDepth 100000 in
theorem mX2_exchange (l : Launch) (D : jx_Dt) (post : Nat → jx_St → Prop) (a0 : Nat) (a1 : Nat) (s : jx_St) (h : wX2_exchange post a0 a1 s) : jx_Met l yX2_exchange cX2_exchange 3 (some (.object "SkyBulletin$Bulletin")) (jx_r 0 0) D jx_LX [.ref (D.2.1 a0), .ref (D.2.1 a1)] s (jx_Qc D jx_LX post) := by
  refine jx_ofJ (by decide) (Nat.le_of_ble_eq_true rfl) (fun X hl hX => ?_)
  subst hl
  replace hX : jx_K D jx_LX X cX2_exchange RX2 3 (some (.object "SkyBulletin$Bulletin")) (jx_r 0 0) (jx_Qc D jx_LX post) := hX
  show jx_J D jx_LX X 0 [(0, .ref (D.2.1 a0)), (1, .ref (D.2.1 a1))] [] s
  unfold wX2_exchange at h
  refine jx_aload_n 1 hX 0 rfl rfl dX2_exchange_0 rfl ?_
  obtain ⟨hc1, h⟩ := h
  refine jx_getR 4 hX jf_X2_37 rfl hc1 dX2_exchange_1 rfl ?_
  refine jx_topc (fun x2 hx2 => ?_)
  have h := h x2 hx2
  refine jx_astore_n 5 hX [(2, .ref (D.2.1 x2)), (0, .ref (D.2.1 a0)), (1, .ref (D.2.1 a1))] rfl (by decide) rfl dX2_exchange_4 rfl (jx_aload_n 6 hX 1 rfl rfl dX2_exchange_5 rfl (jx_aload_n 7 hX 2 rfl rfl dX2_exchange_6 rfl (jx_putR 10 hX jp_X2_37 (fun _ => rfl) (fun _ => rfl) rfl hc1 dX2_exchange_7 rfl ?_)))
  refine jx_namu (fun s3 hs3 => ?_)
  have h := h s3 hs3
  refine jx_aload_n 11 hX 0 rfl rfl dX2_exchange_10 rfl ?_
  exact jx_aret hX dX2_exchange_11 h
set_option maxHeartbeats 4000000 in
set_option maxRecDepth 100000 in
theorem mX2_hourAt (l : Launch) (D : jx_Dt) (post : Int32 → jx_St → Prop) (a0 : Nat) (a1 : Int32) (a2 : Int32) (s : jx_St) (h : wX2_hourAt post a0 a1 a2 s) : jx_Met l yX2_hourAt cX2_hourAt 5 (some .int) (jx_r 1 24) D jx_LX [.ref (D.2.1 a0), .int a1, .int a2] s (jx_Qi D jx_LX post) := by
  refine jx_ofJ (by decide) (Nat.le_of_ble_eq_true rfl) (fun X hl hX => ?_)
  subst hl
  replace hX : jx_K D jx_LX X cX2_hourAt RX2 5 (some .int) (jx_r 1 24) (jx_Qi D jx_LX post) := hX
  show jx_J D jx_LX X 0 [(0, .ref (D.2.1 a0)), (1, .int a1), (2, .int a2)] [] s
  unfold wX2_hourAt at h
  refine jx_aload_n 1 hX 0 rfl rfl dX2_hourAt_0 rfl (jx_iload_n 2 hX 1 rfl rfl dX2_hourAt_1 rfl (jx_iconst 3 hX 2 (by decide) dX2_hourAt_2 rfl ?_))
  obtain ⟨hc1, h⟩ := h
  refine jx_callVi 6 hX (mX2_digits _ D _ a0 a1 2 s h) jv_X2_175 jn_2 hc1 ⟨rfl, rfl, by decide, by decide⟩ rfl rfl (Nat.le_of_ble_eq_true rfl) dX2_hourAt_3 rfl (fun r2 s3 h => ?_)
  refine jx_istore_n 7 hX [(3, .int r2), (0, .ref (D.2.1 a0)), (1, .int a1), (2, .int a2)] rfl (by decide) rfl dX2_hourAt_6 rfl (jx_aload_n 8 hX 1 rfl rfl dX2_hourAt_7 rfl (jx_iload_n 9 hX 2 rfl rfl dX2_hourAt_8 rfl (jx_iconst 10 hX 2 (by decide) dX2_hourAt_9 rfl (jx_iadd 11 hX dX2_hourAt_10 rfl (jx_iconst 12 hX 2 (by decide) dX2_hourAt_11 rfl ?_)))))
  refine jx_callVi 15 hX (mX2_digits _ D _ a0 (a1 + 2) 2 s3 h) jv_X2_175 jn_2 hc1 ⟨rfl, rfl, by decide, by decide⟩ rfl rfl (Nat.le_of_ble_eq_true rfl) dX2_hourAt_12 rfl (fun r4 s5 h => ?_)
  refine jx_istore 17 hX [(4, .int r4), (3, .int r2), (0, .ref (D.2.1 a0)), (1, .int a1), (2, .int a2)] (by decide) rfl dX2_hourAt_15 rfl (jx_iload_n 18 hX 1 rfl rfl dX2_hourAt_17 rfl (jx_iconst 19 hX 1 (by decide) dX2_hourAt_18 rfl ?_))
  refine jx_icmp_lt 22 42 hX dX2_hourAt_19 rfl (by decide) (fun hb6 => ?_) (fun hb6 => ?_)
  · have h := h.1 hb6
    refine jx_iconst 43 hX (-1) (by decide) dX2_hourAt_42 rfl ?_
    exact jx_iret hX dX2_hourAt_43 h
  · have h := h.2 hb6
    refine jx_iload_n 23 hX 1 rfl rfl dX2_hourAt_22 rfl (jx_aload_n 24 hX 2 rfl rfl dX2_hourAt_23 rfl (jx_getI 27 hX jf_X2_28 rfl hc1 dX2_hourAt_24 rfl ?_))
    refine jx_icmp_gt 30 42 hX dX2_hourAt_27 rfl (by decide) (fun hb7 => ?_) (fun hb7 => ?_)
    · have h := h.1 hb7
      refine jx_iconst 43 hX (-1) (by decide) dX2_hourAt_42 rfl ?_
      exact jx_iret hX dX2_hourAt_43 h
    · have h := h.2 hb7
      refine jx_iload 32 hX 0 rfl dX2_hourAt_30 rfl (jx_iconst 33 hX (-1) (by decide) dX2_hourAt_32 rfl ?_)
      refine jx_icmp_eq 36 42 hX dX2_hourAt_33 rfl (by decide) (fun hb8 => ?_) (fun hb8 => ?_)
      · have h := h.1 hb8
        refine jx_iconst 43 hX (-1) (by decide) dX2_hourAt_42 rfl ?_
        exact jx_iret hX dX2_hourAt_43 h
      · have h := h.2 hb8
        refine jx_iload 38 hX 0 rfl dX2_hourAt_36 rfl (jx_iload_n 39 hX 4 rfl rfl dX2_hourAt_38 rfl ?_)
        refine jx_icmp_le 42 44 hX dX2_hourAt_39 rfl (by decide) (fun hb9 => ?_) (fun hb9 => ?_)
        · have h := h.1 hb9
          refine jx_iload_n 45 hX 1 rfl rfl dX2_hourAt_44 rfl (jx_iconst 46 hX 1 (by decide) dX2_hourAt_45 rfl (jx_isub 47 hX dX2_hourAt_46 rfl (jx_sipush 50 hX 1440 (by decide) dX2_hourAt_47 rfl (jx_imul 51 hX dX2_hourAt_50 rfl (jx_iload 53 hX 0 rfl dX2_hourAt_51 rfl ?_)))))
          refine jx_bipush 55 hX 60 (by decide) dX2_hourAt_53 rfl (jx_imul 56 hX dX2_hourAt_55 rfl (jx_iadd 57 hX dX2_hourAt_56 rfl ?_))
          exact jx_iret hX dX2_hourAt_57 h
        · have h := h.2 hb9
          refine jx_iconst 43 hX (-1) (by decide) dX2_hourAt_42 rfl ?_
          exact jx_iret hX dX2_hourAt_43 h
set_option maxHeartbeats 4000000 in
set_option maxRecDepth 100000 in
theorem mX2_findPeriod (l : Launch) (D : jx_Dt) (post : Int32 → jx_St → Prop) (a0 : Nat) (a1 : Nat) (a2 : Int32) (s : jx_St) (h : wX2_findPeriod post a0 a1 a2 s) : jx_Met l yX2_findPeriod cX2_findPeriod 6 (some .boolean) (jx_r 2 48) D jx_LX [.ref (D.2.1 a0), .ref (D.2.1 a1), .int a2] s (jx_Qi D jx_LX (fun r u => (r = 0 ∨ r = 1) ∧ post r u)) := by
  refine jx_ofJ (by decide) (Nat.le_of_ble_eq_true rfl) (fun X hl hX => ?_)
  subst hl
  replace hX : jx_K D jx_LX X cX2_findPeriod RX2 6 (some .boolean) (jx_r 2 48) (jx_Qi D jx_LX (fun r u => (r = 0 ∨ r = 1) ∧ post r u)) := hX
  show jx_J D jx_LX X 0 [(0, .ref (D.2.1 a0)), (1, .ref (D.2.1 a1)), (2, .int a2)] [] s
  have b113 : ∀ (a1 : Nat) (k0 : Nat) (k1 : Int32) (s : jx_St), wX2_findPeriod_b113 post a1 k0 k1 s → jx_J D jx_LX X 113 [(1, .ref (D.2.1 a1))] [.int k1, .ref (D.2.1 k0)] s := by
    intro a1 k0 k1 s h
    unfold wX2_findPeriod_b113 at h
    obtain ⟨hc20, h⟩ := h
    refine jx_putI 116 hX jp_X2_185 rfl hc20 dX2_findPeriod_113 rfl ?_
    refine jx_namu (fun s21 hs21 => ?_)
    have h := h s21 hs21
    refine jx_aload_n 117 hX 0 rfl rfl dX2_findPeriod_116 rfl ?_
    obtain ⟨hc22, h⟩ := h
    refine jx_getI 120 hX jf_X2_185 rfl hc22 dX2_findPeriod_117 rfl (jx_aload_n 121 hX 0 rfl rfl dX2_findPeriod_120 rfl (jx_getI 124 hX jf_X2_188 rfl hc22 dX2_findPeriod_121 rfl ?_))
    refine jx_icmp_le 127 131 hX dX2_findPeriod_124 rfl (by decide) (fun hb23 => ?_) (fun hb23 => ?_)
    · have h := h.1 hb23
      refine jx_iconst 132 hX 0 (by decide) dX2_findPeriod_131 rfl ?_
      exact jx_zret hX dX2_findPeriod_132 (by decide) h
    · have h := h.2 hb23
      refine jx_iconst 128 hX 1 (by decide) dX2_findPeriod_127 rfl (jx_goto 132 hX dX2_findPeriod_128 (by decide) ?_)
      exact jx_zret hX dX2_findPeriod_132 (by decide) h
  have b82 : ∀ (a0 : Nat) (a1 : Nat) (a3 : Int32) (a4 : Int32) (a5 : Int32) (k0 : Nat) (k1 : Int32) (s : jx_St), wX2_findPeriod_b82 post a0 a1 a3 a4 a5 k0 k1 s → jx_J D jx_LX X 82 [(0, .ref (D.2.1 a0)), (1, .ref (D.2.1 a1)), (3, .int a3), (4, .int a4), (5, .int a5)] [.int k1, .ref (D.2.1 k0)] s := by
    intro a0 a1 a3 a4 a5 k0 k1 s h
    unfold wX2_findPeriod_b82 at h
    obtain ⟨hc14, h⟩ := h
    refine jx_putI 85 hX jp_X2_188 rfl hc14 dX2_findPeriod_82 rfl ?_
    refine jx_namu (fun s15 hs15 => ?_)
    have h := h s15 hs15
    refine jx_aload_n 86 hX 1 rfl rfl dX2_findPeriod_85 rfl (jx_iload 88 hX 4 rfl dX2_findPeriod_86 rfl ?_)
    refine jx_if_ne 91 97 hX dX2_findPeriod_88 rfl (by decide) (fun hb16 => ?_) (fun hb16 => ?_)
    · have h := h.1 hb16
      refine jx_iload 99 hX 3 rfl dX2_findPeriod_97 rfl (jx_aload_n 100 hX 0 rfl rfl dX2_findPeriod_99 rfl ?_)
      obtain ⟨hc17, h⟩ := h
      refine jx_getI 103 hX jf_X2_28 rfl hc17 dX2_findPeriod_100 rfl (jx_sipush 106 hX 1440 (by decide) dX2_findPeriod_103 rfl (jx_imul 107 hX dX2_findPeriod_106 rfl (jx_iadd 108 hX dX2_findPeriod_107 rfl (jx_goto 113 hX dX2_findPeriod_108 (by decide) ?_))))
      exact jx_sub [1] rfl (b113 a1 a1 (a4 + ((s15.1 a0 5) * 1440)) s15 h)
    · have h := h.2 hb16
      refine jx_iload 93 hX 3 rfl dX2_findPeriod_91 rfl (jx_iload_n 94 hX 2 rfl rfl dX2_findPeriod_93 rfl ?_)
      refine jx_icmp_gt 97 111 hX dX2_findPeriod_94 rfl (by decide) (fun hb18 => ?_) (fun hb18 => ?_)
      · have h := h.1 hb18
        refine jx_iload 113 hX 3 rfl dX2_findPeriod_111 rfl ?_
        exact jx_sub [1] rfl (b113 a1 a1 a4 s15 h)
      · have h := h.2 hb18
        refine jx_iload 99 hX 3 rfl dX2_findPeriod_97 rfl (jx_aload_n 100 hX 0 rfl rfl dX2_findPeriod_99 rfl ?_)
        obtain ⟨hc19, h⟩ := h
        refine jx_getI 103 hX jf_X2_28 rfl hc19 dX2_findPeriod_100 rfl (jx_sipush 106 hX 1440 (by decide) dX2_findPeriod_103 rfl (jx_imul 107 hX dX2_findPeriod_106 rfl (jx_iadd 108 hX dX2_findPeriod_107 rfl (jx_goto 113 hX dX2_findPeriod_108 (by decide) ?_))))
        exact jx_sub [1] rfl (b113 a1 a1 (a4 + ((s15.1 a0 5) * 1440)) s15 h)
  have b60 : ∀ (a0 : Nat) (a1 : Nat) (a3 : Int32) (a4 : Int32) (k0 : Int32) (s : jx_St), wX2_findPeriod_b60 post a0 a1 a3 a4 k0 s → jx_J D jx_LX X 60 [(0, .ref (D.2.1 a0)), (1, .ref (D.2.1 a1)), (3, .int a3), (4, .int a4)] [.int k0] s := by
    intro a0 a1 a3 a4 k0 s h
    unfold wX2_findPeriod_b60 at h
    refine jx_istore 62 hX [(5, .int k0), (0, .ref (D.2.1 a0)), (1, .ref (D.2.1 a1)), (3, .int a3), (4, .int a4)] (by decide) rfl dX2_findPeriod_60 rfl (jx_aload_n 63 hX 2 rfl rfl dX2_findPeriod_62 rfl (jx_iload 65 hX 0 rfl dX2_findPeriod_63 rfl ?_))
    refine jx_if_eq 68 81 hX dX2_findPeriod_65 rfl (by decide) (fun hb12 => ?_) (fun hb12 => ?_)
    · have h := h.1 hb12
      refine jx_iload_n 82 hX 3 rfl rfl dX2_findPeriod_81 rfl ?_
      exact jx_sub [1, 2, 3, 4, 0] rfl (b82 a0 a1 a3 a4 k0 a1 a3 s h)
    · have h := h.2 hb12
      refine jx_iload_n 69 hX 3 rfl rfl dX2_findPeriod_68 rfl (jx_aload_n 70 hX 1 rfl rfl dX2_findPeriod_69 rfl ?_)
      obtain ⟨hc13, h⟩ := h
      refine jx_getI 73 hX jf_X2_28 rfl hc13 dX2_findPeriod_70 rfl (jx_sipush 76 hX 1440 (by decide) dX2_findPeriod_73 rfl (jx_imul 77 hX dX2_findPeriod_76 rfl (jx_iadd 78 hX dX2_findPeriod_77 rfl (jx_goto 82 hX dX2_findPeriod_78 (by decide) ?_))))
      exact jx_sub [1, 2, 3, 4, 0] rfl (b82 a0 a1 a3 a4 k0 a1 (a3 + ((s.1 a0 5) * 1440)) s h)
  unfold wX2_findPeriod at h
  refine jx_aload_n 1 hX 0 rfl rfl dX2_findPeriod_0 rfl (jx_iconst 2 hX 0 (by decide) dX2_findPeriod_1 rfl (jx_bipush 4 hX 23 (by decide) dX2_findPeriod_2 rfl ?_))
  obtain ⟨hc1, h⟩ := h
  refine jx_callVi 7 hX (mX2_hourAt _ D _ a0 0 23 s h) jv_X2_191 jn_2 hc1 ⟨rfl, rfl, by decide, by decide⟩ rfl rfl (Nat.le_of_ble_eq_true rfl) dX2_findPeriod_4 rfl (fun r2 s3 h => ?_)
  refine jx_istore_n 8 hX [(3, .int r2), (0, .ref (D.2.1 a0)), (1, .ref (D.2.1 a1)), (2, .int a2)] rfl (by decide) rfl dX2_findPeriod_7 rfl (jx_aload_n 9 hX 1 rfl rfl dX2_findPeriod_8 rfl (jx_iconst 10 hX 5 (by decide) dX2_findPeriod_9 rfl (jx_bipush 12 hX 24 (by decide) dX2_findPeriod_10 rfl ?_)))
  refine jx_callVi 15 hX (mX2_hourAt _ D _ a0 5 24 s3 h) jv_X2_191 jn_2 hc1 ⟨rfl, rfl, by decide, by decide⟩ rfl rfl (Nat.le_of_ble_eq_true rfl) dX2_findPeriod_12 rfl (fun r4 s5 h => ?_)
  refine jx_istore 17 hX [(4, .int r4), (3, .int r2), (0, .ref (D.2.1 a0)), (1, .ref (D.2.1 a1)), (2, .int a2)] (by decide) rfl dX2_findPeriod_15 rfl (jx_aload_n 18 hX 2 rfl rfl dX2_findPeriod_17 rfl (jx_getI 21 hX jf_X2_22 rfl hc1 dX2_findPeriod_18 rfl (jx_bipush 23 hX 9 (by decide) dX2_findPeriod_21 rfl ?_)))
  refine jx_icmp_ne 26 48 hX dX2_findPeriod_23 rfl (by decide) (fun hb6 => ?_) (fun hb6 => ?_)
  · have h := h.1 hb6
    refine jx_iconst 49 hX 0 (by decide) dX2_findPeriod_48 rfl ?_
    exact jx_zret hX dX2_findPeriod_49 (by decide) h
  · have h := h.2 hb6
    refine jx_aload_n 27 hX 2 rfl rfl dX2_findPeriod_26 rfl (jx_getR 30 hX jf_X2_25 rfl hc1 dX2_findPeriod_27 rfl (jx_iconst 31 hX 4 (by decide) dX2_findPeriod_30 rfl ?_))
    obtain ⟨hc7, h⟩ := h
    refine jx_caload 32 hX hc7 dX2_findPeriod_31 rfl (jx_bipush 34 hX 47 (by decide) dX2_findPeriod_32 rfl ?_)
    refine jx_icmp_ne 37 48 hX dX2_findPeriod_34 rfl (by decide) (fun hb8 => ?_) (fun hb8 => ?_)
    · have h := h.1 hb8
      refine jx_iconst 49 hX 0 (by decide) dX2_findPeriod_48 rfl ?_
      exact jx_zret hX dX2_findPeriod_49 (by decide) h
    · have h := h.2 hb8
      refine jx_iload_n 38 hX 1 rfl rfl dX2_findPeriod_37 rfl (jx_iconst 39 hX (-1) (by decide) dX2_findPeriod_38 rfl ?_)
      refine jx_icmp_eq 42 48 hX dX2_findPeriod_39 rfl (by decide) (fun hb9 => ?_) (fun hb9 => ?_)
      · have h := h.1 hb9
        refine jx_iconst 49 hX 0 (by decide) dX2_findPeriod_48 rfl ?_
        exact jx_zret hX dX2_findPeriod_49 (by decide) h
      · have h := h.2 hb9
        refine jx_iload 44 hX 0 rfl dX2_findPeriod_42 rfl (jx_iconst 45 hX (-1) (by decide) dX2_findPeriod_44 rfl ?_)
        refine jx_icmp_ne 48 50 hX dX2_findPeriod_45 rfl (by decide) (fun hb10 => ?_) (fun hb10 => ?_)
        · have h := h.1 hb10
          refine jx_iload_n 51 hX 1 rfl rfl dX2_findPeriod_50 rfl (jx_iload_n 52 hX 4 rfl rfl dX2_findPeriod_51 rfl ?_)
          refine jx_icmp_ge 55 59 hX dX2_findPeriod_52 rfl (by decide) (fun hb11 => ?_) (fun hb11 => ?_)
          · have h := h.1 hb11
            refine jx_iconst 60 hX 0 (by decide) dX2_findPeriod_59 rfl ?_
            exact jx_sub [2, 3, 1, 0] rfl (b60 a0 a1 r2 r4 0 s5 h)
          · have h := h.2 hb11
            refine jx_iconst 56 hX 1 (by decide) dX2_findPeriod_55 rfl (jx_goto 60 hX dX2_findPeriod_56 (by decide) ?_)
            exact jx_sub [2, 3, 1, 0] rfl (b60 a0 a1 r2 r4 1 s5 h)
        · have h := h.2 hb10
          refine jx_iconst 49 hX 0 (by decide) dX2_findPeriod_48 rfl ?_
          exact jx_zret hX dX2_findPeriod_49 (by decide) h
set_option maxHeartbeats 4000000 in
set_option maxRecDepth 100000 in
theorem mX2_layerNumber (l : Launch) (D : jx_Dt) (post : Int32 → jx_St → Prop) (a0 : Nat) (s : jx_St) (h : wX2_layerNumber post a0 s) : jx_Met l yX2_layerNumber cX2_layerNumber 6 (some .int) (jx_r 6 164) D jx_LX [.ref (D.2.1 a0)] s (jx_Qi D jx_LX post) := by
  refine jx_ofJ (by decide) (Nat.le_of_ble_eq_true rfl) (fun X hl hX => ?_)
  subst hl
  replace hX : jx_K D jx_LX X cX2_layerNumber RX2 6 (some .int) (jx_r 6 164) (jx_Qi D jx_LX post) := hX
  show jx_J D jx_LX X 0 [(0, .ref (D.2.1 a0))] [] s
  have l105 : ∀ (n : Nat) (a0 : Nat) (a1 : Int32) (a4 : Int32) (a5 : Int32) (s : jx_St), wX2_layerNumber_l105 post n a0 a1 a4 a5 s → jx_J D jx_LX X 105 [(0, .ref (D.2.1 a0)), (1, .int a1), (4, .int a4), (5, .int a5)] [] s := by
    intro n
    induction n with
    | zero => intro a0 a1 a4 a5 s h; exact h.elim
    | succ n ih =>
      intro a0 a1 a4 a5 s h
      rw [wX2_layerNumber_l105] at h
      refine jx_iload 107 hX 3 rfl dX2_layerNumber_105 rfl (jx_iconst 108 hX 2 (by decide) dX2_layerNumber_107 rfl (jx_iadd 109 hX dX2_layerNumber_108 rfl (jx_ldcW 112 hX 11 (by decide) rfl dX2_layerNumber_109 rfl (jx_slen 115 hX (by decide) jv_X2_258 (by decide) (Nat.le_of_ble_eq_true rfl) dX2_layerNumber_112 rfl ?_))))
      refine jx_icmp_ge 118 198 hX dX2_layerNumber_115 rfl (by decide) (fun hb22 => ?_) (fun hb22 => ?_)
      · have h := h.1 hb22
        refine jx_iconst 199 hX (-1) (by decide) dX2_layerNumber_198 rfl ?_
        exact jx_iret hX dX2_layerNumber_199 h
      · have h := h.2 hb22
        refine jx_aload_n 119 hX 0 rfl rfl dX2_layerNumber_118 rfl ?_
        obtain ⟨hc23, h⟩ := h
        refine jx_getR 122 hX jf_X2_25 rfl hc23 dX2_layerNumber_119 rfl (jx_iconst 123 hX 0 (by decide) dX2_layerNumber_122 rfl ?_)
        obtain ⟨hc24, h⟩ := h
        refine jx_caload 124 hX hc24 dX2_layerNumber_123 rfl (jx_ldcW 127 hX 11 (by decide) rfl dX2_layerNumber_124 rfl (jx_iload 129 hX 3 rfl dX2_layerNumber_127 rfl ?_))
        obtain ⟨hc25, h⟩ := h
        refine jx_scat 132 hX (by decide) hc25 jv_X2_262 (by decide) (Nat.le_of_ble_eq_true rfl) dX2_layerNumber_129 rfl ?_
        refine jx_icmp_ne 135 192 hX dX2_layerNumber_132 rfl (by decide) (fun hb26 => ?_) (fun hb26 => ?_)
        · have h := h.1 hb26
          obtain ⟨x27, hx27⟩ : ∃ y : Int32, y = a5 + 3 := ⟨_, rfl⟩
          have h := h x27 hx27
          refine jx_iinc 195 hX 3 x27 [(5, .int x27), (0, .ref (D.2.1 a0)), (1, .int a1), (4, .int a4)] rfl (by rw [hx27]; exact congrArg (fun z => a5 + z) (by decide)) (by decide) rfl dX2_layerNumber_192 rfl (jx_goto 105 hX dX2_layerNumber_195 (by decide) ?_)
          exact jx_sub [1, 2, 3, 0] rfl (ih a0 a1 a4 x27 s h)
        · have h := h.2 hb26
          refine jx_aload_n 136 hX 0 rfl rfl dX2_layerNumber_135 rfl (jx_getR 139 hX jf_X2_25 rfl hc23 dX2_layerNumber_136 rfl (jx_iconst 140 hX 1 (by decide) dX2_layerNumber_139 rfl ?_))
          obtain ⟨hc28, h⟩ := h
          refine jx_caload 141 hX hc28 dX2_layerNumber_140 rfl (jx_ldcW 144 hX 11 (by decide) rfl dX2_layerNumber_141 rfl (jx_iload 146 hX 3 rfl dX2_layerNumber_144 rfl (jx_iconst 147 hX 1 (by decide) dX2_layerNumber_146 rfl (jx_iadd 148 hX dX2_layerNumber_147 rfl ?_))))
          obtain ⟨hc29, h⟩ := h
          refine jx_scat 151 hX (by decide) hc29 jv_X2_262 (by decide) (Nat.le_of_ble_eq_true rfl) dX2_layerNumber_148 rfl ?_
          refine jx_icmp_ne 154 192 hX dX2_layerNumber_151 rfl (by decide) (fun hb30 => ?_) (fun hb30 => ?_)
          · have h := h.1 hb30
            obtain ⟨x31, hx31⟩ : ∃ y : Int32, y = a5 + 3 := ⟨_, rfl⟩
            have h := h x31 hx31
            refine jx_iinc 195 hX 3 x31 [(5, .int x31), (0, .ref (D.2.1 a0)), (1, .int a1), (4, .int a4)] rfl (by rw [hx31]; exact congrArg (fun z => a5 + z) (by decide)) (by decide) rfl dX2_layerNumber_192 rfl (jx_goto 105 hX dX2_layerNumber_195 (by decide) ?_)
            exact jx_sub [1, 2, 3, 0] rfl (ih a0 a1 a4 x31 s h)
          · have h := h.2 hb30
            refine jx_aload_n 155 hX 0 rfl rfl dX2_layerNumber_154 rfl (jx_getR 158 hX jf_X2_25 rfl hc23 dX2_layerNumber_155 rfl (jx_iconst 159 hX 2 (by decide) dX2_layerNumber_158 rfl ?_))
            obtain ⟨hc32, h⟩ := h
            refine jx_caload 160 hX hc32 dX2_layerNumber_159 rfl (jx_ldcW 163 hX 11 (by decide) rfl dX2_layerNumber_160 rfl (jx_iload 165 hX 3 rfl dX2_layerNumber_163 rfl (jx_iconst 166 hX 2 (by decide) dX2_layerNumber_165 rfl (jx_iadd 167 hX dX2_layerNumber_166 rfl ?_))))
            obtain ⟨hc33, h⟩ := h
            refine jx_scat 170 hX (by decide) hc33 jv_X2_262 (by decide) (Nat.le_of_ble_eq_true rfl) dX2_layerNumber_167 rfl ?_
            refine jx_icmp_ne 173 192 hX dX2_layerNumber_170 rfl (by decide) (fun hb34 => ?_) (fun hb34 => ?_)
            · have h := h.1 hb34
              obtain ⟨x35, hx35⟩ : ∃ y : Int32, y = a5 + 3 := ⟨_, rfl⟩
              have h := h x35 hx35
              refine jx_iinc 195 hX 3 x35 [(5, .int x35), (0, .ref (D.2.1 a0)), (1, .int a1), (4, .int a4)] rfl (by rw [hx35]; exact congrArg (fun z => a5 + z) (by decide)) (by decide) rfl dX2_layerNumber_192 rfl (jx_goto 105 hX dX2_layerNumber_195 (by decide) ?_)
              exact jx_sub [1, 2, 3, 0] rfl (ih a0 a1 a4 x35 s h)
            · have h := h.2 hb34
              refine jx_iload 175 hX 3 rfl dX2_layerNumber_173 rfl (jx_iconst 176 hX 3 (by decide) dX2_layerNumber_175 rfl (jx_idiv 177 hX (by decide) dX2_layerNumber_176 rfl (jx_iconst 178 hX 1 (by decide) dX2_layerNumber_177 rfl (jx_iadd 179 hX dX2_layerNumber_178 rfl (jx_bipush 181 hX 8 (by decide) dX2_layerNumber_179 rfl ?_)))))
              refine jx_iload_n 182 hX 1 rfl rfl dX2_layerNumber_181 rfl (jx_imul 183 hX dX2_layerNumber_182 rfl (jx_iadd 184 hX dX2_layerNumber_183 rfl (jx_sipush 187 hX 8192 (by decide) dX2_layerNumber_184 rfl (jx_iload 189 hX 2 rfl dX2_layerNumber_187 rfl (jx_imul 190 hX dX2_layerNumber_189 rfl ?_)))))
              refine jx_iadd 191 hX dX2_layerNumber_190 rfl ?_
              exact jx_iret hX dX2_layerNumber_191 h
  have b83 : ∀ (a0 : Nat) (a1 : Int32) (a2 : Int32) (a3 : Int32) (s : jx_St), wX2_layerNumber_b83 post a0 a1 a2 a3 s → jx_J D jx_LX X 83 [(0, .ref (D.2.1 a0)), (1, .int a1), (2, .int a2), (3, .int a3)] [] s := by
    intro a0 a1 a2 a3 s h
    unfold wX2_layerNumber_b83 at h
    refine jx_iload_n 84 hX 2 rfl rfl dX2_layerNumber_83 rfl ?_
    refine jx_if_eq 87 91 hX dX2_layerNumber_84 rfl (by decide) (fun hb20 => ?_) (fun hb20 => ?_)
    · have h := h.1 hb20
      refine jx_iload_n 92 hX 3 rfl rfl dX2_layerNumber_91 rfl ?_
      refine jx_if_eq 95 99 hX dX2_layerNumber_92 rfl (by decide) (fun hb21 => ?_) (fun hb21 => ?_)
      · have h := h.1 hb21
        refine jx_iconst 100 hX 0 (by decide) dX2_layerNumber_99 rfl (jx_istore 102 hX [(4, .int 0), (0, .ref (D.2.1 a0)), (1, .int a1), (2, .int a2), (3, .int a3)] (by decide) rfl dX2_layerNumber_100 rfl (jx_iconst 103 hX 0 (by decide) dX2_layerNumber_102 rfl (jx_istore 105 hX [(5, .int 0), (4, .int 0), (0, .ref (D.2.1 a0)), (1, .int a1), (2, .int a2), (3, .int a3)] (by decide) rfl dX2_layerNumber_103 rfl ?_)))
        obtain ⟨n_, h⟩ := h
        exact jx_sub [2, 3, 1, 0] rfl (l105 n_ a0 a1 0 0 s h)
      · have h := h.2 hb21
        refine jx_iconst 96 hX 2 (by decide) dX2_layerNumber_95 rfl (jx_goto 100 hX dX2_layerNumber_96 (by decide) (jx_istore 102 hX [(4, .int 2), (0, .ref (D.2.1 a0)), (1, .int a1), (2, .int a2), (3, .int a3)] (by decide) rfl dX2_layerNumber_100 rfl (jx_iconst 103 hX 0 (by decide) dX2_layerNumber_102 rfl (jx_istore 105 hX [(5, .int 0), (4, .int 2), (0, .ref (D.2.1 a0)), (1, .int a1), (2, .int a2), (3, .int a3)] (by decide) rfl dX2_layerNumber_103 rfl ?_))))
        obtain ⟨n_, h⟩ := h
        exact jx_sub [2, 3, 1, 0] rfl (l105 n_ a0 a1 2 0 s h)
    · have h := h.2 hb20
      refine jx_iconst 88 hX 1 (by decide) dX2_layerNumber_87 rfl (jx_goto 100 hX dX2_layerNumber_88 (by decide) (jx_istore 102 hX [(4, .int 1), (0, .ref (D.2.1 a0)), (1, .int a1), (2, .int a2), (3, .int a3)] (by decide) rfl dX2_layerNumber_100 rfl (jx_iconst 103 hX 0 (by decide) dX2_layerNumber_102 rfl (jx_istore 105 hX [(5, .int 0), (4, .int 1), (0, .ref (D.2.1 a0)), (1, .int a1), (2, .int a2), (3, .int a3)] (by decide) rfl dX2_layerNumber_103 rfl ?_))))
      obtain ⟨n_, h⟩ := h
      exact jx_sub [2, 3, 1, 0] rfl (l105 n_ a0 a1 1 0 s h)
  have b58 : ∀ (a0 : Nat) (a1 : Int32) (a2 : Int32) (k0 : Int32) (s : jx_St), wX2_layerNumber_b58 post a0 a1 a2 k0 s → jx_J D jx_LX X 58 [(0, .ref (D.2.1 a0)), (1, .int a1), (2, .int a2)] [.int k0] s := by
    intro a0 a1 a2 k0 s h
    unfold wX2_layerNumber_b58 at h
    refine jx_istore_n 59 hX [(3, .int k0), (0, .ref (D.2.1 a0)), (1, .int a1), (2, .int a2)] rfl (by decide) rfl dX2_layerNumber_58 rfl (jx_iload_n 60 hX 2 rfl rfl dX2_layerNumber_59 rfl (jx_iconst 61 hX (-1) (by decide) dX2_layerNumber_60 rfl ?_))
    refine jx_icmp_eq 64 81 hX dX2_layerNumber_61 rfl (by decide) (fun hb15 => ?_) (fun hb15 => ?_)
    · have h := h.1 hb15
      refine jx_iconst 82 hX (-1) (by decide) dX2_layerNumber_81 rfl ?_
      exact jx_iret hX dX2_layerNumber_82 h
    · have h := h.2 hb15
      refine jx_aload_n 65 hX 1 rfl rfl dX2_layerNumber_64 rfl ?_
      obtain ⟨hc16, h⟩ := h
      refine jx_getI 68 hX jf_X2_22 rfl hc16 dX2_layerNumber_65 rfl (jx_bipush 70 hX 6 (by decide) dX2_layerNumber_68 rfl ?_)
      refine jx_icmp_eq 73 83 hX dX2_layerNumber_70 rfl (by decide) (fun hb17 => ?_) (fun hb17 => ?_)
      · have h := h.1 hb17
        exact jx_sub [1, 2, 3, 0] rfl (b83 a0 a1 a2 k0 s h)
      · have h := h.2 hb17
        refine jx_iload_n 74 hX 3 rfl rfl dX2_layerNumber_73 rfl ?_
        refine jx_if_ne 77 83 hX dX2_layerNumber_74 rfl (by decide) (fun hb18 => ?_) (fun hb18 => ?_)
        · have h := h.1 hb18
          exact jx_sub [1, 2, 3, 0] rfl (b83 a0 a1 a2 k0 s h)
        · have h := h.2 hb18
          refine jx_iload_n 78 hX 0 rfl rfl dX2_layerNumber_77 rfl ?_
          refine jx_if_ne 81 83 hX dX2_layerNumber_78 rfl (by decide) (fun hb19 => ?_) (fun hb19 => ?_)
          · have h := h.1 hb19
            exact jx_sub [1, 2, 3, 0] rfl (b83 a0 a1 a2 k0 s h)
          · have h := h.2 hb19
            refine jx_iconst 82 hX (-1) (by decide) dX2_layerNumber_81 rfl ?_
            exact jx_iret hX dX2_layerNumber_82 h
  have b32 : ∀ (a0 : Nat) (a1 : Int32) (k0 : Int32) (s : jx_St), wX2_layerNumber_b32 post a0 a1 k0 s → jx_J D jx_LX X 32 [(0, .ref (D.2.1 a0)), (1, .int a1)] [.int k0] s := by
    intro a0 a1 k0 s h
    unfold wX2_layerNumber_b32 at h
    refine jx_istore_n 33 hX [(2, .int k0), (0, .ref (D.2.1 a0)), (1, .int a1)] rfl (by decide) rfl dX2_layerNumber_32 rfl (jx_aload_n 34 hX 1 rfl rfl dX2_layerNumber_33 rfl ?_)
    obtain ⟨hc9, h⟩ := h
    refine jx_getI 37 hX jf_X2_22 rfl hc9 dX2_layerNumber_34 rfl (jx_bipush 39 hX 9 (by decide) dX2_layerNumber_37 rfl ?_)
    refine jx_icmp_ne 42 57 hX dX2_layerNumber_39 rfl (by decide) (fun hb10 => ?_) (fun hb10 => ?_)
    · have h := h.1 hb10
      refine jx_iconst 58 hX 0 (by decide) dX2_layerNumber_57 rfl ?_
      exact jx_sub [1, 2, 0] rfl (b58 a0 a1 k0 0 s h)
    · have h := h.2 hb10
      refine jx_aload_n 43 hX 1 rfl rfl dX2_layerNumber_42 rfl (jx_bipush 45 hX 6 (by decide) dX2_layerNumber_43 rfl (jx_ldcS 47 hX 10 (by decide) rfl dX2_layerNumber_45 rfl ?_))
      refine jx_callVi 50 hX (mX2_holds _ D _ a0 6 10 s h) jv_X2_196 jn_2 hc9 ⟨rfl, rfl, by decide, by decide⟩ rfl rfl (Nat.le_of_ble_eq_true rfl) dX2_layerNumber_47 rfl (fun r11 s12 h => ?_)
      obtain ⟨hz13, h⟩ := h
      have h := h hz13
      refine jx_if_eq 53 57 hX dX2_layerNumber_50 rfl (by decide) (fun hb14 => ?_) (fun hb14 => ?_)
      · have h := h.1 hb14
        refine jx_iconst 58 hX 0 (by decide) dX2_layerNumber_57 rfl ?_
        exact jx_sub [1, 2, 0] rfl (b58 a0 a1 k0 0 s12 h)
      · have h := h.2 hb14
        refine jx_iconst 54 hX 1 (by decide) dX2_layerNumber_53 rfl (jx_goto 58 hX dX2_layerNumber_54 (by decide) ?_)
        exact jx_sub [1, 2, 0] rfl (b58 a0 a1 k0 1 s12 h)
  unfold wX2_layerNumber at h
  refine jx_aload_n 1 hX 0 rfl rfl dX2_layerNumber_0 rfl (jx_iconst 2 hX 3 (by decide) dX2_layerNumber_1 rfl (jx_iconst 3 hX 3 (by decide) dX2_layerNumber_2 rfl ?_))
  obtain ⟨hc1, h⟩ := h
  refine jx_callVi 6 hX (mX2_digits _ D _ a0 3 3 s h) jv_X2_175 jn_2 hc1 ⟨rfl, rfl, by decide, by decide⟩ rfl rfl (Nat.le_of_ble_eq_true rfl) dX2_layerNumber_3 rfl (fun r2 s3 h => ?_)
  refine jx_istore_n 7 hX [(1, .int r2), (0, .ref (D.2.1 a0))] rfl (by decide) rfl dX2_layerNumber_6 rfl (jx_aload_n 8 hX 1 rfl rfl dX2_layerNumber_7 rfl (jx_getI 11 hX jf_X2_22 rfl hc1 dX2_layerNumber_8 rfl (jx_bipush 13 hX 8 (by decide) dX2_layerNumber_11 rfl ?_)))
  refine jx_icmp_ne 16 31 hX dX2_layerNumber_13 rfl (by decide) (fun hb4 => ?_) (fun hb4 => ?_)
  · have h := h.1 hb4
    refine jx_iconst 32 hX 0 (by decide) dX2_layerNumber_31 rfl ?_
    exact jx_sub [1, 0] rfl (b32 a0 r2 0 s3 h)
  · have h := h.2 hb4
    refine jx_aload_n 17 hX 1 rfl rfl dX2_layerNumber_16 rfl (jx_bipush 19 hX 6 (by decide) dX2_layerNumber_17 rfl (jx_ldcS 21 hX 9 (by decide) rfl dX2_layerNumber_19 rfl ?_))
    refine jx_callVi 24 hX (mX2_holds _ D _ a0 6 9 s3 h) jv_X2_196 jn_2 hc1 ⟨rfl, rfl, by decide, by decide⟩ rfl rfl (Nat.le_of_ble_eq_true rfl) dX2_layerNumber_21 rfl (fun r5 s6 h => ?_)
    obtain ⟨hz7, h⟩ := h
    have h := h hz7
    refine jx_if_eq 27 31 hX dX2_layerNumber_24 rfl (by decide) (fun hb8 => ?_) (fun hb8 => ?_)
    · have h := h.1 hb8
      refine jx_iconst 32 hX 0 (by decide) dX2_layerNumber_31 rfl ?_
      exact jx_sub [1, 0] rfl (b32 a0 r2 0 s6 h)
    · have h := h.2 hb8
      refine jx_iconst 28 hX 1 (by decide) dX2_layerNumber_27 rfl (jx_goto 32 hX dX2_layerNumber_28 (by decide) ?_)
      exact jx_sub [1, 0] rfl (b32 a0 r2 1 s6 h)
set_option maxHeartbeats 4000000 in
set_option maxRecDepth 100000 in
theorem mX2_pairAt (l : Launch) (D : jx_Dt) (post : Int32 → jx_St → Prop) (a0 : Nat) (a1 : Int32) (a2 : Nat) (s : jx_St) (h : wX2_pairAt post a0 a1 a2 s) : jx_Met l yX2_pairAt cX2_pairAt 4 (some .int) (jx_r 5 141) D jx_LX [.ref (D.2.1 a0), .int a1, .ref (D.2.2.2.1 a2)] s (jx_Qi D jx_LX post) := by
  refine jx_ofJ (by decide) (Nat.le_of_ble_eq_true rfl) (fun X hl hX => ?_)
  subst hl
  replace hX : jx_K D jx_LX X cX2_pairAt RX2 4 (some .int) (jx_r 5 141) (jx_Qi D jx_LX post) := hX
  show jx_J D jx_LX X 0 [(0, .ref (D.2.1 a0)), (1, .int a1), (2, .ref (D.2.2.2.1 a2))] [] s
  have l16 : ∀ (n : Nat) (a0 : Nat) (a1 : Int32) (a2 : Nat) (a3 : Int32) (s : jx_St), wX2_pairAt_l16 post n a0 a1 a2 a3 s → jx_J D jx_LX X 16 [(0, .ref (D.2.1 a0)), (1, .int a1), (2, .ref (D.2.2.2.1 a2)), (3, .int a3)] [] s := by
    intro n
    induction n with
    | zero => intro a0 a1 a2 a3 s h; exact h.elim
    | succ n ih =>
      intro a0 a1 a2 a3 s h
      rw [wX2_pairAt_l16] at h
      refine jx_iload_n 17 hX 3 rfl rfl dX2_pairAt_16 rfl (jx_iconst 18 hX 1 (by decide) dX2_pairAt_17 rfl (jx_iadd 19 hX dX2_pairAt_18 rfl (jx_aload_n 20 hX 2 rfl rfl dX2_pairAt_19 rfl ?_)))
      obtain ⟨hc3, h⟩ := h
      refine jx_slen 23 hX hc3 jv_X2_258 (by decide) (Nat.le_of_ble_eq_true rfl) dX2_pairAt_20 rfl ?_
      refine jx_icmp_ge 26 68 hX dX2_pairAt_23 rfl (by decide) (fun hb4 => ?_) (fun hb4 => ?_)
      · have h := h.1 hb4
        refine jx_iconst 69 hX (-1) (by decide) dX2_pairAt_68 rfl ?_
        exact jx_iret hX dX2_pairAt_69 h
      · have h := h.2 hb4
        refine jx_aload_n 27 hX 0 rfl rfl dX2_pairAt_26 rfl ?_
        obtain ⟨hc5, h⟩ := h
        refine jx_getR 30 hX jf_X2_25 rfl hc5 dX2_pairAt_27 rfl (jx_iload_n 31 hX 1 rfl rfl dX2_pairAt_30 rfl ?_)
        obtain ⟨hc6, h⟩ := h
        refine jx_caload 32 hX hc6 dX2_pairAt_31 rfl (jx_aload_n 33 hX 2 rfl rfl dX2_pairAt_32 rfl (jx_iload_n 34 hX 3 rfl rfl dX2_pairAt_33 rfl ?_))
        obtain ⟨hc7, h⟩ := h
        refine jx_scat 37 hX hc3 hc7 jv_X2_262 (by decide) (Nat.le_of_ble_eq_true rfl) dX2_pairAt_34 rfl ?_
        refine jx_icmp_ne 40 62 hX dX2_pairAt_37 rfl (by decide) (fun hb8 => ?_) (fun hb8 => ?_)
        · have h := h.1 hb8
          obtain ⟨x9, hx9⟩ : ∃ y : Int32, y = a3 + 2 := ⟨_, rfl⟩
          have h := h x9 hx9
          refine jx_iinc 65 hX 3 x9 [(3, .int x9), (0, .ref (D.2.1 a0)), (1, .int a1), (2, .ref (D.2.2.2.1 a2))] rfl (by rw [hx9]; exact congrArg (fun z => a3 + z) (by decide)) (by decide) rfl dX2_pairAt_62 rfl (jx_goto 16 hX dX2_pairAt_65 (by decide) ?_)
          exact jx_sub [1, 2, 3, 0] rfl (ih a0 a1 a2 x9 s h)
        · have h := h.2 hb8
          refine jx_aload_n 41 hX 0 rfl rfl dX2_pairAt_40 rfl (jx_getR 44 hX jf_X2_25 rfl hc5 dX2_pairAt_41 rfl (jx_iload_n 45 hX 1 rfl rfl dX2_pairAt_44 rfl (jx_iconst 46 hX 1 (by decide) dX2_pairAt_45 rfl (jx_iadd 47 hX dX2_pairAt_46 rfl ?_))))
          obtain ⟨hc10, h⟩ := h
          refine jx_caload 48 hX hc10 dX2_pairAt_47 rfl (jx_aload_n 49 hX 2 rfl rfl dX2_pairAt_48 rfl (jx_iload_n 50 hX 3 rfl rfl dX2_pairAt_49 rfl (jx_iconst 51 hX 1 (by decide) dX2_pairAt_50 rfl (jx_iadd 52 hX dX2_pairAt_51 rfl ?_))))
          obtain ⟨hc11, h⟩ := h
          refine jx_scat 55 hX hc3 hc11 jv_X2_262 (by decide) (Nat.le_of_ble_eq_true rfl) dX2_pairAt_52 rfl ?_
          refine jx_icmp_ne 58 62 hX dX2_pairAt_55 rfl (by decide) (fun hb12 => ?_) (fun hb12 => ?_)
          · have h := h.1 hb12
            obtain ⟨x13, hx13⟩ : ∃ y : Int32, y = a3 + 2 := ⟨_, rfl⟩
            have h := h x13 hx13
            refine jx_iinc 65 hX 3 x13 [(3, .int x13), (0, .ref (D.2.1 a0)), (1, .int a1), (2, .ref (D.2.2.2.1 a2))] rfl (by rw [hx13]; exact congrArg (fun z => a3 + z) (by decide)) (by decide) rfl dX2_pairAt_62 rfl (jx_goto 16 hX dX2_pairAt_65 (by decide) ?_)
            exact jx_sub [1, 2, 3, 0] rfl (ih a0 a1 a2 x13 s h)
          · have h := h.2 hb12
            refine jx_iload_n 59 hX 3 rfl rfl dX2_pairAt_58 rfl (jx_iconst 60 hX 2 (by decide) dX2_pairAt_59 rfl (jx_idiv 61 hX (by decide) dX2_pairAt_60 rfl ?_))
            exact jx_iret hX dX2_pairAt_61 h
  unfold wX2_pairAt at h
  refine jx_iload_n 1 hX 1 rfl rfl dX2_pairAt_0 rfl ?_
  refine jx_if_lt 4 12 hX dX2_pairAt_1 rfl (by decide) (fun hb1 => ?_) (fun hb1 => ?_)
  · have h := h.1 hb1
    refine jx_iconst 13 hX (-1) (by decide) dX2_pairAt_12 rfl ?_
    exact jx_iret hX dX2_pairAt_13 h
  · have h := h.2 hb1
    refine jx_iload_n 5 hX 1 rfl rfl dX2_pairAt_4 rfl (jx_iconst 6 hX 2 (by decide) dX2_pairAt_5 rfl (jx_iadd 7 hX dX2_pairAt_6 rfl (jx_bipush 9 hX 16 (by decide) dX2_pairAt_7 rfl ?_)))
    refine jx_icmp_le 12 14 hX dX2_pairAt_9 rfl (by decide) (fun hb2 => ?_) (fun hb2 => ?_)
    · have h := h.1 hb2
      refine jx_iconst 15 hX 0 (by decide) dX2_pairAt_14 rfl (jx_istore_n 16 hX [(3, .int 0), (0, .ref (D.2.1 a0)), (1, .int a1), (2, .ref (D.2.2.2.1 a2))] rfl (by decide) rfl dX2_pairAt_15 rfl ?_)
      obtain ⟨n_, h⟩ := h
      exact jx_sub [1, 2, 3, 0] rfl (l16 n_ a0 a1 a2 0 s h)
    · have h := h.2 hb2
      refine jx_iconst 13 hX (-1) (by decide) dX2_pairAt_12 rfl ?_
      exact jx_iret hX dX2_pairAt_13 h
set_option maxHeartbeats 4000000 in
set_option maxRecDepth 100000 in
theorem mX2_takeToken (l : Launch) (D : jx_Dt) (post : Int32 → jx_St → Prop) (a0 : Nat) (s : jx_St) (h : wX2_takeToken post a0 s) : jx_Met l yX2_takeToken cX2_takeToken 4 (some .boolean) (jx_r 0 0) D jx_LX [.ref (D.2.1 a0)] s (jx_Qi D jx_LX (fun r u => (r = 0 ∨ r = 1) ∧ post r u)) := by
  refine jx_ofJ (by decide) (Nat.le_of_ble_eq_true rfl) (fun X hl hX => ?_)
  subst hl
  replace hX : jx_K D jx_LX X cX2_takeToken RX2 4 (some .boolean) (jx_r 0 0) (jx_Qi D jx_LX (fun r u => (r = 0 ∨ r = 1) ∧ post r u)) := hX
  show jx_J D jx_LX X 0 [(0, .ref (D.2.1 a0))] [] s
  have l76 : ∀ (n : Nat) (a0 : Nat) (a1 : Int32) (a3 : Int32) (s : jx_St), wX2_takeToken_l76 post n a0 a1 a3 s → jx_J D jx_LX X 76 [(0, .ref (D.2.1 a0)), (1, .int a1), (3, .int a3)] [] s := by
    intro n
    induction n with
    | zero => intro a0 a1 a3 s h; exact h.elim
    | succ n ih =>
      intro a0 a1 a3 s h
      rw [wX2_takeToken_l76] at h
      refine jx_iload_n 77 hX 2 rfl rfl dX2_takeToken_76 rfl (jx_bipush 79 hX 16 (by decide) dX2_takeToken_77 rfl ?_)
      refine jx_icmp_ge 82 114 hX dX2_takeToken_79 rfl (by decide) (fun hb16 => ?_) (fun hb16 => ?_)
      · have h := h.1 hb16
        refine jx_iconst 115 hX 1 (by decide) dX2_takeToken_114 rfl ?_
        exact jx_zret hX dX2_takeToken_115 (by decide) h
      · have h := h.2 hb16
        refine jx_aload_n 83 hX 0 rfl rfl dX2_takeToken_82 rfl ?_
        obtain ⟨hc17, h⟩ := h
        refine jx_getR 86 hX jf_X2_25 rfl hc17 dX2_takeToken_83 rfl (jx_iload_n 87 hX 2 rfl rfl dX2_takeToken_86 rfl (jx_iload_n 88 hX 2 rfl rfl dX2_takeToken_87 rfl (jx_aload_n 89 hX 0 rfl rfl dX2_takeToken_88 rfl (jx_getI 92 hX jf_X2_22 rfl hc17 dX2_takeToken_89 rfl ?_))))
        refine jx_icmp_ge 95 106 hX dX2_takeToken_92 rfl (by decide) (fun hb18 => ?_) (fun hb18 => ?_)
        · have h := h.1 hb18
          refine jx_iconst 107 hX 0 (by decide) dX2_takeToken_106 rfl ?_
          obtain ⟨hc19, h⟩ := h
          refine jx_castore 108 hX hc19 dX2_takeToken_107 rfl ?_
          refine jx_namu (fun s20 hs20 => ?_)
          have h := h s20 hs20
          obtain ⟨x21, hx21⟩ : ∃ y : Int32, y = a3 + 1 := ⟨_, rfl⟩
          have h := h x21 hx21
          refine jx_iinc 111 hX 2 x21 [(3, .int x21), (0, .ref (D.2.1 a0)), (1, .int a1)] rfl (by rw [hx21]; exact congrArg (fun z => a3 + z) (by decide)) (by decide) rfl dX2_takeToken_108 rfl (jx_goto 76 hX dX2_takeToken_111 (by decide) ?_)
          exact jx_sub [1, 2, 0] rfl (ih a0 a1 x21 s20 h)
        · have h := h.2 hb18
          refine jx_aload_n 96 hX 0 rfl rfl dX2_takeToken_95 rfl (jx_getR 99 hX jf_X2_9 rfl hc17 dX2_takeToken_96 rfl (jx_iload_n 100 hX 1 rfl rfl dX2_takeToken_99 rfl (jx_iload_n 101 hX 2 rfl rfl dX2_takeToken_100 rfl (jx_iadd 102 hX dX2_takeToken_101 rfl ?_))))
          obtain ⟨hc22, h⟩ := h
          refine jx_caload 103 hX hc22 dX2_takeToken_102 rfl (jx_goto 107 hX dX2_takeToken_103 (by decide) ?_)
          obtain ⟨hc23, h⟩ := h
          refine jx_castore 108 hX hc23 dX2_takeToken_107 rfl ?_
          refine jx_namu (fun s24 hs24 => ?_)
          have h := h s24 hs24
          obtain ⟨x25, hx25⟩ : ∃ y : Int32, y = a3 + 1 := ⟨_, rfl⟩
          have h := h x25 hx25
          refine jx_iinc 111 hX 2 x25 [(3, .int x25), (0, .ref (D.2.1 a0)), (1, .int a1)] rfl (by rw [hx25]; exact congrArg (fun z => a3 + z) (by decide)) (by decide) rfl dX2_takeToken_108 rfl (jx_goto 76 hX dX2_takeToken_111 (by decide) ?_)
          exact jx_sub [1, 2, 0] rfl (ih a0 a1 x25 s24 h)
  have b62 : ∀ (a0 : Nat) (a1 : Int32) (a2 : Int32) (s : jx_St), wX2_takeToken_b62 post a0 a1 a2 s → jx_J D jx_LX X 62 [(0, .ref (D.2.1 a0)), (1, .int a1), (2, .int a2)] [] s := by
    intro a0 a1 a2 s h
    unfold wX2_takeToken_b62 at h
    refine jx_aload_n 63 hX 0 rfl rfl dX2_takeToken_62 rfl (jx_iload_n 64 hX 1 rfl rfl dX2_takeToken_63 rfl ?_)
    obtain ⟨hc13, h⟩ := h
    refine jx_putI 67 hX jp_X2_19 rfl hc13 dX2_takeToken_64 rfl ?_
    refine jx_namu (fun s14 hs14 => ?_)
    have h := h s14 hs14
    refine jx_aload_n 68 hX 0 rfl rfl dX2_takeToken_67 rfl (jx_iload_n 69 hX 2 rfl rfl dX2_takeToken_68 rfl (jx_iload_n 70 hX 1 rfl rfl dX2_takeToken_69 rfl (jx_isub 71 hX dX2_takeToken_70 rfl (jx_putI 74 hX jp_X2_22 rfl hc13 dX2_takeToken_71 rfl ?_))))
    refine jx_namu (fun s15 hs15 => ?_)
    have h := h s15 hs15
    refine jx_iconst 75 hX 0 (by decide) dX2_takeToken_74 rfl (jx_istore_n 76 hX [(3, .int 0), (0, .ref (D.2.1 a0)), (1, .int a1), (2, .int a2)] rfl (by decide) rfl dX2_takeToken_75 rfl ?_)
    obtain ⟨n_, h⟩ := h
    exact jx_sub [1, 2, 0] rfl (l76 n_ a0 a1 0 s15 h)
  have l37 : ∀ (n : Nat) (a0 : Nat) (a1 : Int32) (a2 : Int32) (s : jx_St), wX2_takeToken_l37 post n a0 a1 a2 s → jx_J D jx_LX X 37 [(0, .ref (D.2.1 a0)), (1, .int a1), (2, .int a2)] [] s := by
    intro n
    induction n with
    | zero => intro a0 a1 a2 s h; exact h.elim
    | succ n ih =>
      intro a0 a1 a2 s h
      rw [wX2_takeToken_l37] at h
      refine jx_iload_n 38 hX 2 rfl rfl dX2_takeToken_37 rfl (jx_aload_n 39 hX 0 rfl rfl dX2_takeToken_38 rfl ?_)
      obtain ⟨hc8, h⟩ := h
      refine jx_getI 42 hX jf_X2_15 rfl hc8 dX2_takeToken_39 rfl ?_
      refine jx_icmp_ge 45 62 hX dX2_takeToken_42 rfl (by decide) (fun hb9 => ?_) (fun hb9 => ?_)
      · have h := h.1 hb9
        exact jx_sub [0, 1, 2] rfl (b62 a0 a1 a2 s h)
      · have h := h.2 hb9
        refine jx_aload_n 46 hX 0 rfl rfl dX2_takeToken_45 rfl (jx_getR 49 hX jf_X2_9 rfl hc8 dX2_takeToken_46 rfl (jx_iload_n 50 hX 2 rfl rfl dX2_takeToken_49 rfl ?_))
        obtain ⟨hc10, h⟩ := h
        refine jx_caload 51 hX hc10 dX2_takeToken_50 rfl (jx_bipush 53 hX 32 (by decide) dX2_takeToken_51 rfl ?_)
        refine jx_icmp_eq 56 62 hX dX2_takeToken_53 rfl (by decide) (fun hb11 => ?_) (fun hb11 => ?_)
        · have h := h.1 hb11
          exact jx_sub [0, 1, 2] rfl (b62 a0 a1 a2 s h)
        · have h := h.2 hb11
          obtain ⟨x12, hx12⟩ : ∃ y : Int32, y = a2 + 1 := ⟨_, rfl⟩
          have h := h x12 hx12
          refine jx_iinc 59 hX 2 x12 [(2, .int x12), (0, .ref (D.2.1 a0)), (1, .int a1)] rfl (by rw [hx12]; exact congrArg (fun z => a2 + z) (by decide)) (by decide) rfl dX2_takeToken_56 rfl (jx_goto 37 hX dX2_takeToken_59 (by decide) ?_)
          exact jx_sub [1, 2, 0] rfl (ih a0 a1 x12 s h)
  have l10 : ∀ (n : Nat) (a0 : Nat) (a1 : Int32) (s : jx_St), wX2_takeToken_l10 post n a0 a1 s → jx_J D jx_LX X 10 [(0, .ref (D.2.1 a0)), (1, .int a1)] [] s := by
    intro n
    induction n with
    | zero => intro a0 a1 s h; exact h.elim
    | succ n ih =>
      intro a0 a1 s h
      rw [wX2_takeToken_l10] at h
      refine jx_iload_n 11 hX 1 rfl rfl dX2_takeToken_10 rfl (jx_aload_n 12 hX 0 rfl rfl dX2_takeToken_11 rfl ?_)
      obtain ⟨hc3, h⟩ := h
      refine jx_getI 15 hX jf_X2_15 rfl hc3 dX2_takeToken_12 rfl ?_
      refine jx_icmp_ge 18 35 hX dX2_takeToken_15 rfl (by decide) (fun hb4 => ?_) (fun hb4 => ?_)
      · have h := h.1 hb4
        refine jx_iload_n 36 hX 1 rfl rfl dX2_takeToken_35 rfl (jx_istore_n 37 hX [(2, .int a1), (0, .ref (D.2.1 a0)), (1, .int a1)] rfl (by decide) rfl dX2_takeToken_36 rfl ?_)
        obtain ⟨n_, h⟩ := h
        exact jx_sub [1, 2, 0] rfl (l37 n_ a0 a1 a1 s h)
      · have h := h.2 hb4
        refine jx_aload_n 19 hX 0 rfl rfl dX2_takeToken_18 rfl (jx_getR 22 hX jf_X2_9 rfl hc3 dX2_takeToken_19 rfl (jx_iload_n 23 hX 1 rfl rfl dX2_takeToken_22 rfl ?_))
        obtain ⟨hc5, h⟩ := h
        refine jx_caload 24 hX hc5 dX2_takeToken_23 rfl (jx_bipush 26 hX 32 (by decide) dX2_takeToken_24 rfl ?_)
        refine jx_icmp_ne 29 35 hX dX2_takeToken_26 rfl (by decide) (fun hb6 => ?_) (fun hb6 => ?_)
        · have h := h.1 hb6
          refine jx_iload_n 36 hX 1 rfl rfl dX2_takeToken_35 rfl (jx_istore_n 37 hX [(2, .int a1), (0, .ref (D.2.1 a0)), (1, .int a1)] rfl (by decide) rfl dX2_takeToken_36 rfl ?_)
          obtain ⟨n_, h⟩ := h
          exact jx_sub [1, 2, 0] rfl (l37 n_ a0 a1 a1 s h)
        · have h := h.2 hb6
          obtain ⟨x7, hx7⟩ : ∃ y : Int32, y = a1 + 1 := ⟨_, rfl⟩
          have h := h x7 hx7
          refine jx_iinc 32 hX 1 x7 [(1, .int x7), (0, .ref (D.2.1 a0))] rfl (by rw [hx7]; exact congrArg (fun z => a1 + z) (by decide)) (by decide) rfl dX2_takeToken_29 rfl (jx_goto 10 hX dX2_takeToken_32 (by decide) ?_)
          exact jx_sub [1, 0] rfl (ih a0 x7 s h)
  unfold wX2_takeToken at h
  refine jx_aload_n 1 hX 0 rfl rfl dX2_takeToken_0 rfl ?_
  obtain ⟨hc1, h⟩ := h
  refine jx_getI 4 hX jf_X2_19 rfl hc1 dX2_takeToken_1 rfl (jx_aload_n 5 hX 0 rfl rfl dX2_takeToken_4 rfl (jx_getI 8 hX jf_X2_22 rfl hc1 dX2_takeToken_5 rfl (jx_iadd 9 hX dX2_takeToken_8 rfl ?_)))
  refine jx_topi (fun x2 hx2 => ?_)
  have h := h x2 hx2
  refine jx_istore_n 10 hX [(1, .int x2), (0, .ref (D.2.1 a0))] rfl (by decide) rfl dX2_takeToken_9 rfl ?_
  obtain ⟨n_, h⟩ := h
  exact jx_sub [1, 0] rfl (l10 n_ a0 x2 s h)
set_option maxHeartbeats 4000000 in
set_option maxRecDepth 100000 in
theorem mX2_takeWord (l : Launch) (D : jx_Dt) (post : Int32 → jx_St → Prop) (a0 : Nat) (a1 : Nat) (s : jx_St) (h : wX2_takeWord post a0 a1 s) : jx_Met l yX2_takeWord cX2_takeWord 2 (some .boolean) (jx_r 6 164) D jx_LX [.ref (D.2.1 a0), .ref (D.2.2.2.1 a1)] s (jx_Qi D jx_LX (fun r u => (r = 0 ∨ r = 1) ∧ post r u)) := by
  refine jx_ofJ (by decide) (Nat.le_of_ble_eq_true rfl) (fun X hl hX => ?_)
  subst hl
  replace hX : jx_K D jx_LX X cX2_takeWord RX2 2 (some .boolean) (jx_r 6 164) (jx_Qi D jx_LX (fun r u => (r = 0 ∨ r = 1) ∧ post r u)) := hX
  show jx_J D jx_LX X 0 [(0, .ref (D.2.1 a0)), (1, .ref (D.2.2.2.1 a1))] [] s
  unfold wX2_takeWord at h
  refine jx_aload_n 1 hX 0 rfl rfl dX2_takeWord_0 rfl ?_
  obtain ⟨hc1, h⟩ := h
  refine jx_getI 4 hX jf_X2_22 rfl hc1 dX2_takeWord_1 rfl (jx_aload_n 5 hX 1 rfl rfl dX2_takeWord_4 rfl ?_)
  obtain ⟨hc2, h⟩ := h
  refine jx_slen 8 hX hc2 jv_X2_258 (by decide) (Nat.le_of_ble_eq_true rfl) dX2_takeWord_5 rfl ?_
  refine jx_icmp_ne 11 31 hX dX2_takeWord_8 rfl (by decide) (fun hb3 => ?_) (fun hb3 => ?_)
  · have h := h.1 hb3
    refine jx_iconst 32 hX 0 (by decide) dX2_takeWord_31 rfl ?_
    exact jx_zret hX dX2_takeWord_32 (by decide) h
  · have h := h.2 hb3
    refine jx_aload_n 12 hX 0 rfl rfl dX2_takeWord_11 rfl (jx_iconst 13 hX 0 (by decide) dX2_takeWord_12 rfl (jx_aload_n 14 hX 1 rfl rfl dX2_takeWord_13 rfl ?_))
    refine jx_callVi 17 hX (mX2_holds _ D _ a0 0 a1 s h) jv_X2_196 jn_2 hc1 ⟨rfl, rfl, by decide, by decide⟩ rfl rfl (Nat.le_of_ble_eq_true rfl) dX2_takeWord_14 rfl (fun r4 s5 h => ?_)
    obtain ⟨hz6, h⟩ := h
    have h := h hz6
    refine jx_if_eq 20 31 hX dX2_takeWord_17 rfl (by decide) (fun hb7 => ?_) (fun hb7 => ?_)
    · have h := h.1 hb7
      refine jx_iconst 32 hX 0 (by decide) dX2_takeWord_31 rfl ?_
      exact jx_zret hX dX2_takeWord_32 (by decide) h
    · have h := h.2 hb7
      refine jx_aload_n 21 hX 0 rfl rfl dX2_takeWord_20 rfl ?_
      refine jx_callVi 24 hX (mX2_takeToken _ D _ a0 s5 h) jv_X2_51 jn_2 hc1 ⟨rfl, rfl, by decide, by decide⟩ rfl rfl (Nat.le_of_ble_eq_true rfl) dX2_takeWord_21 rfl (fun r8 s9 h => ?_)
      obtain ⟨hz10, h⟩ := h
      have h := h hz10
      refine jx_if_eq 27 31 hX dX2_takeWord_24 rfl (by decide) (fun hb11 => ?_) (fun hb11 => ?_)
      · have h := h.1 hb11
        refine jx_iconst 32 hX 0 (by decide) dX2_takeWord_31 rfl ?_
        exact jx_zret hX dX2_takeWord_32 (by decide) h
      · have h := h.2 hb11
        refine jx_iconst 28 hX 1 (by decide) dX2_takeWord_27 rfl (jx_goto 32 hX dX2_takeWord_28 (by decide) ?_)
        exact jx_zret hX dX2_takeWord_32 (by decide) h
set_option maxHeartbeats 4000000 in
set_option maxRecDepth 100000 in
theorem mX2_takeStation (l : Launch) (D : jx_Dt) (post : Int32 → jx_St → Prop) (a0 : Nat) (s : jx_St) (h : wX2_takeStation post a0 s) : jx_Met l yX2_takeStation cX2_takeStation 2 (some .boolean) (jx_r 1 23) D jx_LX [.ref (D.2.1 a0)] s (jx_Qi D jx_LX (fun r u => (r = 0 ∨ r = 1) ∧ post r u)) := by
  refine jx_ofJ (by decide) (Nat.le_of_ble_eq_true rfl) (fun X hl hX => ?_)
  subst hl
  replace hX : jx_K D jx_LX X cX2_takeStation RX2 2 (some .boolean) (jx_r 1 23) (jx_Qi D jx_LX (fun r u => (r = 0 ∨ r = 1) ∧ post r u)) := hX
  show jx_J D jx_LX X 0 [(0, .ref (D.2.1 a0))] [] s
  have l12 : ∀ (n : Nat) (a0 : Nat) (a1 : Int32) (s : jx_St), wX2_takeStation_l12 post n a0 a1 s → jx_J D jx_LX X 12 [(0, .ref (D.2.1 a0)), (1, .int a1)] [] s := by
    intro n
    induction n with
    | zero => intro a0 a1 s h; exact h.elim
    | succ n ih =>
      intro a0 a1 s h
      rw [wX2_takeStation_l12] at h
      refine jx_iload_n 13 hX 1 rfl rfl dX2_takeStation_12 rfl (jx_iconst 14 hX 4 (by decide) dX2_takeStation_13 rfl ?_)
      refine jx_icmp_ge 17 62 hX dX2_takeStation_14 rfl (by decide) (fun hb3 => ?_) (fun hb3 => ?_)
      · have h := h.1 hb3
        refine jx_aload_n 63 hX 0 rfl rfl dX2_takeStation_62 rfl ?_
        obtain ⟨hc4, h⟩ := h
        refine jx_callVi 66 hX (mX2_takeToken _ D _ a0 s h) jv_X2_51 jn_2 hc4 ⟨rfl, rfl, by decide, by decide⟩ rfl rfl (Nat.le_of_ble_eq_true rfl) dX2_takeStation_63 rfl (fun r5 s6 h => ?_)
        obtain ⟨hz7, h⟩ := h
        have h := h hz7
        exact jx_zret hX dX2_takeStation_66 hz7 h
      · have h := h.2 hb3
        refine jx_aload_n 18 hX 0 rfl rfl dX2_takeStation_17 rfl ?_
        obtain ⟨hc8, h⟩ := h
        refine jx_getR 21 hX jf_X2_25 rfl hc8 dX2_takeStation_18 rfl (jx_iload_n 22 hX 1 rfl rfl dX2_takeStation_21 rfl ?_)
        obtain ⟨hc9, h⟩ := h
        refine jx_caload 23 hX hc9 dX2_takeStation_22 rfl (jx_bipush 25 hX 65 (by decide) dX2_takeStation_23 rfl ?_)
        refine jx_icmp_lt 28 39 hX dX2_takeStation_25 rfl (by decide) (fun hb10 => ?_) (fun hb10 => ?_)
        · have h := h.1 hb10
          refine jx_iconst 40 hX 0 (by decide) dX2_takeStation_39 rfl ?_
          exact jx_zret hX dX2_takeStation_40 (by decide) h
        · have h := h.2 hb10
          refine jx_aload_n 29 hX 0 rfl rfl dX2_takeStation_28 rfl (jx_getR 32 hX jf_X2_25 rfl hc8 dX2_takeStation_29 rfl (jx_iload_n 33 hX 1 rfl rfl dX2_takeStation_32 rfl (jx_caload 34 hX hc9 dX2_takeStation_33 rfl (jx_bipush 36 hX 90 (by decide) dX2_takeStation_34 rfl ?_))))
          refine jx_icmp_le 39 41 hX dX2_takeStation_36 rfl (by decide) (fun hb11 => ?_) (fun hb11 => ?_)
          · have h := h.1 hb11
            refine jx_aload_n 42 hX 0 rfl rfl dX2_takeStation_41 rfl (jx_getR 45 hX jf_X2_37 rfl hc8 dX2_takeStation_42 rfl ?_)
            obtain ⟨hc12, h⟩ := h
            refine jx_getR 48 hX jf_X2_155 rfl hc12 dX2_takeStation_45 rfl (jx_iload_n 49 hX 1 rfl rfl dX2_takeStation_48 rfl (jx_aload_n 50 hX 0 rfl rfl dX2_takeStation_49 rfl (jx_getR 53 hX jf_X2_25 rfl hc8 dX2_takeStation_50 rfl (jx_iload_n 54 hX 1 rfl rfl dX2_takeStation_53 rfl (jx_caload 55 hX hc9 dX2_takeStation_54 rfl ?_)))))
            obtain ⟨hc13, h⟩ := h
            refine jx_iastore 56 hX hc13 dX2_takeStation_55 rfl ?_
            refine jx_namu (fun s14 hs14 => ?_)
            have h := h s14 hs14
            obtain ⟨x15, hx15⟩ : ∃ y : Int32, y = a1 + 1 := ⟨_, rfl⟩
            have h := h x15 hx15
            refine jx_iinc 59 hX 1 x15 [(1, .int x15), (0, .ref (D.2.1 a0))] rfl (by rw [hx15]; exact congrArg (fun z => a1 + z) (by decide)) (by decide) rfl dX2_takeStation_56 rfl (jx_goto 12 hX dX2_takeStation_59 (by decide) ?_)
            exact jx_sub [1, 0] rfl (ih a0 x15 s14 h)
          · have h := h.2 hb11
            refine jx_iconst 40 hX 0 (by decide) dX2_takeStation_39 rfl ?_
            exact jx_zret hX dX2_takeStation_40 (by decide) h
  unfold wX2_takeStation at h
  refine jx_aload_n 1 hX 0 rfl rfl dX2_takeStation_0 rfl ?_
  obtain ⟨hc1, h⟩ := h
  refine jx_getI 4 hX jf_X2_22 rfl hc1 dX2_takeStation_1 rfl (jx_iconst 5 hX 4 (by decide) dX2_takeStation_4 rfl ?_)
  refine jx_icmp_eq 8 10 hX dX2_takeStation_5 rfl (by decide) (fun hb2 => ?_) (fun hb2 => ?_)
  · have h := h.1 hb2
    refine jx_iconst 11 hX 0 (by decide) dX2_takeStation_10 rfl (jx_istore_n 12 hX [(1, .int 0), (0, .ref (D.2.1 a0))] rfl (by decide) rfl dX2_takeStation_11 rfl ?_)
    obtain ⟨n_, h⟩ := h
    exact jx_sub [1, 0] rfl (l12 n_ a0 0 s h)
  · have h := h.2 hb2
    refine jx_iconst 9 hX 0 (by decide) dX2_takeStation_8 rfl ?_
    exact jx_zret hX dX2_takeStation_9 (by decide) h
set_option maxHeartbeats 4000000 in
set_option maxRecDepth 100000 in
theorem mX2_timeAt (l : Launch) (D : jx_Dt) (post : Int32 → jx_St → Prop) (a0 : Nat) (a1 : Int32) (s : jx_St) (h : wX2_timeAt post a0 a1 s) : jx_Met l yX2_timeAt cX2_timeAt 4 (some .int) (jx_r 2 48) D jx_LX [.ref (D.2.1 a0), .int a1] s (jx_Qi D jx_LX post) := by
  refine jx_ofJ (by decide) (Nat.le_of_ble_eq_true rfl) (fun X hl hX => ?_)
  subst hl
  replace hX : jx_K D jx_LX X cX2_timeAt RX2 4 (some .int) (jx_r 2 48) (jx_Qi D jx_LX post) := hX
  show jx_J D jx_LX X 0 [(0, .ref (D.2.1 a0)), (1, .int a1)] [] s
  unfold wX2_timeAt at h
  refine jx_aload_n 1 hX 0 rfl rfl dX2_timeAt_0 rfl (jx_iload_n 2 hX 1 rfl rfl dX2_timeAt_1 rfl (jx_bipush 4 hX 23 (by decide) dX2_timeAt_2 rfl ?_))
  obtain ⟨hc1, h⟩ := h
  refine jx_callVi 7 hX (mX2_hourAt _ D _ a0 a1 23 s h) jv_X2_191 jn_2 hc1 ⟨rfl, rfl, by decide, by decide⟩ rfl rfl (Nat.le_of_ble_eq_true rfl) dX2_timeAt_4 rfl (fun r2 s3 h => ?_)
  refine jx_istore_n 8 hX [(2, .int r2), (0, .ref (D.2.1 a0)), (1, .int a1)] rfl (by decide) rfl dX2_timeAt_7 rfl (jx_aload_n 9 hX 1 rfl rfl dX2_timeAt_8 rfl (jx_iload_n 10 hX 2 rfl rfl dX2_timeAt_9 rfl (jx_iconst 11 hX 4 (by decide) dX2_timeAt_10 rfl (jx_iadd 12 hX dX2_timeAt_11 rfl (jx_iconst 13 hX 2 (by decide) dX2_timeAt_12 rfl ?_)))))
  refine jx_callVi 16 hX (mX2_digits _ D _ a0 (a1 + 4) 2 s3 h) jv_X2_175 jn_2 hc1 ⟨rfl, rfl, by decide, by decide⟩ rfl rfl (Nat.le_of_ble_eq_true rfl) dX2_timeAt_13 rfl (fun r4 s5 h => ?_)
  refine jx_istore_n 17 hX [(3, .int r4), (2, .int r2), (0, .ref (D.2.1 a0)), (1, .int a1)] rfl (by decide) rfl dX2_timeAt_16 rfl (jx_iload_n 18 hX 1 rfl rfl dX2_timeAt_17 rfl (jx_iconst 19 hX (-1) (by decide) dX2_timeAt_18 rfl ?_))
  refine jx_icmp_eq 22 33 hX dX2_timeAt_19 rfl (by decide) (fun hb6 => ?_) (fun hb6 => ?_)
  · have h := h.1 hb6
    refine jx_iconst 34 hX (-1) (by decide) dX2_timeAt_33 rfl (jx_goto 40 hX dX2_timeAt_34 (by decide) ?_)
    exact jx_iret hX dX2_timeAt_40 h
  · have h := h.2 hb6
    refine jx_iload_n 23 hX 0 rfl rfl dX2_timeAt_22 rfl (jx_iconst 24 hX (-1) (by decide) dX2_timeAt_23 rfl ?_)
    refine jx_icmp_eq 27 33 hX dX2_timeAt_24 rfl (by decide) (fun hb7 => ?_) (fun hb7 => ?_)
    · have h := h.1 hb7
      refine jx_iconst 34 hX (-1) (by decide) dX2_timeAt_33 rfl (jx_goto 40 hX dX2_timeAt_34 (by decide) ?_)
      exact jx_iret hX dX2_timeAt_40 h
    · have h := h.2 hb7
      refine jx_iload_n 28 hX 0 rfl rfl dX2_timeAt_27 rfl (jx_bipush 30 hX 59 (by decide) dX2_timeAt_28 rfl ?_)
      refine jx_icmp_le 33 37 hX dX2_timeAt_30 rfl (by decide) (fun hb8 => ?_) (fun hb8 => ?_)
      · have h := h.1 hb8
        refine jx_iload_n 38 hX 1 rfl rfl dX2_timeAt_37 rfl (jx_iload_n 39 hX 0 rfl rfl dX2_timeAt_38 rfl (jx_iadd 40 hX dX2_timeAt_39 rfl ?_))
        exact jx_iret hX dX2_timeAt_40 h
      · have h := h.2 hb8
        refine jx_iconst 34 hX (-1) (by decide) dX2_timeAt_33 rfl (jx_goto 40 hX dX2_timeAt_34 (by decide) ?_)
        exact jx_iret hX dX2_timeAt_40 h
set_option maxHeartbeats 4000000 in
set_option maxRecDepth 100000 in
theorem mX2_takeIssue (l : Launch) (D : jx_Dt) (post : Int32 → jx_St → Prop) (a0 : Nat) (s : jx_St) (h : wX2_takeIssue post a0 s) : jx_Met l yX2_takeIssue cX2_takeIssue 1 (some .boolean) (jx_r 3 71) D jx_LX [.ref (D.2.1 a0)] s (jx_Qi D jx_LX (fun r u => (r = 0 ∨ r = 1) ∧ post r u)) := by
  refine jx_ofJ (by decide) (Nat.le_of_ble_eq_true rfl) (fun X hl hX => ?_)
  subst hl
  replace hX : jx_K D jx_LX X cX2_takeIssue RX2 1 (some .boolean) (jx_r 3 71) (jx_Qi D jx_LX (fun r u => (r = 0 ∨ r = 1) ∧ post r u)) := hX
  show jx_J D jx_LX X 0 [(0, .ref (D.2.1 a0))] [] s
  unfold wX2_takeIssue at h
  refine jx_aload_n 1 hX 0 rfl rfl dX2_takeIssue_0 rfl ?_
  obtain ⟨hc1, h⟩ := h
  refine jx_getR 4 hX jf_X2_37 rfl hc1 dX2_takeIssue_1 rfl (jx_aload_n 5 hX 0 rfl rfl dX2_takeIssue_4 rfl (jx_iconst 6 hX 0 (by decide) dX2_takeIssue_5 rfl ?_))
  refine jx_callVi 9 hX (mX2_timeAt _ D _ a0 0 s h) jv_X2_159 jn_2 hc1 ⟨rfl, rfl, by decide, by decide⟩ rfl rfl (Nat.le_of_ble_eq_true rfl) dX2_takeIssue_6 rfl (fun r2 s3 h => ?_)
  obtain ⟨hc4, h⟩ := h
  refine jx_putI 12 hX jp_X2_163 rfl hc4 dX2_takeIssue_9 rfl ?_
  refine jx_namu (fun s5 hs5 => ?_)
  have h := h s5 hs5
  refine jx_aload_n 13 hX 0 rfl rfl dX2_takeIssue_12 rfl (jx_getI 16 hX jf_X2_22 rfl hc1 dX2_takeIssue_13 rfl (jx_bipush 18 hX 7 (by decide) dX2_takeIssue_16 rfl ?_))
  refine jx_icmp_ne 21 55 hX dX2_takeIssue_18 rfl (by decide) (fun hb6 => ?_) (fun hb6 => ?_)
  · have h := h.1 hb6
    refine jx_iconst 56 hX 0 (by decide) dX2_takeIssue_55 rfl ?_
    exact jx_zret hX dX2_takeIssue_56 (by decide) h
  · have h := h.2 hb6
    refine jx_aload_n 22 hX 0 rfl rfl dX2_takeIssue_21 rfl (jx_getR 25 hX jf_X2_25 rfl hc1 dX2_takeIssue_22 rfl (jx_bipush 27 hX 6 (by decide) dX2_takeIssue_25 rfl ?_))
    obtain ⟨hc7, h⟩ := h
    refine jx_caload 28 hX hc7 dX2_takeIssue_27 rfl (jx_bipush 30 hX 90 (by decide) dX2_takeIssue_28 rfl ?_)
    refine jx_icmp_ne 33 55 hX dX2_takeIssue_30 rfl (by decide) (fun hb8 => ?_) (fun hb8 => ?_)
    · have h := h.1 hb8
      refine jx_iconst 56 hX 0 (by decide) dX2_takeIssue_55 rfl ?_
      exact jx_zret hX dX2_takeIssue_56 (by decide) h
    · have h := h.2 hb8
      refine jx_aload_n 34 hX 0 rfl rfl dX2_takeIssue_33 rfl (jx_getR 37 hX jf_X2_37 rfl hc1 dX2_takeIssue_34 rfl ?_)
      obtain ⟨hc9, h⟩ := h
      refine jx_getI 40 hX jf_X2_163 rfl hc9 dX2_takeIssue_37 rfl (jx_iconst 41 hX (-1) (by decide) dX2_takeIssue_40 rfl ?_)
      refine jx_icmp_eq 44 55 hX dX2_takeIssue_41 rfl (by decide) (fun hb10 => ?_) (fun hb10 => ?_)
      · have h := h.1 hb10
        refine jx_iconst 56 hX 0 (by decide) dX2_takeIssue_55 rfl ?_
        exact jx_zret hX dX2_takeIssue_56 (by decide) h
      · have h := h.2 hb10
        refine jx_aload_n 45 hX 0 rfl rfl dX2_takeIssue_44 rfl ?_
        refine jx_callVi 48 hX (mX2_takeToken _ D _ a0 s5 h) jv_X2_51 jn_2 hc1 ⟨rfl, rfl, by decide, by decide⟩ rfl rfl (Nat.le_of_ble_eq_true rfl) dX2_takeIssue_45 rfl (fun r11 s12 h => ?_)
        obtain ⟨hz13, h⟩ := h
        have h := h hz13
        refine jx_if_eq 51 55 hX dX2_takeIssue_48 rfl (by decide) (fun hb14 => ?_) (fun hb14 => ?_)
        · have h := h.1 hb14
          refine jx_iconst 56 hX 0 (by decide) dX2_takeIssue_55 rfl ?_
          exact jx_zret hX dX2_takeIssue_56 (by decide) h
        · have h := h.2 hb14
          refine jx_iconst 52 hX 1 (by decide) dX2_takeIssue_51 rfl (jx_goto 56 hX dX2_takeIssue_52 (by decide) ?_)
          exact jx_zret hX dX2_takeIssue_56 (by decide) h
set_option maxHeartbeats 4000000 in
set_option maxRecDepth 100000 in
theorem mX2_takeHead (l : Launch) (D : jx_Dt) (post : Int32 → jx_St → Prop) (a0 : Nat) (s : jx_St) (h : wX2_takeHead post a0 s) : jx_Met l yX2_takeHead cX2_takeHead 1 (some .boolean) (jx_r 7 185) D jx_LX [.ref (D.2.1 a0)] s (jx_Qi D jx_LX (fun r u => (r = 0 ∨ r = 1) ∧ post r u)) := by
  refine jx_ofJ (by decide) (Nat.le_of_ble_eq_true rfl) (fun X hl hX => ?_)
  subst hl
  replace hX : jx_K D jx_LX X cX2_takeHead RX2 1 (some .boolean) (jx_r 7 185) (jx_Qi D jx_LX (fun r u => (r = 0 ∨ r = 1) ∧ post r u)) := hX
  show jx_J D jx_LX X 0 [(0, .ref (D.2.1 a0))] [] s
  have b42 : ∀ (a0 : Nat) (s : jx_St), wX2_takeHead_b42 post a0 s → jx_J D jx_LX X 42 [(0, .ref (D.2.1 a0))] [] s := by
    intro a0 s h
    unfold wX2_takeHead_b42 at h
    refine jx_aload_n 43 hX 0 rfl rfl dX2_takeHead_42 rfl ?_
    obtain ⟨hc14, h⟩ := h
    refine jx_callVi 46 hX (mX2_takeStation _ D _ a0 s h) jv_X2_79 jn_2 hc14 ⟨rfl, rfl, by decide, by decide⟩ rfl rfl (Nat.le_of_ble_eq_true rfl) dX2_takeHead_43 rfl (fun r15 s16 h => ?_)
    obtain ⟨hz17, h⟩ := h
    have h := h hz17
    refine jx_if_eq 49 60 hX dX2_takeHead_46 rfl (by decide) (fun hb18 => ?_) (fun hb18 => ?_)
    · have h := h.1 hb18
      refine jx_iconst 61 hX 0 (by decide) dX2_takeHead_60 rfl ?_
      exact jx_zret hX dX2_takeHead_61 (by decide) h
    · have h := h.2 hb18
      refine jx_aload_n 50 hX 0 rfl rfl dX2_takeHead_49 rfl ?_
      refine jx_callVi 53 hX (mX2_takeIssue _ D _ a0 s16 h) jv_X2_82 jn_2 hc14 ⟨rfl, rfl, by decide, by decide⟩ rfl rfl (Nat.le_of_ble_eq_true rfl) dX2_takeHead_50 rfl (fun r19 s20 h => ?_)
      obtain ⟨hz21, h⟩ := h
      have h := h hz21
      refine jx_if_eq 56 60 hX dX2_takeHead_53 rfl (by decide) (fun hb22 => ?_) (fun hb22 => ?_)
      · have h := h.1 hb22
        refine jx_iconst 61 hX 0 (by decide) dX2_takeHead_60 rfl ?_
        exact jx_zret hX dX2_takeHead_61 (by decide) h
      · have h := h.2 hb22
        refine jx_iconst 57 hX 1 (by decide) dX2_takeHead_56 rfl (jx_goto 61 hX dX2_takeHead_57 (by decide) ?_)
        exact jx_zret hX dX2_takeHead_61 (by decide) h
  unfold wX2_takeHead at h
  refine jx_aload_n 1 hX 0 rfl rfl dX2_takeHead_0 rfl (jx_ldcS 3 hX 0 (by decide) rfl dX2_takeHead_1 rfl ?_)
  obtain ⟨hc1, h⟩ := h
  refine jx_callVi 6 hX (mX2_takeWord _ D _ a0 0 s h) jv_X2_73 jn_2 hc1 ⟨rfl, rfl, by decide, by decide⟩ rfl rfl (Nat.le_of_ble_eq_true rfl) dX2_takeHead_3 rfl (fun r2 s3 h => ?_)
  obtain ⟨hz4, h⟩ := h
  have h := h hz4
  refine jx_if_eq 9 20 hX dX2_takeHead_6 rfl (by decide) (fun hb5 => ?_) (fun hb5 => ?_)
  · have h := h.1 hb5
    refine jx_aload_n 21 hX 0 rfl rfl dX2_takeHead_20 rfl (jx_ldcS 23 hX 1 (by decide) rfl dX2_takeHead_21 rfl ?_)
    refine jx_callVi 26 hX (mX2_takeWord _ D _ a0 1 s3 h) jv_X2_73 jn_2 hc1 ⟨rfl, rfl, by decide, by decide⟩ rfl rfl (Nat.le_of_ble_eq_true rfl) dX2_takeHead_23 rfl (fun r6 s7 h => ?_)
    obtain ⟨hz8, h⟩ := h
    have h := h hz8
    refine jx_if_eq 29 40 hX dX2_takeHead_26 rfl (by decide) (fun hb9 => ?_) (fun hb9 => ?_)
    · have h := h.1 hb9
      refine jx_iconst 41 hX 0 (by decide) dX2_takeHead_40 rfl ?_
      exact jx_zret hX dX2_takeHead_41 (by decide) h
    · have h := h.2 hb9
      refine jx_aload_n 30 hX 0 rfl rfl dX2_takeHead_29 rfl (jx_getR 33 hX jf_X2_37 rfl hc1 dX2_takeHead_30 rfl (jx_iconst 34 hX 2 (by decide) dX2_takeHead_33 rfl ?_))
      obtain ⟨hc10, h⟩ := h
      refine jx_putI 37 hX jp_X2_58 rfl hc10 dX2_takeHead_34 rfl ?_
      refine jx_namu (fun s11 hs11 => ?_)
      have h := h s11 hs11
      refine jx_goto 42 hX dX2_takeHead_37 (by decide) ?_
      exact jx_sub [0] rfl (b42 a0 s11 h)
  · have h := h.2 hb5
    refine jx_aload_n 10 hX 0 rfl rfl dX2_takeHead_9 rfl (jx_getR 13 hX jf_X2_37 rfl hc1 dX2_takeHead_10 rfl (jx_iconst 14 hX 1 (by decide) dX2_takeHead_13 rfl ?_))
    obtain ⟨hc12, h⟩ := h
    refine jx_putI 17 hX jp_X2_58 rfl hc12 dX2_takeHead_14 rfl ?_
    refine jx_namu (fun s13 hs13 => ?_)
    have h := h s13 hs13
    refine jx_goto 42 hX dX2_takeHead_17 (by decide) ?_
    exact jx_sub [0] rfl (b42 a0 s13 h)
set_option maxHeartbeats 4000000 in
set_option maxRecDepth 100000 in
theorem mX2_takeWind (l : Launch) (D : jx_Dt) (post : Int32 → jx_St → Prop) (a0 : Nat) (a1 : Nat) (s : jx_St) (h : wX2_takeWind post a0 a1 s) : jx_Met l yX2_takeWind cX2_takeWind 9 (some .boolean) (jx_r 6 164) D jx_LX [.ref (D.2.1 a0), .ref (D.2.1 a1)] s (jx_Qi D jx_LX (fun r u => (r = 0 ∨ r = 1) ∧ post r u)) := by
  refine jx_ofJ (by decide) (Nat.le_of_ble_eq_true rfl) (fun X hl hX => ?_)
  subst hl
  replace hX : jx_K D jx_LX X cX2_takeWind RX2 9 (some .boolean) (jx_r 6 164) (jx_Qi D jx_LX (fun r u => (r = 0 ∨ r = 1) ∧ post r u)) := hX
  show jx_J D jx_LX X 0 [(0, .ref (D.2.1 a0)), (1, .ref (D.2.1 a1))] [] s
  have b162 : ∀ (a0 : Nat) (a1 : Nat) (a5 : Int32) (a7 : Int32) (k0 : Nat) (k1 : Int32) (s : jx_St), wX2_takeWind_b162 post a0 a1 a5 a7 k0 k1 s → jx_J D jx_LX X 162 [(0, .ref (D.2.1 a0)), (1, .ref (D.2.1 a1)), (5, .int a5), (7, .int a7)] [.int k1, .ref (D.2.1 k0)] s := by
    intro a0 a1 a5 a7 k0 k1 s h
    unfold wX2_takeWind_b162 at h
    obtain ⟨hc34, h⟩ := h
    refine jx_putI 165 hX jp_X2_204 rfl hc34 dX2_takeWind_162 rfl ?_
    refine jx_namu (fun s35 hs35 => ?_)
    have h := h s35 hs35
    refine jx_aload_n 166 hX 1 rfl rfl dX2_takeWind_165 rfl (jx_iload 168 hX 2 rfl dX2_takeWind_166 rfl ?_)
    obtain ⟨hc36, h⟩ := h
    refine jx_putI 171 hX jp_X2_207 rfl hc36 dX2_takeWind_168 rfl ?_
    refine jx_namu (fun s37 hs37 => ?_)
    have h := h s37 hs37
    refine jx_aload_n 172 hX 1 rfl rfl dX2_takeWind_171 rfl (jx_iload 174 hX 3 rfl dX2_takeWind_172 rfl (jx_putI 177 hX jp_X2_210 rfl hc36 dX2_takeWind_174 rfl ?_))
    refine jx_namu (fun s38 hs38 => ?_)
    have h := h s38 hs38
    refine jx_aload_n 178 hX 0 rfl rfl dX2_takeWind_177 rfl ?_
    obtain ⟨hc39, h⟩ := h
    refine jx_callVi 181 hX (mX2_takeToken _ D _ a0 s38 h) jv_X2_51 jn_2 hc39 ⟨rfl, rfl, by decide, by decide⟩ rfl rfl (Nat.le_of_ble_eq_true rfl) dX2_takeWind_178 rfl (fun r40 s41 h => ?_)
    obtain ⟨hz42, h⟩ := h
    have h := h hz42
    exact jx_zret hX dX2_takeWind_181 hz42 h
  have b127 : ∀ (a0 : Nat) (a1 : Nat) (a2 : Int32) (a3 : Int32) (a5 : Int32) (a7 : Int32) (a8 : Int32) (s : jx_St), wX2_takeWind_b127 post a0 a1 a2 a3 a5 a7 a8 s → jx_J D jx_LX X 127 [(0, .ref (D.2.1 a0)), (1, .ref (D.2.1 a1)), (2, .int a2), (3, .int a3), (5, .int a5), (7, .int a7), (8, .int a8)] [] s := by
    intro a0 a1 a2 a3 a5 a7 a8 s h
    unfold wX2_takeWind_b127 at h
    refine jx_aload_n 128 hX 0 rfl rfl dX2_takeWind_127 rfl (jx_iload 130 hX 6 rfl dX2_takeWind_128 rfl (jx_ldcS 132 hX 3 (by decide) rfl dX2_takeWind_130 rfl ?_))
    obtain ⟨hc27, h⟩ := h
    refine jx_callVi 135 hX (mX2_holds _ D _ a0 a8 3 s h) jv_X2_196 jn_2 hc27 ⟨rfl, rfl, by decide, by decide⟩ rfl rfl (Nat.le_of_ble_eq_true rfl) dX2_takeWind_132 rfl (fun r28 s29 h => ?_)
    obtain ⟨hz30, h⟩ := h
    have h := h hz30
    refine jx_if_eq 138 149 hX dX2_takeWind_135 rfl (by decide) (fun hb31 => ?_) (fun hb31 => ?_)
    · have h := h.1 hb31
      refine jx_iconst 150 hX 0 (by decide) dX2_takeWind_149 rfl ?_
      exact jx_zret hX dX2_takeWind_150 (by decide) h
    · have h := h.2 hb31
      refine jx_aload_n 139 hX 0 rfl rfl dX2_takeWind_138 rfl (jx_getI 142 hX jf_X2_22 rfl hc27 dX2_takeWind_139 rfl (jx_iload 144 hX 6 rfl dX2_takeWind_142 rfl (jx_iconst 145 hX 2 (by decide) dX2_takeWind_144 rfl (jx_iadd 146 hX dX2_takeWind_145 rfl ?_))))
      refine jx_icmp_eq 149 151 hX dX2_takeWind_146 rfl (by decide) (fun hb32 => ?_) (fun hb32 => ?_)
      · have h := h.1 hb32
        refine jx_aload_n 152 hX 1 rfl rfl dX2_takeWind_151 rfl (jx_iload_n 153 hX 2 rfl rfl dX2_takeWind_152 rfl ?_)
        refine jx_if_eq 156 161 hX dX2_takeWind_153 rfl (by decide) (fun hb33 => ?_) (fun hb33 => ?_)
        · have h := h.1 hb33
          refine jx_iload_n 162 hX 3 rfl rfl dX2_takeWind_161 rfl ?_
          exact jx_sub [0, 1, 4, 5] rfl (b162 a0 a1 a5 a7 a1 a3 s29 h)
        · have h := h.2 hb33
          refine jx_bipush 158 hX (-2) (by decide) dX2_takeWind_156 rfl (jx_goto 162 hX dX2_takeWind_158 (by decide) ?_)
          exact jx_sub [0, 1, 4, 5] rfl (b162 a0 a1 a5 a7 a1 (-2) s29 h)
      · have h := h.2 hb32
        refine jx_iconst 150 hX 0 (by decide) dX2_takeWind_149 rfl ?_
        exact jx_zret hX dX2_takeWind_150 (by decide) h
  have b107 : ∀ (a0 : Nat) (a1 : Nat) (a2 : Int32) (a3 : Int32) (a5 : Int32) (a6 : Int32) (a7 : Int32) (a8 : Int32) (s : jx_St), wX2_takeWind_b107 post a0 a1 a2 a3 a5 a6 a7 a8 s → jx_J D jx_LX X 107 [(0, .ref (D.2.1 a0)), (1, .ref (D.2.1 a1)), (2, .int a2), (3, .int a3), (5, .int a5), (6, .int a6), (7, .int a7), (8, .int a8)] [] s := by
    intro a0 a1 a2 a3 a5 a6 a7 a8 s h
    unfold wX2_takeWind_b107 at h
    refine jx_iload 109 hX 4 rfl dX2_takeWind_107 rfl (jx_iconst 110 hX (-1) (by decide) dX2_takeWind_109 rfl ?_)
    refine jx_icmp_eq 113 125 hX dX2_takeWind_110 rfl (by decide) (fun hb24 => ?_) (fun hb24 => ?_)
    · have h := h.1 hb24
      refine jx_iconst 126 hX 0 (by decide) dX2_takeWind_125 rfl ?_
      exact jx_zret hX dX2_takeWind_126 (by decide) h
    · have h := h.2 hb24
      refine jx_iload 115 hX 5 rfl dX2_takeWind_113 rfl ?_
      refine jx_if_eq 118 127 hX dX2_takeWind_115 rfl (by decide) (fun hb25 => ?_) (fun hb25 => ?_)
      · have h := h.1 hb25
        exact jx_sub [0, 1, 2, 3, 4, 6, 7] rfl (b127 a0 a1 a2 a3 a5 a7 a8 s h)
      · have h := h.2 hb25
        refine jx_iload 120 hX 6 rfl dX2_takeWind_118 rfl (jx_iload 122 hX 4 rfl dX2_takeWind_120 rfl ?_)
        refine jx_icmp_gt 125 127 hX dX2_takeWind_122 rfl (by decide) (fun hb26 => ?_) (fun hb26 => ?_)
        · have h := h.1 hb26
          exact jx_sub [0, 1, 2, 3, 4, 6, 7] rfl (b127 a0 a1 a2 a3 a5 a7 a8 s h)
        · have h := h.2 hb26
          refine jx_iconst 126 hX 0 (by decide) dX2_takeWind_125 rfl ?_
          exact jx_zret hX dX2_takeWind_126 (by decide) h
  have b83 : ∀ (a0 : Nat) (a1 : Nat) (a2 : Int32) (a3 : Int32) (a4 : Int32) (a5 : Int32) (a6 : Int32) (k0 : Int32) (s : jx_St), wX2_takeWind_b83 post a0 a1 a2 a3 a4 a5 a6 k0 s → jx_J D jx_LX X 83 [(0, .ref (D.2.1 a0)), (1, .ref (D.2.1 a1)), (2, .int a2), (3, .int a3), (4, .int a4), (5, .int a5), (6, .int a6)] [.int k0] s := by
    intro a0 a1 a2 a3 a4 a5 a6 k0 s h
    unfold wX2_takeWind_b83 at h
    refine jx_istore 85 hX [(7, .int k0), (0, .ref (D.2.1 a0)), (1, .ref (D.2.1 a1)), (2, .int a2), (3, .int a3), (4, .int a4), (5, .int a5), (6, .int a6)] (by decide) rfl dX2_takeWind_83 rfl (jx_iload 87 hX 7 rfl dX2_takeWind_85 rfl ?_)
    refine jx_if_eq 90 95 hX dX2_takeWind_87 rfl (by decide) (fun hb19 => ?_) (fun hb19 => ?_)
    · have h := h.1 hb19
      refine jx_iconst 96 hX 5 (by decide) dX2_takeWind_95 rfl (jx_istore 98 hX [(8, .int 5), (7, .int k0), (0, .ref (D.2.1 a0)), (1, .ref (D.2.1 a1)), (2, .int a2), (3, .int a3), (4, .int a4), (5, .int a5), (6, .int a6)] (by decide) rfl dX2_takeWind_96 rfl (jx_iload_n 99 hX 4 rfl rfl dX2_takeWind_98 rfl ?_))
      refine jx_if_ne 102 107 hX dX2_takeWind_99 rfl (by decide) (fun hb20 => ?_) (fun hb20 => ?_)
      · have h := h.1 hb20
        exact jx_sub [2, 3, 4, 5, 7, 8, 1, 0] rfl (b107 a0 a1 a2 a3 a5 a6 k0 5 s h)
      · have h := h.2 hb20
        refine jx_iload 104 hX 6 rfl dX2_takeWind_102 rfl ?_
        refine jx_if_eq 107 125 hX dX2_takeWind_104 rfl (by decide) (fun hb21 => ?_) (fun hb21 => ?_)
        · have h := h.1 hb21
          refine jx_iconst 126 hX 0 (by decide) dX2_takeWind_125 rfl ?_
          exact jx_zret hX dX2_takeWind_126 (by decide) h
        · have h := h.2 hb21
          exact jx_sub [2, 3, 4, 5, 7, 8, 1, 0] rfl (b107 a0 a1 a2 a3 a5 a6 k0 5 s h)
    · have h := h.2 hb19
      refine jx_bipush 92 hX 8 (by decide) dX2_takeWind_90 rfl (jx_goto 96 hX dX2_takeWind_92 (by decide) (jx_istore 98 hX [(8, .int 8), (7, .int k0), (0, .ref (D.2.1 a0)), (1, .ref (D.2.1 a1)), (2, .int a2), (3, .int a3), (4, .int a4), (5, .int a5), (6, .int a6)] (by decide) rfl dX2_takeWind_96 rfl (jx_iload_n 99 hX 4 rfl rfl dX2_takeWind_98 rfl ?_)))
      refine jx_if_ne 102 107 hX dX2_takeWind_99 rfl (by decide) (fun hb22 => ?_) (fun hb22 => ?_)
      · have h := h.1 hb22
        exact jx_sub [2, 3, 4, 5, 7, 8, 1, 0] rfl (b107 a0 a1 a2 a3 a5 a6 k0 8 s h)
      · have h := h.2 hb22
        refine jx_iload 104 hX 6 rfl dX2_takeWind_102 rfl ?_
        refine jx_if_eq 107 125 hX dX2_takeWind_104 rfl (by decide) (fun hb23 => ?_) (fun hb23 => ?_)
        · have h := h.1 hb23
          refine jx_iconst 126 hX 0 (by decide) dX2_takeWind_125 rfl ?_
          exact jx_zret hX dX2_takeWind_126 (by decide) h
        · have h := h.2 hb23
          exact jx_sub [2, 3, 4, 5, 7, 8, 1, 0] rfl (b107 a0 a1 a2 a3 a5 a6 k0 8 s h)
  have b65 : ∀ (a0 : Nat) (a1 : Nat) (a2 : Int32) (a3 : Int32) (a4 : Int32) (a5 : Int32) (k0 : Int32) (s : jx_St), wX2_takeWind_b65 post a0 a1 a2 a3 a4 a5 k0 s → jx_J D jx_LX X 65 [(0, .ref (D.2.1 a0)), (1, .ref (D.2.1 a1)), (2, .int a2), (3, .int a3), (4, .int a4), (5, .int a5)] [.int k0] s := by
    intro a0 a1 a2 a3 a4 a5 k0 s h
    unfold wX2_takeWind_b65 at h
    refine jx_istore 67 hX [(6, .int k0), (0, .ref (D.2.1 a0)), (1, .ref (D.2.1 a1)), (2, .int a2), (3, .int a3), (4, .int a4), (5, .int a5)] (by decide) rfl dX2_takeWind_65 rfl (jx_iload 69 hX 0 rfl dX2_takeWind_67 rfl ?_)
    refine jx_if_eq 72 82 hX dX2_takeWind_69 rfl (by decide) (fun hb15 => ?_) (fun hb15 => ?_)
    · have h := h.1 hb15
      refine jx_iconst 83 hX 0 (by decide) dX2_takeWind_82 rfl ?_
      exact jx_sub [1, 2, 3, 4, 5, 6, 0] rfl (b83 a0 a1 a2 a3 a4 a5 k0 0 s h)
    · have h := h.2 hb15
      refine jx_aload_n 73 hX 1 rfl rfl dX2_takeWind_72 rfl (jx_bipush 75 hX 6 (by decide) dX2_takeWind_73 rfl (jx_iconst 76 hX 2 (by decide) dX2_takeWind_75 rfl ?_))
      obtain ⟨hc16, h⟩ := h
      refine jx_callVi 79 hX (mX2_digits _ D _ a0 6 2 s h) jv_X2_175 jn_2 hc16 ⟨rfl, rfl, by decide, by decide⟩ rfl rfl (Nat.le_of_ble_eq_true rfl) dX2_takeWind_76 rfl (fun r17 s18 h => ?_)
      refine jx_goto 83 hX dX2_takeWind_79 (by decide) ?_
      exact jx_sub [1, 2, 3, 4, 5, 6, 0] rfl (b83 a0 a1 a2 a3 a4 a5 k0 r17 s18 h)
  have b39 : ∀ (a0 : Nat) (a1 : Nat) (a2 : Int32) (a3 : Int32) (k0 : Int32) (s : jx_St), wX2_takeWind_b39 post a0 a1 a2 a3 k0 s → jx_J D jx_LX X 39 [(0, .ref (D.2.1 a0)), (1, .ref (D.2.1 a1)), (2, .int a2), (3, .int a3)] [.int k0] s := by
    intro a0 a1 a2 a3 k0 s h
    unfold wX2_takeWind_b39 at h
    refine jx_istore 41 hX [(4, .int k0), (0, .ref (D.2.1 a0)), (1, .ref (D.2.1 a1)), (2, .int a2), (3, .int a3)] (by decide) rfl dX2_takeWind_39 rfl (jx_aload_n 42 hX 1 rfl rfl dX2_takeWind_41 rfl (jx_iconst 43 hX 3 (by decide) dX2_takeWind_42 rfl (jx_iconst 44 hX 2 (by decide) dX2_takeWind_43 rfl ?_)))
    obtain ⟨hc10, h⟩ := h
    refine jx_callVi 47 hX (mX2_digits _ D _ a0 3 2 s h) jv_X2_175 jn_2 hc10 ⟨rfl, rfl, by decide, by decide⟩ rfl rfl (Nat.le_of_ble_eq_true rfl) dX2_takeWind_44 rfl (fun r11 s12 h => ?_)
    refine jx_istore 49 hX [(5, .int r11), (4, .int k0), (0, .ref (D.2.1 a0)), (1, .ref (D.2.1 a1)), (2, .int a2), (3, .int a3)] (by decide) rfl dX2_takeWind_47 rfl (jx_aload_n 50 hX 2 rfl rfl dX2_takeWind_49 rfl (jx_getR 53 hX jf_X2_25 rfl hc10 dX2_takeWind_50 rfl (jx_iconst 54 hX 5 (by decide) dX2_takeWind_53 rfl ?_)))
    obtain ⟨hc13, h⟩ := h
    refine jx_caload 55 hX hc13 dX2_takeWind_54 rfl (jx_bipush 57 hX 71 (by decide) dX2_takeWind_55 rfl ?_)
    refine jx_icmp_ne 60 64 hX dX2_takeWind_57 rfl (by decide) (fun hb14 => ?_) (fun hb14 => ?_)
    · have h := h.1 hb14
      refine jx_iconst 65 hX 0 (by decide) dX2_takeWind_64 rfl ?_
      exact jx_sub [2, 3, 4, 5, 1, 0] rfl (b65 a0 a1 a2 a3 k0 r11 0 s12 h)
    · have h := h.2 hb14
      refine jx_iconst 61 hX 1 (by decide) dX2_takeWind_60 rfl (jx_goto 65 hX dX2_takeWind_61 (by decide) ?_)
      exact jx_sub [2, 3, 4, 5, 1, 0] rfl (b65 a0 a1 a2 a3 k0 r11 1 s12 h)
  unfold wX2_takeWind at h
  refine jx_aload_n 1 hX 0 rfl rfl dX2_takeWind_0 rfl (jx_iconst 2 hX 0 (by decide) dX2_takeWind_1 rfl (jx_ldcS 4 hX 2 (by decide) rfl dX2_takeWind_2 rfl ?_))
  obtain ⟨hc1, h⟩ := h
  refine jx_callVi 7 hX (mX2_holds _ D _ a0 0 2 s h) jv_X2_196 jn_2 hc1 ⟨rfl, rfl, by decide, by decide⟩ rfl rfl (Nat.le_of_ble_eq_true rfl) dX2_takeWind_4 rfl (fun r2 s3 h => ?_)
  obtain ⟨hz4, h⟩ := h
  have h := h hz4
  refine jx_istore_n 8 hX [(2, .int r2), (0, .ref (D.2.1 a0)), (1, .ref (D.2.1 a1))] rfl (by decide) rfl dX2_takeWind_7 rfl (jx_aload_n 9 hX 1 rfl rfl dX2_takeWind_8 rfl (jx_iconst 10 hX 0 (by decide) dX2_takeWind_9 rfl (jx_iconst 11 hX 3 (by decide) dX2_takeWind_10 rfl ?_)))
  refine jx_callVi 14 hX (mX2_digits _ D _ a0 0 3 s3 h) jv_X2_175 jn_2 hc1 ⟨rfl, rfl, by decide, by decide⟩ rfl rfl (Nat.le_of_ble_eq_true rfl) dX2_takeWind_11 rfl (fun r5 s6 h => ?_)
  refine jx_istore_n 15 hX [(3, .int r5), (2, .int r2), (0, .ref (D.2.1 a0)), (1, .ref (D.2.1 a1))] rfl (by decide) rfl dX2_takeWind_14 rfl (jx_iload_n 16 hX 0 rfl rfl dX2_takeWind_15 rfl (jx_iconst 17 hX (-1) (by decide) dX2_takeWind_16 rfl ?_))
  refine jx_icmp_eq 20 38 hX dX2_takeWind_17 rfl (by decide) (fun hb7 => ?_) (fun hb7 => ?_)
  · have h := h.1 hb7
    refine jx_iconst 39 hX 0 (by decide) dX2_takeWind_38 rfl ?_
    exact jx_sub [2, 3, 1, 0] rfl (b39 a0 a1 r2 r5 0 s6 h)
  · have h := h.2 hb7
    refine jx_iload_n 21 hX 0 rfl rfl dX2_takeWind_20 rfl (jx_sipush 24 hX 360 (by decide) dX2_takeWind_21 rfl ?_)
    refine jx_icmp_gt 27 38 hX dX2_takeWind_24 rfl (by decide) (fun hb8 => ?_) (fun hb8 => ?_)
    · have h := h.1 hb8
      refine jx_iconst 39 hX 0 (by decide) dX2_takeWind_38 rfl ?_
      exact jx_sub [2, 3, 1, 0] rfl (b39 a0 a1 r2 r5 0 s6 h)
    · have h := h.2 hb8
      refine jx_iload_n 28 hX 0 rfl rfl dX2_takeWind_27 rfl (jx_bipush 30 hX 10 (by decide) dX2_takeWind_28 rfl (jx_irem 31 hX (by decide) dX2_takeWind_30 rfl ?_))
      refine jx_if_ne 34 38 hX dX2_takeWind_31 rfl (by decide) (fun hb9 => ?_) (fun hb9 => ?_)
      · have h := h.1 hb9
        refine jx_iconst 39 hX 0 (by decide) dX2_takeWind_38 rfl ?_
        exact jx_sub [2, 3, 1, 0] rfl (b39 a0 a1 r2 r5 0 s6 h)
      · have h := h.2 hb9
        refine jx_iconst 35 hX 1 (by decide) dX2_takeWind_34 rfl (jx_goto 39 hX dX2_takeWind_35 (by decide) ?_)
        exact jx_sub [2, 3, 1, 0] rfl (b39 a0 a1 r2 r5 1 s6 h)
set_option maxHeartbeats 4000000 in
set_option maxRecDepth 100000 in
theorem mX2_takeCavok (l : Launch) (D : jx_Dt) (post : Int32 → jx_St → Prop) (a0 : Nat) (a1 : Nat) (s : jx_St) (h : wX2_takeCavok post a0 a1 s) : jx_Met l yX2_takeCavok cX2_takeCavok 2 (some .boolean) (jx_r 7 185) D jx_LX [.ref (D.2.1 a0), .ref (D.2.1 a1)] s (jx_Qi D jx_LX (fun r u => (r = 0 ∨ r = 1) ∧ post r u)) := by
  refine jx_ofJ (by decide) (Nat.le_of_ble_eq_true rfl) (fun X hl hX => ?_)
  subst hl
  replace hX : jx_K D jx_LX X cX2_takeCavok RX2 2 (some .boolean) (jx_r 7 185) (jx_Qi D jx_LX (fun r u => (r = 0 ∨ r = 1) ∧ post r u)) := hX
  show jx_J D jx_LX X 0 [(0, .ref (D.2.1 a0)), (1, .ref (D.2.1 a1))] [] s
  unfold wX2_takeCavok at h
  refine jx_aload_n 1 hX 0 rfl rfl dX2_takeCavok_0 rfl (jx_ldcS 3 hX 4 (by decide) rfl dX2_takeCavok_1 rfl ?_)
  obtain ⟨hc1, h⟩ := h
  refine jx_callVi 6 hX (mX2_takeWord _ D _ a0 4 s h) jv_X2_73 jn_2 hc1 ⟨rfl, rfl, by decide, by decide⟩ rfl rfl (Nat.le_of_ble_eq_true rfl) dX2_takeCavok_3 rfl (fun r2 s3 h => ?_)
  obtain ⟨hz4, h⟩ := h
  have h := h hz4
  refine jx_if_ne 9 11 hX dX2_takeCavok_6 rfl (by decide) (fun hb5 => ?_) (fun hb5 => ?_)
  · have h := h.1 hb5
    refine jx_aload_n 12 hX 1 rfl rfl dX2_takeCavok_11 rfl (jx_sipush 15 hX 10000 (by decide) dX2_takeCavok_12 rfl ?_)
    obtain ⟨hc6, h⟩ := h
    refine jx_putI 18 hX jp_X2_215 rfl hc6 dX2_takeCavok_15 rfl ?_
    refine jx_namu (fun s7 hs7 => ?_)
    have h := h s7 hs7
    refine jx_aload_n 19 hX 1 rfl rfl dX2_takeCavok_18 rfl (jx_iconst 20 hX 0 (by decide) dX2_takeCavok_19 rfl (jx_putI 23 hX jp_X2_140 rfl hc6 dX2_takeCavok_20 rfl ?_))
    refine jx_namu (fun s8 hs8 => ?_)
    have h := h s8 hs8
    refine jx_aload_n 24 hX 1 rfl rfl dX2_takeCavok_23 rfl (jx_iconst 25 hX 0 (by decide) dX2_takeCavok_24 rfl (jx_putI 28 hX jp_X2_218 rfl hc6 dX2_takeCavok_25 rfl ?_))
    refine jx_namu (fun s9 hs9 => ?_)
    have h := h s9 hs9
    refine jx_iconst 29 hX 1 (by decide) dX2_takeCavok_28 rfl ?_
    exact jx_zret hX dX2_takeCavok_29 (by decide) h
  · have h := h.2 hb5
    refine jx_iconst 10 hX 0 (by decide) dX2_takeCavok_9 rfl ?_
    exact jx_zret hX dX2_takeCavok_10 (by decide) h
set_option maxHeartbeats 4000000 in
set_option maxRecDepth 100000 in
theorem mX2_takeVisibility (l : Launch) (D : jx_Dt) (post : Int32 → jx_St → Prop) (a0 : Nat) (a1 : Nat) (s : jx_St) (h : wX2_takeVisibility post a0 a1 s) : jx_Met l yX2_takeVisibility cX2_takeVisibility 3 (some .boolean) (jx_r 1 24) D jx_LX [.ref (D.2.1 a0), .ref (D.2.1 a1)] s (jx_Qi D jx_LX (fun r u => (r = 0 ∨ r = 1) ∧ post r u)) := by
  refine jx_ofJ (by decide) (Nat.le_of_ble_eq_true rfl) (fun X hl hX => ?_)
  subst hl
  replace hX : jx_K D jx_LX X cX2_takeVisibility RX2 3 (some .boolean) (jx_r 1 24) (jx_Qi D jx_LX (fun r u => (r = 0 ∨ r = 1) ∧ post r u)) := hX
  show jx_J D jx_LX X 0 [(0, .ref (D.2.1 a0)), (1, .ref (D.2.1 a1))] [] s
  unfold wX2_takeVisibility at h
  refine jx_aload_n 1 hX 0 rfl rfl dX2_takeVisibility_0 rfl (jx_iconst 2 hX 0 (by decide) dX2_takeVisibility_1 rfl (jx_iconst 3 hX 4 (by decide) dX2_takeVisibility_2 rfl ?_))
  obtain ⟨hc1, h⟩ := h
  refine jx_callVi 6 hX (mX2_digits _ D _ a0 0 4 s h) jv_X2_175 jn_2 hc1 ⟨rfl, rfl, by decide, by decide⟩ rfl rfl (Nat.le_of_ble_eq_true rfl) dX2_takeVisibility_3 rfl (fun r2 s3 h => ?_)
  refine jx_istore_n 7 hX [(2, .int r2), (0, .ref (D.2.1 a0)), (1, .ref (D.2.1 a1))] rfl (by decide) rfl dX2_takeVisibility_6 rfl (jx_aload_n 8 hX 1 rfl rfl dX2_takeVisibility_7 rfl (jx_getI 11 hX jf_X2_22 rfl hc1 dX2_takeVisibility_8 rfl (jx_iconst 12 hX 4 (by decide) dX2_takeVisibility_11 rfl ?_)))
  refine jx_icmp_ne 15 20 hX dX2_takeVisibility_12 rfl (by decide) (fun hb4 => ?_) (fun hb4 => ?_)
  · have h := h.1 hb4
    refine jx_iconst 21 hX 0 (by decide) dX2_takeVisibility_20 rfl ?_
    exact jx_zret hX dX2_takeVisibility_21 (by decide) h
  · have h := h.2 hb4
    refine jx_iload_n 16 hX 0 rfl rfl dX2_takeVisibility_15 rfl (jx_iconst 17 hX (-1) (by decide) dX2_takeVisibility_16 rfl ?_)
    refine jx_icmp_ne 20 22 hX dX2_takeVisibility_17 rfl (by decide) (fun hb5 => ?_) (fun hb5 => ?_)
    · have h := h.1 hb5
      refine jx_aload_n 23 hX 2 rfl rfl dX2_takeVisibility_22 rfl (jx_iload_n 24 hX 0 rfl rfl dX2_takeVisibility_23 rfl ?_)
      obtain ⟨hc6, h⟩ := h
      refine jx_putI 27 hX jp_X2_215 rfl hc6 dX2_takeVisibility_24 rfl ?_
      refine jx_namu (fun s7 hs7 => ?_)
      have h := h s7 hs7
      refine jx_aload_n 28 hX 1 rfl rfl dX2_takeVisibility_27 rfl ?_
      refine jx_callVi 31 hX (mX2_takeToken _ D _ a0 s7 h) jv_X2_51 jn_2 hc1 ⟨rfl, rfl, by decide, by decide⟩ rfl rfl (Nat.le_of_ble_eq_true rfl) dX2_takeVisibility_28 rfl (fun r8 s9 h => ?_)
      obtain ⟨hz10, h⟩ := h
      have h := h hz10
      exact jx_zret hX dX2_takeVisibility_31 hz10 h
    · have h := h.2 hb5
      refine jx_iconst 21 hX 0 (by decide) dX2_takeVisibility_20 rfl ?_
      exact jx_zret hX dX2_takeVisibility_21 (by decide) h
set_option maxHeartbeats 4000000 in
set_option maxRecDepth 100000 in
theorem mX2_signNumber (l : Launch) (D : jx_Dt) (post : Int32 → jx_St → Prop) (a0 : Nat) (s : jx_St) (h : wX2_signNumber post a0 s) : jx_Met l yX2_signNumber cX2_signNumber 1 (some .int) (jx_r 0 0) D jx_LX [.ref (D.2.1 a0)] s (jx_Qi D jx_LX post) := by
  refine jx_ofJ (by decide) (Nat.le_of_ble_eq_true rfl) (fun X hl hX => ?_)
  subst hl
  replace hX : jx_K D jx_LX X cX2_signNumber RX2 1 (some .int) (jx_r 0 0) (jx_Qi D jx_LX post) := hX
  show jx_J D jx_LX X 0 [(0, .ref (D.2.1 a0))] [] s
  unfold wX2_signNumber at h
  refine jx_aload_n 1 hX 0 rfl rfl dX2_signNumber_0 rfl ?_
  obtain ⟨hc1, h⟩ := h
  refine jx_getR 4 hX jf_X2_25 rfl hc1 dX2_signNumber_1 rfl (jx_iconst 5 hX 0 (by decide) dX2_signNumber_4 rfl ?_)
  obtain ⟨hc2, h⟩ := h
  refine jx_caload 6 hX hc2 dX2_signNumber_5 rfl (jx_bipush 8 hX 45 (by decide) dX2_signNumber_6 rfl ?_)
  refine jx_icmp_ne 11 13 hX dX2_signNumber_8 rfl (by decide) (fun hb3 => ?_) (fun hb3 => ?_)
  · have h := h.1 hb3
    refine jx_aload_n 14 hX 0 rfl rfl dX2_signNumber_13 rfl (jx_getR 17 hX jf_X2_25 rfl hc1 dX2_signNumber_14 rfl (jx_iconst 18 hX 0 (by decide) dX2_signNumber_17 rfl (jx_caload 19 hX hc2 dX2_signNumber_18 rfl (jx_bipush 21 hX 43 (by decide) dX2_signNumber_19 rfl ?_))))
    refine jx_icmp_ne 24 26 hX dX2_signNumber_21 rfl (by decide) (fun hb4 => ?_) (fun hb4 => ?_)
    · have h := h.1 hb4
      refine jx_aload_n 27 hX 0 rfl rfl dX2_signNumber_26 rfl (jx_getR 30 hX jf_X2_25 rfl hc1 dX2_signNumber_27 rfl (jx_iconst 31 hX 0 (by decide) dX2_signNumber_30 rfl (jx_caload 32 hX hc2 dX2_signNumber_31 rfl (jx_bipush 34 hX 86 (by decide) dX2_signNumber_32 rfl ?_))))
      refine jx_icmp_ne 37 52 hX dX2_signNumber_34 rfl (by decide) (fun hb5 => ?_) (fun hb5 => ?_)
      · have h := h.1 hb5
        refine jx_iconst 53 hX 0 (by decide) dX2_signNumber_52 rfl ?_
        exact jx_iret hX dX2_signNumber_53 h
      · have h := h.2 hb5
        refine jx_aload_n 38 hX 0 rfl rfl dX2_signNumber_37 rfl (jx_getR 41 hX jf_X2_25 rfl hc1 dX2_signNumber_38 rfl (jx_iconst 42 hX 1 (by decide) dX2_signNumber_41 rfl ?_))
        obtain ⟨hc6, h⟩ := h
        refine jx_caload 43 hX hc6 dX2_signNumber_42 rfl (jx_bipush 45 hX 67 (by decide) dX2_signNumber_43 rfl ?_)
        refine jx_icmp_ne 48 52 hX dX2_signNumber_45 rfl (by decide) (fun hb7 => ?_) (fun hb7 => ?_)
        · have h := h.1 hb7
          refine jx_iconst 53 hX 0 (by decide) dX2_signNumber_52 rfl ?_
          exact jx_iret hX dX2_signNumber_53 h
        · have h := h.2 hb7
          refine jx_iconst 49 hX 3 (by decide) dX2_signNumber_48 rfl (jx_goto 53 hX dX2_signNumber_49 (by decide) ?_)
          exact jx_iret hX dX2_signNumber_53 h
    · have h := h.2 hb4
      refine jx_iconst 25 hX 2 (by decide) dX2_signNumber_24 rfl ?_
      exact jx_iret hX dX2_signNumber_25 h
  · have h := h.2 hb3
    refine jx_iconst 12 hX 1 (by decide) dX2_signNumber_11 rfl ?_
    exact jx_iret hX dX2_signNumber_12 h
set_option maxHeartbeats 4000000 in
set_option maxRecDepth 100000 in
theorem mX2_weatherNumber (l : Launch) (D : jx_Dt) (post : Int32 → jx_St → Prop) (a0 : Nat) (s : jx_St) (h : wX2_weatherNumber post a0 s) : jx_Met l yX2_weatherNumber cX2_weatherNumber 7 (some .int) (jx_r 6 164) D jx_LX [.ref (D.2.1 a0)] s (jx_Qi D jx_LX post) := by
  refine jx_ofJ (by decide) (Nat.le_of_ble_eq_true rfl) (fun X hl hX => ?_)
  subst hl
  replace hX : jx_K D jx_LX X cX2_weatherNumber RX2 7 (some .int) (jx_r 6 164) (jx_Qi D jx_LX post) := hX
  show jx_J D jx_LX X 0 [(0, .ref (D.2.1 a0))] [] s
  have b128 : ∀ (a0 : Nat) (a1 : Int32) (a2 : Int32) (k0 : Int32) (s : jx_St), wX2_weatherNumber_b128 post a0 a1 a2 k0 s → jx_J D jx_LX X 128 [(0, .ref (D.2.1 a0)), (1, .int a1), (2, .int a2)] [.int k0] s := by
    intro a0 a1 a2 k0 s h
    unfold wX2_weatherNumber_b128 at h
    refine jx_istore 130 hX [(6, .int k0), (0, .ref (D.2.1 a0)), (1, .int a1), (2, .int a2)] (by decide) rfl dX2_weatherNumber_128 rfl (jx_iload 132 hX 0 rfl dX2_weatherNumber_130 rfl ?_)
    refine jx_if_eq 135 147 hX dX2_weatherNumber_132 rfl (by decide) (fun hb24 => ?_) (fun hb24 => ?_)
    · have h := h.1 hb24
      refine jx_iconst 148 hX (-1) (by decide) dX2_weatherNumber_147 rfl ?_
      exact jx_iret hX dX2_weatherNumber_148 h
    · have h := h.2 hb24
      refine jx_iload_n 136 hX 3 rfl rfl dX2_weatherNumber_135 rfl (jx_aload_n 137 hX 1 rfl rfl dX2_weatherNumber_136 rfl ?_)
      obtain ⟨hc25, h⟩ := h
      refine jx_getI 140 hX jf_X2_22 rfl hc25 dX2_weatherNumber_137 rfl ?_
      refine jx_icmp_ne 143 147 hX dX2_weatherNumber_140 rfl (by decide) (fun hb26 => ?_) (fun hb26 => ?_)
      · have h := h.1 hb26
        refine jx_iconst 148 hX (-1) (by decide) dX2_weatherNumber_147 rfl ?_
        exact jx_iret hX dX2_weatherNumber_148 h
      · have h := h.2 hb26
        refine jx_iload_n 144 hX 2 rfl rfl dX2_weatherNumber_143 rfl (jx_goto 148 hX dX2_weatherNumber_144 (by decide) ?_)
        exact jx_iret hX dX2_weatherNumber_148 h
  have b112 : ∀ (a0 : Nat) (a1 : Int32) (a2 : Int32) (a3 : Int32) (a4 : Int32) (s : jx_St), wX2_weatherNumber_b112 post a0 a1 a2 a3 a4 s → jx_J D jx_LX X 112 [(0, .ref (D.2.1 a0)), (1, .int a1), (2, .int a2), (3, .int a3), (4, .int a4)] [] s := by
    intro a0 a1 a2 a3 a4 s h
    unfold wX2_weatherNumber_b112 at h
    refine jx_iload 114 hX 4 rfl dX2_weatherNumber_112 rfl ?_
    refine jx_if_gt 117 123 hX dX2_weatherNumber_114 rfl (by decide) (fun hb22 => ?_) (fun hb22 => ?_)
    · have h := h.1 hb22
      refine jx_iconst 124 hX 1 (by decide) dX2_weatherNumber_123 rfl (jx_goto 128 hX dX2_weatherNumber_124 (by decide) ?_)
      exact jx_sub [0, 1, 2] rfl (b128 a0 a1 a2 1 s h)
    · have h := h.2 hb22
      refine jx_iload_n 118 hX 3 rfl rfl dX2_weatherNumber_117 rfl (jx_bipush 120 hX 6 (by decide) dX2_weatherNumber_118 rfl ?_)
      refine jx_icmp_ne 123 127 hX dX2_weatherNumber_120 rfl (by decide) (fun hb23 => ?_) (fun hb23 => ?_)
      · have h := h.1 hb23
        refine jx_iconst 128 hX 0 (by decide) dX2_weatherNumber_127 rfl ?_
        exact jx_sub [0, 1, 2] rfl (b128 a0 a1 a2 0 s h)
      · have h := h.2 hb23
        refine jx_iconst 124 hX 1 (by decide) dX2_weatherNumber_123 rfl (jx_goto 128 hX dX2_weatherNumber_124 (by decide) ?_)
        exact jx_sub [0, 1, 2] rfl (b128 a0 a1 a2 1 s h)
  have l55 : ∀ (n : Nat) (a0 : Nat) (a1 : Int32) (a2 : Int32) (a3 : Int32) (a4 : Int32) (a5 : Int32) (s : jx_St), wX2_weatherNumber_l55 post n a0 a1 a2 a3 a4 a5 s → jx_J D jx_LX X 55 [(0, .ref (D.2.1 a0)), (1, .int a1), (2, .int a2), (3, .int a3), (4, .int a4), (5, .int a5)] [] s := by
    intro n
    induction n with
    | zero => intro a0 a1 a2 a3 a4 a5 s h; exact h.elim
    | succ n ih =>
      intro a0 a1 a2 a3 a4 a5 s h
      rw [wX2_weatherNumber_l55] at h
      refine jx_iload 57 hX 4 rfl dX2_weatherNumber_55 rfl (jx_iconst 58 hX 3 (by decide) dX2_weatherNumber_57 rfl ?_)
      refine jx_icmp_ge 61 112 hX dX2_weatherNumber_58 rfl (by decide) (fun hb12 => ?_) (fun hb12 => ?_)
      · have h := h.1 hb12
        exact jx_sub [0, 1, 2, 3, 4] rfl (b112 a0 a1 a2 a3 a4 s h)
      · have h := h.2 hb12
        refine jx_iload_n 62 hX 2 rfl rfl dX2_weatherNumber_61 rfl (jx_aload_n 63 hX 0 rfl rfl dX2_weatherNumber_62 rfl ?_)
        obtain ⟨hc13, h⟩ := h
        refine jx_getI 66 hX jf_X2_22 rfl hc13 dX2_weatherNumber_63 rfl ?_
        refine jx_icmp_ge 69 112 hX dX2_weatherNumber_66 rfl (by decide) (fun hb14 => ?_) (fun hb14 => ?_)
        · have h := h.1 hb14
          exact jx_sub [0, 1, 2, 3, 4] rfl (b112 a0 a1 a2 a3 a4 s h)
        · have h := h.2 hb14
          refine jx_aload_n 70 hX 0 rfl rfl dX2_weatherNumber_69 rfl (jx_iload_n 71 hX 2 rfl rfl dX2_weatherNumber_70 rfl (jx_ldcS 73 hX 6 (by decide) rfl dX2_weatherNumber_71 rfl ?_))
          refine jx_callVi 76 hX (mX2_pairAt _ D _ a0 a2 6 s h) jv_X2_233 jn_2 hc13 ⟨rfl, rfl, by decide, by decide⟩ rfl rfl (Nat.le_of_ble_eq_true rfl) dX2_weatherNumber_73 rfl (fun r15 s16 h => ?_)
          refine jx_istore 78 hX [(6, .int r15), (0, .ref (D.2.1 a0)), (1, .int a1), (2, .int a2), (3, .int a3), (4, .int a4), (5, .int a5)] (by decide) rfl dX2_weatherNumber_76 rfl (jx_iload 80 hX 0 rfl dX2_weatherNumber_78 rfl (jx_iconst 81 hX (-1) (by decide) dX2_weatherNumber_80 rfl ?_))
          refine jx_icmp_ne 84 86 hX dX2_weatherNumber_81 rfl (by decide) (fun hb17 => ?_) (fun hb17 => ?_)
          · have h := h.1 hb17
            refine jx_iload_n 87 hX 2 rfl rfl dX2_weatherNumber_86 rfl (jx_iload 89 hX 6 rfl dX2_weatherNumber_87 rfl (jx_iload 91 hX 0 rfl dX2_weatherNumber_89 rfl (jx_iconst 92 hX 1 (by decide) dX2_weatherNumber_91 rfl (jx_iadd 93 hX dX2_weatherNumber_92 rfl (jx_imul 94 hX dX2_weatherNumber_93 rfl ?_)))))
            refine jx_iadd 95 hX dX2_weatherNumber_94 rfl ?_
            refine jx_topi (fun x18 hx18 => ?_)
            have h := h x18 hx18
            refine jx_istore_n 96 hX [(1, .int x18), (6, .int r15), (0, .ref (D.2.1 a0)), (2, .int a2), (3, .int a3), (4, .int a4), (5, .int a5)] rfl (by decide) rfl dX2_weatherNumber_95 rfl (jx_iload 98 hX 6 rfl dX2_weatherNumber_96 rfl (jx_bipush 100 hX 32 (by decide) dX2_weatherNumber_98 rfl (jx_imul 101 hX dX2_weatherNumber_100 rfl ?_)))
            refine jx_topi (fun x19 hx19 => ?_)
            have h := h x19 hx19
            refine jx_istore 103 hX [(5, .int x19), (1, .int x18), (6, .int r15), (0, .ref (D.2.1 a0)), (2, .int a2), (3, .int a3), (4, .int a4)] (by decide) rfl dX2_weatherNumber_101 rfl ?_
            obtain ⟨x20, hx20⟩ : ∃ y : Int32, y = a2 + 2 := ⟨_, rfl⟩
            have h := h x20 hx20
            refine jx_iinc 106 hX 4 x20 [(2, .int x20), (5, .int x19), (1, .int x18), (6, .int r15), (0, .ref (D.2.1 a0)), (3, .int a3), (4, .int a4)] rfl (by rw [hx20]; exact congrArg (fun z => a2 + z) (by decide)) (by decide) rfl dX2_weatherNumber_103 rfl ?_
            obtain ⟨x21, hx21⟩ : ∃ y : Int32, y = a4 + 1 := ⟨_, rfl⟩
            have h := h x21 hx21
            refine jx_iinc 109 hX 6 x21 [(4, .int x21), (2, .int x20), (5, .int x19), (1, .int x18), (6, .int r15), (0, .ref (D.2.1 a0)), (3, .int a3)] rfl (by rw [hx21]; exact congrArg (fun z => a4 + z) (by decide)) (by decide) rfl dX2_weatherNumber_106 rfl (jx_goto 55 hX dX2_weatherNumber_109 (by decide) ?_)
            exact jx_sub [5, 3, 1, 6, 0, 2] rfl (ih a0 x18 x20 a3 x21 x19 s16 h)
          · have h := h.2 hb17
            refine jx_iconst 85 hX (-1) (by decide) dX2_weatherNumber_84 rfl ?_
            exact jx_iret hX dX2_weatherNumber_85 h
  have b23 : ∀ (a0 : Nat) (a1 : Int32) (k0 : Int32) (s : jx_St), wX2_weatherNumber_b23 post a0 a1 k0 s → jx_J D jx_LX X 23 [(0, .ref (D.2.1 a0)), (1, .int a1)] [.int k0] s := by
    intro a0 a1 k0 s h
    unfold wX2_weatherNumber_b23 at h
    refine jx_istore_n 24 hX [(2, .int k0), (0, .ref (D.2.1 a0)), (1, .int a1)] rfl (by decide) rfl dX2_weatherNumber_23 rfl (jx_aload_n 25 hX 1 rfl rfl dX2_weatherNumber_24 rfl (jx_iload_n 26 hX 0 rfl rfl dX2_weatherNumber_25 rfl (jx_ldcS 28 hX 5 (by decide) rfl dX2_weatherNumber_26 rfl ?_)))
    obtain ⟨hc6, h⟩ := h
    refine jx_callVi 31 hX (mX2_pairAt _ D _ a0 k0 5 s h) jv_X2_233 jn_2 hc6 ⟨rfl, rfl, by decide, by decide⟩ rfl rfl (Nat.le_of_ble_eq_true rfl) dX2_weatherNumber_28 rfl (fun r7 s8 h => ?_)
    refine jx_istore_n 32 hX [(3, .int r7), (2, .int k0), (0, .ref (D.2.1 a0)), (1, .int a1)] rfl (by decide) rfl dX2_weatherNumber_31 rfl (jx_iload_n 33 hX 0 rfl rfl dX2_weatherNumber_32 rfl (jx_iconst 34 hX (-1) (by decide) dX2_weatherNumber_33 rfl ?_))
    refine jx_icmp_eq 37 48 hX dX2_weatherNumber_34 rfl (by decide) (fun hb9 => ?_) (fun hb9 => ?_)
    · have h := h.1 hb9
      refine jx_iconst 49 hX 0 (by decide) dX2_weatherNumber_48 rfl (jx_istore 51 hX [(4, .int 0), (3, .int r7), (2, .int k0), (0, .ref (D.2.1 a0)), (1, .int a1)] (by decide) rfl dX2_weatherNumber_49 rfl (jx_bipush 53 hX 64 (by decide) dX2_weatherNumber_51 rfl (jx_istore 55 hX [(5, .int 64), (4, .int 0), (3, .int r7), (2, .int k0), (0, .ref (D.2.1 a0)), (1, .int a1)] (by decide) rfl dX2_weatherNumber_53 rfl ?_)))
      obtain ⟨n_, h⟩ := h
      exact jx_sub [4, 5, 3, 2, 1, 0] rfl (l55 n_ a0 a1 k0 r7 0 64 s8 h)
    · have h := h.2 hb9
      refine jx_iload_n 38 hX 3 rfl rfl dX2_weatherNumber_37 rfl (jx_iconst 39 hX 4 (by decide) dX2_weatherNumber_38 rfl (jx_iload_n 40 hX 0 rfl rfl dX2_weatherNumber_39 rfl (jx_iconst 41 hX 1 (by decide) dX2_weatherNumber_40 rfl (jx_iadd 42 hX dX2_weatherNumber_41 rfl (jx_imul 43 hX dX2_weatherNumber_42 rfl ?_)))))
      refine jx_iadd 44 hX dX2_weatherNumber_43 rfl ?_
      refine jx_topi (fun x10 hx10 => ?_)
      have h := h x10 hx10
      refine jx_istore_n 45 hX [(1, .int x10), (3, .int r7), (2, .int k0), (0, .ref (D.2.1 a0))] rfl (by decide) rfl dX2_weatherNumber_44 rfl ?_
      obtain ⟨x11, hx11⟩ : ∃ y : Int32, y = k0 + 2 := ⟨_, rfl⟩
      have h := h x11 hx11
      refine jx_iinc 48 hX 2 x11 [(2, .int x11), (1, .int x10), (3, .int r7), (0, .ref (D.2.1 a0))] rfl (by rw [hx11]; exact congrArg (fun z => k0 + z) (by decide)) (by decide) rfl dX2_weatherNumber_45 rfl (jx_iconst 49 hX 0 (by decide) dX2_weatherNumber_48 rfl (jx_istore 51 hX [(4, .int 0), (2, .int x11), (1, .int x10), (3, .int r7), (0, .ref (D.2.1 a0))] (by decide) rfl dX2_weatherNumber_49 rfl (jx_bipush 53 hX 64 (by decide) dX2_weatherNumber_51 rfl (jx_istore 55 hX [(5, .int 64), (4, .int 0), (2, .int x11), (1, .int x10), (3, .int r7), (0, .ref (D.2.1 a0))] (by decide) rfl dX2_weatherNumber_53 rfl ?_))))
      obtain ⟨n_, h⟩ := h
      exact jx_sub [5, 3, 2, 4, 1, 0] rfl (l55 n_ a0 x10 x11 r7 0 64 s8 h)
  unfold wX2_weatherNumber at h
  refine jx_aload_n 1 hX 0 rfl rfl dX2_weatherNumber_0 rfl ?_
  obtain ⟨hc1, h⟩ := h
  refine jx_callVi 4 hX (mX2_signNumber _ D _ a0 s h) jv_X2_228 jn_2 hc1 ⟨rfl, rfl, by decide, by decide⟩ rfl rfl (Nat.le_of_ble_eq_true rfl) dX2_weatherNumber_1 rfl (fun r2 s3 h => ?_)
  refine jx_istore_n 5 hX [(1, .int r2), (0, .ref (D.2.1 a0))] rfl (by decide) rfl dX2_weatherNumber_4 rfl (jx_iload_n 6 hX 0 rfl rfl dX2_weatherNumber_5 rfl ?_)
  refine jx_if_ne 9 13 hX dX2_weatherNumber_6 rfl (by decide) (fun hb4 => ?_) (fun hb4 => ?_)
  · have h := h.1 hb4
    refine jx_iload_n 14 hX 0 rfl rfl dX2_weatherNumber_13 rfl (jx_iconst 15 hX 3 (by decide) dX2_weatherNumber_14 rfl ?_)
    refine jx_icmp_ne 18 22 hX dX2_weatherNumber_15 rfl (by decide) (fun hb5 => ?_) (fun hb5 => ?_)
    · have h := h.1 hb5
      refine jx_iconst 23 hX 1 (by decide) dX2_weatherNumber_22 rfl ?_
      exact jx_sub [1, 0] rfl (b23 a0 r2 1 s3 h)
    · have h := h.2 hb5
      refine jx_iconst 19 hX 2 (by decide) dX2_weatherNumber_18 rfl (jx_goto 23 hX dX2_weatherNumber_19 (by decide) ?_)
      exact jx_sub [1, 0] rfl (b23 a0 r2 2 s3 h)
  · have h := h.2 hb4
    refine jx_iconst 10 hX 0 (by decide) dX2_weatherNumber_9 rfl (jx_goto 23 hX dX2_weatherNumber_10 (by decide) ?_)
    exact jx_sub [1, 0] rfl (b23 a0 r2 0 s3 h)
set_option maxHeartbeats 4000000 in
set_option maxRecDepth 100000 in
theorem mX2_takeWeathers (l : Launch) (D : jx_Dt) (post : jx_St → Prop) (a0 : Nat) (a1 : Nat) (s : jx_St) (h : wX2_takeWeathers post a0 a1 s) : jx_Met l yX2_takeWeathers cX2_takeWeathers 4 none (jx_r 7 190) D jx_LX [.ref (D.2.1 a0), .ref (D.2.1 a1)] s (jx_Qv D jx_LX post) := by
  refine jx_ofJ (by decide) (Nat.le_of_ble_eq_true rfl) (fun X hl hX => ?_)
  subst hl
  replace hX : jx_K D jx_LX X cX2_takeWeathers RX2 4 none (jx_r 7 190) (jx_Qv D jx_LX post) := hX
  show jx_J D jx_LX X 0 [(0, .ref (D.2.1 a0)), (1, .ref (D.2.1 a1))] [] s
  have l2 : ∀ (n : Nat) (a0 : Nat) (a1 : Nat) (a2 : Int32) (s : jx_St), wX2_takeWeathers_l2 post n a0 a1 a2 s → jx_J D jx_LX X 2 [(0, .ref (D.2.1 a0)), (1, .ref (D.2.1 a1)), (2, .int a2)] [] s := by
    intro n
    induction n with
    | zero => intro a0 a1 a2 s h; exact h.elim
    | succ n ih =>
      intro a0 a1 a2 s h
      rw [wX2_takeWeathers_l2] at h
      refine jx_iload_n 3 hX 2 rfl rfl dX2_takeWeathers_2 rfl (jx_iconst 4 hX 3 (by decide) dX2_takeWeathers_3 rfl ?_)
      refine jx_icmp_ge 7 34 hX dX2_takeWeathers_4 rfl (by decide) (fun hb1 => ?_) (fun hb1 => ?_)
      · have h := h.1 hb1
        exact jx_vret hX dX2_takeWeathers_34 h
      · have h := h.2 hb1
        refine jx_aload_n 8 hX 0 rfl rfl dX2_takeWeathers_7 rfl ?_
        obtain ⟨hc2, h⟩ := h
        refine jx_callVi 11 hX (mX2_weatherNumber _ D _ a0 s h) jv_X2_221 jn_2 hc2 ⟨rfl, rfl, by decide, by decide⟩ rfl rfl (Nat.le_of_ble_eq_true rfl) dX2_takeWeathers_8 rfl (fun r3 s4 h => ?_)
        refine jx_istore_n 12 hX [(3, .int r3), (0, .ref (D.2.1 a0)), (1, .ref (D.2.1 a1)), (2, .int a2)] rfl (by decide) rfl dX2_takeWeathers_11 rfl (jx_iload_n 13 hX 0 rfl rfl dX2_takeWeathers_12 rfl (jx_iconst 14 hX (-1) (by decide) dX2_takeWeathers_13 rfl ?_))
        refine jx_icmp_ne 17 18 hX dX2_takeWeathers_14 rfl (by decide) (fun hb5 => ?_) (fun hb5 => ?_)
        · have h := h.1 hb5
          refine jx_aload_n 19 hX 2 rfl rfl dX2_takeWeathers_18 rfl (jx_iload_n 20 hX 0 rfl rfl dX2_takeWeathers_19 rfl ?_)
          obtain ⟨hc6, h⟩ := h
          refine jx_callVv 23 hX (mX1_addWeather _ D _ a1 r3 s4 h) jv_X2_225 jn_1 hc6 ⟨rfl, rfl, by decide, by decide⟩ rfl rfl (Nat.le_of_ble_eq_true rfl) dX2_takeWeathers_20 rfl (fun s8 h => ?_)
          refine jx_aload_n 24 hX 1 rfl rfl dX2_takeWeathers_23 rfl ?_
          refine jx_callVi 27 hX (mX2_takeToken _ D _ a0 s8 h) jv_X2_51 jn_2 hc2 ⟨rfl, rfl, by decide, by decide⟩ rfl rfl (Nat.le_of_ble_eq_true rfl) dX2_takeWeathers_24 rfl (fun r9 s10 h => ?_)
          obtain ⟨hz11, h⟩ := h
          have h := h hz11
          refine jx_pop 28 hX rfl dX2_takeWeathers_27 rfl ?_
          obtain ⟨x12, hx12⟩ : ∃ y : Int32, y = a2 + 1 := ⟨_, rfl⟩
          have h := h x12 hx12
          refine jx_iinc 31 hX 3 x12 [(2, .int x12), (3, .int r3), (0, .ref (D.2.1 a0)), (1, .ref (D.2.1 a1))] rfl (by rw [hx12]; exact congrArg (fun z => a2 + z) (by decide)) (by decide) rfl dX2_takeWeathers_28 rfl (jx_goto 2 hX dX2_takeWeathers_31 (by decide) ?_)
          exact jx_sub [2, 3, 0] rfl (ih a0 a1 x12 s10 h)
        · have h := h.2 hb5
          exact jx_vret hX dX2_takeWeathers_17 h
  unfold wX2_takeWeathers at h
  refine jx_iconst 1 hX 0 (by decide) dX2_takeWeathers_0 rfl (jx_istore_n 2 hX [(2, .int 0), (0, .ref (D.2.1 a0)), (1, .ref (D.2.1 a1))] rfl (by decide) rfl dX2_takeWeathers_1 rfl ?_)
  obtain ⟨n_, h⟩ := h
  exact jx_sub [1, 2, 0] rfl (l2 n_ a0 a1 0 s h)
set_option maxHeartbeats 4000000 in
set_option maxRecDepth 100000 in
theorem mX2_takeClouds (l : Launch) (D : jx_Dt) (post : Int32 → jx_St → Prop) (a0 : Nat) (a1 : Nat) (s : jx_St) (h : wX2_takeClouds post a0 a1 s) : jx_Met l yX2_takeClouds cX2_takeClouds 6 (some .boolean) (jx_r 7 189) D jx_LX [.ref (D.2.1 a0), .ref (D.2.1 a1)] s (jx_Qi D jx_LX (fun r u => (r = 0 ∨ r = 1) ∧ post r u)) := by
  refine jx_ofJ (by decide) (Nat.le_of_ble_eq_true rfl) (fun X hl hX => ?_)
  subst hl
  replace hX : jx_K D jx_LX X cX2_takeClouds RX2 6 (some .boolean) (jx_r 7 189) (jx_Qi D jx_LX (fun r u => (r = 0 ∨ r = 1) ∧ post r u)) := hX
  show jx_J D jx_LX X 0 [(0, .ref (D.2.1 a0)), (1, .ref (D.2.1 a1))] [] s
  have l66 : ∀ (n : Nat) (a0 : Nat) (a1 : Nat) (a3 : Int32) (a4 : Int32) (s : jx_St), wX2_takeClouds_l66 post n a0 a1 a3 a4 s → jx_J D jx_LX X 66 [(0, .ref (D.2.1 a0)), (1, .ref (D.2.1 a1)), (3, .int a3), (4, .int a4)] [] s := by
    intro n
    induction n with
    | zero => intro a0 a1 a3 a4 s h; exact h.elim
    | succ n ih =>
      intro a0 a1 a3 a4 s h
      rw [wX2_takeClouds_l66] at h
      refine jx_iload 68 hX 3 rfl dX2_takeClouds_66 rfl (jx_iconst 69 hX 4 (by decide) dX2_takeClouds_68 rfl ?_)
      refine jx_icmp_ge 72 127 hX dX2_takeClouds_69 rfl (by decide) (fun hb22 => ?_) (fun hb22 => ?_)
      · have h := h.1 hb22
        refine jx_iconst 128 hX 1 (by decide) dX2_takeClouds_127 rfl ?_
        exact jx_zret hX dX2_takeClouds_128 (by decide) h
      · have h := h.2 hb22
        refine jx_aload_n 73 hX 0 rfl rfl dX2_takeClouds_72 rfl ?_
        obtain ⟨hc23, h⟩ := h
        refine jx_callVi 76 hX (mX2_layerNumber _ D _ a0 s h) jv_X2_246 jn_2 hc23 ⟨rfl, rfl, by decide, by decide⟩ rfl rfl (Nat.le_of_ble_eq_true rfl) dX2_takeClouds_73 rfl (fun r24 s25 h => ?_)
        refine jx_istore 78 hX [(5, .int r24), (0, .ref (D.2.1 a0)), (1, .ref (D.2.1 a1)), (3, .int a3), (4, .int a4)] (by decide) rfl dX2_takeClouds_76 rfl (jx_iload 80 hX 0 rfl dX2_takeClouds_78 rfl (jx_iconst 81 hX (-1) (by decide) dX2_takeClouds_80 rfl ?_))
        refine jx_icmp_eq 84 93 hX dX2_takeClouds_81 rfl (by decide) (fun hb26 => ?_) (fun hb26 => ?_)
        · have h := h.1 hb26
          refine jx_iload 95 hX 4 rfl dX2_takeClouds_93 rfl ?_
          refine jx_if_le 98 102 hX dX2_takeClouds_95 rfl (by decide) (fun hb27 => ?_) (fun hb27 => ?_)
          · have h := h.1 hb27
            refine jx_iconst 103 hX 0 (by decide) dX2_takeClouds_102 rfl ?_
            exact jx_zret hX dX2_takeClouds_103 (by decide) h
          · have h := h.2 hb27
            refine jx_iconst 99 hX 1 (by decide) dX2_takeClouds_98 rfl (jx_goto 103 hX dX2_takeClouds_99 (by decide) ?_)
            exact jx_zret hX dX2_takeClouds_103 (by decide) h
        · have h := h.2 hb26
          refine jx_iload 86 hX 0 rfl dX2_takeClouds_84 rfl ?_
          refine jx_callSi 89 hX (mX1_heightOf _ D _ r24 s25 h) js_X2_249 ⟨rfl, rfl, by decide, by decide⟩ rfl rfl (Nat.le_of_ble_eq_true rfl) dX2_takeClouds_86 rfl (fun r28 s29 h => ?_)
          refine jx_iload_n 90 hX 3 rfl rfl dX2_takeClouds_89 rfl ?_
          refine jx_icmp_ge 93 104 hX dX2_takeClouds_90 rfl (by decide) (fun hb30 => ?_) (fun hb30 => ?_)
          · have h := h.1 hb30
            refine jx_iload 106 hX 0 rfl dX2_takeClouds_104 rfl ?_
            refine jx_callSi 109 hX (mX1_heightOf _ D _ r24 s29 h) js_X2_249 ⟨rfl, rfl, by decide, by decide⟩ rfl rfl (Nat.le_of_ble_eq_true rfl) dX2_takeClouds_106 rfl (fun r31 s32 h => ?_)
            refine jx_istore_n 110 hX [(3, .int r31), (5, .int r24), (0, .ref (D.2.1 a0)), (1, .ref (D.2.1 a1)), (4, .int a4)] rfl (by decide) rfl dX2_takeClouds_109 rfl (jx_aload_n 111 hX 3 rfl rfl dX2_takeClouds_110 rfl (jx_iload 113 hX 1 rfl dX2_takeClouds_111 rfl ?_))
            obtain ⟨hc33, h⟩ := h
            refine jx_callVv 116 hX (mX1_addCloud _ D _ a1 r24 s32 h) jv_X2_243 jn_1 hc33 ⟨rfl, rfl, by decide, by decide⟩ rfl rfl (Nat.le_of_ble_eq_true rfl) dX2_takeClouds_113 rfl (fun s35 h => ?_)
            refine jx_aload_n 117 hX 2 rfl rfl dX2_takeClouds_116 rfl ?_
            refine jx_callVi 120 hX (mX2_takeToken _ D _ a0 s35 h) jv_X2_51 jn_2 hc23 ⟨rfl, rfl, by decide, by decide⟩ rfl rfl (Nat.le_of_ble_eq_true rfl) dX2_takeClouds_117 rfl (fun r36 s37 h => ?_)
            obtain ⟨hz38, h⟩ := h
            have h := h hz38
            refine jx_pop 121 hX rfl dX2_takeClouds_120 rfl ?_
            obtain ⟨x39, hx39⟩ : ∃ y : Int32, y = a4 + 1 := ⟨_, rfl⟩
            have h := h x39 hx39
            refine jx_iinc 124 hX 4 x39 [(4, .int x39), (3, .int r31), (5, .int r24), (0, .ref (D.2.1 a0)), (1, .ref (D.2.1 a1))] rfl (by rw [hx39]; exact congrArg (fun z => a4 + z) (by decide)) (by decide) rfl dX2_takeClouds_121 rfl (jx_goto 66 hX dX2_takeClouds_124 (by decide) ?_)
            exact jx_sub [3, 4, 1, 0] rfl (ih a0 a1 r31 x39 s37 h)
          · have h := h.2 hb30
            refine jx_iload 95 hX 4 rfl dX2_takeClouds_93 rfl ?_
            refine jx_if_le 98 102 hX dX2_takeClouds_95 rfl (by decide) (fun hb40 => ?_) (fun hb40 => ?_)
            · have h := h.1 hb40
              refine jx_iconst 103 hX 0 (by decide) dX2_takeClouds_102 rfl ?_
              exact jx_zret hX dX2_takeClouds_103 (by decide) h
            · have h := h.2 hb40
              refine jx_iconst 99 hX 1 (by decide) dX2_takeClouds_98 rfl (jx_goto 103 hX dX2_takeClouds_99 (by decide) ?_)
              exact jx_zret hX dX2_takeClouds_103 (by decide) h
  unfold wX2_takeClouds at h
  refine jx_aload_n 1 hX 0 rfl rfl dX2_takeClouds_0 rfl (jx_ldcS 3 hX 7 (by decide) rfl dX2_takeClouds_1 rfl ?_)
  obtain ⟨hc1, h⟩ := h
  refine jx_callVi 6 hX (mX2_takeWord _ D _ a0 7 s h) jv_X2_73 jn_2 hc1 ⟨rfl, rfl, by decide, by decide⟩ rfl rfl (Nat.le_of_ble_eq_true rfl) dX2_takeClouds_3 rfl (fun r2 s3 h => ?_)
  obtain ⟨hz4, h⟩ := h
  have h := h hz4
  refine jx_if_eq 9 16 hX dX2_takeClouds_6 rfl (by decide) (fun hb5 => ?_) (fun hb5 => ?_)
  · have h := h.1 hb5
    refine jx_aload_n 17 hX 0 rfl rfl dX2_takeClouds_16 rfl (jx_iconst 18 hX 2 (by decide) dX2_takeClouds_17 rfl (jx_iconst 19 hX 3 (by decide) dX2_takeClouds_18 rfl ?_))
    refine jx_callVi 22 hX (mX2_digits _ D _ a0 2 3 s3 h) jv_X2_175 jn_2 hc1 ⟨rfl, rfl, by decide, by decide⟩ rfl rfl (Nat.le_of_ble_eq_true rfl) dX2_takeClouds_19 rfl (fun r6 s7 h => ?_)
    refine jx_istore_n 23 hX [(2, .int r6), (0, .ref (D.2.1 a0)), (1, .ref (D.2.1 a1))] rfl (by decide) rfl dX2_takeClouds_22 rfl (jx_aload_n 24 hX 1 rfl rfl dX2_takeClouds_23 rfl (jx_iconst 25 hX 0 (by decide) dX2_takeClouds_24 rfl (jx_ldcS 27 hX 8 (by decide) rfl dX2_takeClouds_25 rfl ?_)))
    refine jx_callVi 30 hX (mX2_holds _ D _ a0 0 8 s7 h) jv_X2_196 jn_2 hc1 ⟨rfl, rfl, by decide, by decide⟩ rfl rfl (Nat.le_of_ble_eq_true rfl) dX2_takeClouds_27 rfl (fun r8 s9 h => ?_)
    obtain ⟨hz10, h⟩ := h
    have h := h hz10
    refine jx_if_eq 33 61 hX dX2_takeClouds_30 rfl (by decide) (fun hb11 => ?_) (fun hb11 => ?_)
    · have h := h.1 hb11
      refine jx_iconst 62 hX 0 (by decide) dX2_takeClouds_61 rfl (jx_istore_n 63 hX [(3, .int 0), (2, .int r6), (0, .ref (D.2.1 a0)), (1, .ref (D.2.1 a1))] rfl (by decide) rfl dX2_takeClouds_62 rfl (jx_iconst 64 hX 0 (by decide) dX2_takeClouds_63 rfl (jx_istore 66 hX [(4, .int 0), (3, .int 0), (2, .int r6), (0, .ref (D.2.1 a0)), (1, .ref (D.2.1 a1))] (by decide) rfl dX2_takeClouds_64 rfl ?_)))
      obtain ⟨n_, h⟩ := h
      exact jx_sub [3, 4, 1, 0] rfl (l66 n_ a0 a1 0 0 s9 h)
    · have h := h.2 hb11
      refine jx_aload_n 34 hX 1 rfl rfl dX2_takeClouds_33 rfl (jx_getI 37 hX jf_X2_22 rfl hc1 dX2_takeClouds_34 rfl (jx_iconst 38 hX 5 (by decide) dX2_takeClouds_37 rfl ?_))
      refine jx_icmp_ne 41 61 hX dX2_takeClouds_38 rfl (by decide) (fun hb12 => ?_) (fun hb12 => ?_)
      · have h := h.1 hb12
        refine jx_iconst 62 hX 0 (by decide) dX2_takeClouds_61 rfl (jx_istore_n 63 hX [(3, .int 0), (2, .int r6), (0, .ref (D.2.1 a0)), (1, .ref (D.2.1 a1))] rfl (by decide) rfl dX2_takeClouds_62 rfl (jx_iconst 64 hX 0 (by decide) dX2_takeClouds_63 rfl (jx_istore 66 hX [(4, .int 0), (3, .int 0), (2, .int r6), (0, .ref (D.2.1 a0)), (1, .ref (D.2.1 a1))] (by decide) rfl dX2_takeClouds_64 rfl ?_)))
        obtain ⟨n_, h⟩ := h
        exact jx_sub [3, 4, 1, 0] rfl (l66 n_ a0 a1 0 0 s9 h)
      · have h := h.2 hb12
        refine jx_iload_n 42 hX 0 rfl rfl dX2_takeClouds_41 rfl (jx_iconst 43 hX (-1) (by decide) dX2_takeClouds_42 rfl ?_)
        refine jx_icmp_eq 46 61 hX dX2_takeClouds_43 rfl (by decide) (fun hb13 => ?_) (fun hb13 => ?_)
        · have h := h.1 hb13
          refine jx_iconst 62 hX 0 (by decide) dX2_takeClouds_61 rfl (jx_istore_n 63 hX [(3, .int 0), (2, .int r6), (0, .ref (D.2.1 a0)), (1, .ref (D.2.1 a1))] rfl (by decide) rfl dX2_takeClouds_62 rfl (jx_iconst 64 hX 0 (by decide) dX2_takeClouds_63 rfl (jx_istore 66 hX [(4, .int 0), (3, .int 0), (2, .int r6), (0, .ref (D.2.1 a0)), (1, .ref (D.2.1 a1))] (by decide) rfl dX2_takeClouds_64 rfl ?_)))
          obtain ⟨n_, h⟩ := h
          exact jx_sub [3, 4, 1, 0] rfl (l66 n_ a0 a1 0 0 s9 h)
        · have h := h.2 hb13
          refine jx_aload_n 47 hX 2 rfl rfl dX2_takeClouds_46 rfl (jx_iconst 48 hX 5 (by decide) dX2_takeClouds_47 rfl (jx_bipush 50 hX 8 (by decide) dX2_takeClouds_48 rfl (jx_iload_n 51 hX 0 rfl rfl dX2_takeClouds_50 rfl (jx_imul 52 hX dX2_takeClouds_51 rfl (jx_iadd 53 hX dX2_takeClouds_52 rfl ?_)))))
          obtain ⟨hc14, h⟩ := h
          refine jx_callVv 56 hX (mX1_addCloud _ D _ a1 (5 + (8 * r6)) s9 h) jv_X2_243 jn_1 hc14 ⟨rfl, rfl, by decide, by decide⟩ rfl rfl (Nat.le_of_ble_eq_true rfl) dX2_takeClouds_53 rfl (fun s16 h => ?_)
          refine jx_aload_n 57 hX 1 rfl rfl dX2_takeClouds_56 rfl ?_
          refine jx_callVi 60 hX (mX2_takeToken _ D _ a0 s16 h) jv_X2_51 jn_2 hc1 ⟨rfl, rfl, by decide, by decide⟩ rfl rfl (Nat.le_of_ble_eq_true rfl) dX2_takeClouds_57 rfl (fun r17 s18 h => ?_)
          obtain ⟨hz19, h⟩ := h
          have h := h hz19
          exact jx_zret hX dX2_takeClouds_60 hz19 h
  · have h := h.2 hb5
    refine jx_aload_n 10 hX 1 rfl rfl dX2_takeClouds_9 rfl (jx_iconst 11 hX 0 (by decide) dX2_takeClouds_10 rfl ?_)
    obtain ⟨hc20, h⟩ := h
    refine jx_putI 14 hX jp_X2_218 rfl hc20 dX2_takeClouds_11 rfl ?_
    refine jx_namu (fun s21 hs21 => ?_)
    have h := h s21 hs21
    refine jx_iconst 15 hX 1 (by decide) dX2_takeClouds_14 rfl ?_
    exact jx_zret hX dX2_takeClouds_15 (by decide) h
set_option maxHeartbeats 4000000 in
set_option maxRecDepth 100000 in
theorem mX2_takeWhole (l : Launch) (D : jx_Dt) (post : Int32 → jx_St → Prop) (a0 : Nat) (a1 : Nat) (s : jx_St) (h : wX2_takeWhole post a0 a1 s) : jx_Met l yX2_takeWhole cX2_takeWhole 2 (some .boolean) (jx_r 8 214) D jx_LX [.ref (D.2.1 a0), .ref (D.2.1 a1)] s (jx_Qi D jx_LX (fun r u => (r = 0 ∨ r = 1) ∧ post r u)) := by
  refine jx_ofJ (by decide) (Nat.le_of_ble_eq_true rfl) (fun X hl hX => ?_)
  subst hl
  replace hX : jx_K D jx_LX X cX2_takeWhole RX2 2 (some .boolean) (jx_r 8 214) (jx_Qi D jx_LX (fun r u => (r = 0 ∨ r = 1) ∧ post r u)) := hX
  show jx_J D jx_LX X 0 [(0, .ref (D.2.1 a0)), (1, .ref (D.2.1 a1))] [] s
  unfold wX2_takeWhole at h
  refine jx_aload_n 1 hX 0 rfl rfl dX2_takeWhole_0 rfl (jx_aload_n 2 hX 1 rfl rfl dX2_takeWhole_1 rfl ?_)
  obtain ⟨hc1, h⟩ := h
  refine jx_callVi 5 hX (mX2_takeWind _ D _ a0 a1 s h) jv_X2_131 jn_2 hc1 ⟨rfl, rfl, by decide, by decide⟩ rfl rfl (Nat.le_of_ble_eq_true rfl) dX2_takeWhole_2 rfl (fun r2 s3 h => ?_)
  obtain ⟨hz4, h⟩ := h
  have h := h hz4
  refine jx_if_ne 8 10 hX dX2_takeWhole_5 rfl (by decide) (fun hb5 => ?_) (fun hb5 => ?_)
  · have h := h.1 hb5
    refine jx_aload_n 11 hX 0 rfl rfl dX2_takeWhole_10 rfl (jx_aload_n 12 hX 1 rfl rfl dX2_takeWhole_11 rfl ?_)
    refine jx_callVi 15 hX (mX2_takeCavok _ D _ a0 a1 s3 h) jv_X2_134 jn_2 hc1 ⟨rfl, rfl, by decide, by decide⟩ rfl rfl (Nat.le_of_ble_eq_true rfl) dX2_takeWhole_12 rfl (fun r6 s7 h => ?_)
    obtain ⟨hz8, h⟩ := h
    have h := h hz8
    refine jx_if_eq 18 20 hX dX2_takeWhole_15 rfl (by decide) (fun hb9 => ?_) (fun hb9 => ?_)
    · have h := h.1 hb9
      refine jx_aload_n 21 hX 0 rfl rfl dX2_takeWhole_20 rfl (jx_aload_n 22 hX 1 rfl rfl dX2_takeWhole_21 rfl ?_)
      refine jx_callVi 25 hX (mX2_takeVisibility _ D _ a0 a1 s7 h) jv_X2_137 jn_2 hc1 ⟨rfl, rfl, by decide, by decide⟩ rfl rfl (Nat.le_of_ble_eq_true rfl) dX2_takeWhole_22 rfl (fun r10 s11 h => ?_)
      obtain ⟨hz12, h⟩ := h
      have h := h hz12
      refine jx_if_ne 28 30 hX dX2_takeWhole_25 rfl (by decide) (fun hb13 => ?_) (fun hb13 => ?_)
      · have h := h.1 hb13
        refine jx_aload_n 31 hX 1 rfl rfl dX2_takeWhole_30 rfl (jx_iconst 32 hX 0 (by decide) dX2_takeWhole_31 rfl ?_)
        obtain ⟨hc14, h⟩ := h
        refine jx_putI 35 hX jp_X2_140 rfl hc14 dX2_takeWhole_32 rfl ?_
        refine jx_namu (fun s15 hs15 => ?_)
        have h := h s15 hs15
        refine jx_aload_n 36 hX 0 rfl rfl dX2_takeWhole_35 rfl (jx_aload_n 37 hX 1 rfl rfl dX2_takeWhole_36 rfl ?_)
        refine jx_callVv 40 hX (mX2_takeWeathers _ D _ a0 a1 s15 h) jv_X2_143 jn_2 hc1 ⟨rfl, rfl, by decide, by decide⟩ rfl rfl (Nat.le_of_ble_eq_true rfl) dX2_takeWhole_37 rfl (fun s17 h => ?_)
        refine jx_aload_n 41 hX 0 rfl rfl dX2_takeWhole_40 rfl (jx_aload_n 42 hX 1 rfl rfl dX2_takeWhole_41 rfl ?_)
        refine jx_callVi 45 hX (mX2_takeClouds _ D _ a0 a1 s17 h) jv_X2_147 jn_2 hc1 ⟨rfl, rfl, by decide, by decide⟩ rfl rfl (Nat.le_of_ble_eq_true rfl) dX2_takeWhole_42 rfl (fun r18 s19 h => ?_)
        obtain ⟨hz20, h⟩ := h
        have h := h hz20
        exact jx_zret hX dX2_takeWhole_45 hz20 h
      · have h := h.2 hb13
        refine jx_iconst 29 hX 0 (by decide) dX2_takeWhole_28 rfl ?_
        exact jx_zret hX dX2_takeWhole_29 (by decide) h
    · have h := h.2 hb9
      refine jx_iconst 19 hX 1 (by decide) dX2_takeWhole_18 rfl ?_
      exact jx_zret hX dX2_takeWhole_19 (by decide) h
  · have h := h.2 hb5
    refine jx_iconst 9 hX 0 (by decide) dX2_takeWhole_8 rfl ?_
    exact jx_zret hX dX2_takeWhole_9 (by decide) h
set_option maxHeartbeats 4000000 in
set_option maxRecDepth 100000 in
theorem mX2_takeTemperatures (l : Launch) (D : jx_Dt) (post : Int32 → jx_St → Prop) (a0 : Nat) (s : jx_St) (h : wX2_takeTemperatures post a0 s) : jx_Met l yX2_takeTemperatures cX2_takeTemperatures 3 (some .boolean) (jx_r 7 187) D jx_LX [.ref (D.2.1 a0)] s (jx_Qi D jx_LX (fun r u => (r = 0 ∨ r = 1) ∧ post r u)) := by
  refine jx_ofJ (by decide) (Nat.le_of_ble_eq_true rfl) (fun X hl hX => ?_)
  subst hl
  replace hX : jx_K D jx_LX X cX2_takeTemperatures RX2 3 (some .boolean) (jx_r 7 187) (jx_Qi D jx_LX (fun r u => (r = 0 ∨ r = 1) ∧ post r u)) := hX
  show jx_J D jx_LX X 0 [(0, .ref (D.2.1 a0))] [] s
  have b39 : ∀ (a0 : Nat) (a1 : Int32) (k0 : Int32) (s : jx_St), wX2_takeTemperatures_b39 post a0 a1 k0 s → jx_J D jx_LX X 39 [(0, .ref (D.2.1 a0)), (1, .int a1)] [.int k0] s := by
    intro a0 a1 k0 s h
    unfold wX2_takeTemperatures_b39 at h
    refine jx_istore_n 40 hX [(2, .int k0), (0, .ref (D.2.1 a0)), (1, .int a1)] rfl (by decide) rfl dX2_takeTemperatures_39 rfl (jx_aload_n 41 hX 1 rfl rfl dX2_takeTemperatures_40 rfl ?_)
    obtain ⟨hc7, h⟩ := h
    refine jx_getR 44 hX jf_X2_37 rfl hc7 dX2_takeTemperatures_41 rfl (jx_aload_n 45 hX 1 rfl rfl dX2_takeTemperatures_44 rfl (jx_iconst 46 hX 0 (by decide) dX2_takeTemperatures_45 rfl ?_))
    refine jx_callVi 49 hX (mX2_degreesAt _ D _ a0 0 s h) jv_X2_166 jn_2 hc7 ⟨rfl, rfl, by decide, by decide⟩ rfl rfl (Nat.le_of_ble_eq_true rfl) dX2_takeTemperatures_46 rfl (fun r8 s9 h => ?_)
    obtain ⟨hc10, h⟩ := h
    refine jx_putI 52 hX jp_X2_169 rfl hc10 dX2_takeTemperatures_49 rfl ?_
    refine jx_namu (fun s11 hs11 => ?_)
    have h := h s11 hs11
    refine jx_aload_n 53 hX 1 rfl rfl dX2_takeTemperatures_52 rfl (jx_getR 56 hX jf_X2_37 rfl hc7 dX2_takeTemperatures_53 rfl (jx_aload_n 57 hX 1 rfl rfl dX2_takeTemperatures_56 rfl (jx_iload_n 58 hX 2 rfl rfl dX2_takeTemperatures_57 rfl (jx_iconst 59 hX 1 (by decide) dX2_takeTemperatures_58 rfl (jx_iadd 60 hX dX2_takeTemperatures_59 rfl ?_)))))
    refine jx_callVi 63 hX (mX2_degreesAt _ D _ a0 (a1 + 1) s11 h) jv_X2_166 jn_2 hc7 ⟨rfl, rfl, by decide, by decide⟩ rfl rfl (Nat.le_of_ble_eq_true rfl) dX2_takeTemperatures_60 rfl (fun r12 s13 h => ?_)
    obtain ⟨hc14, h⟩ := h
    refine jx_putI 66 hX jp_X2_172 rfl hc14 dX2_takeTemperatures_63 rfl ?_
    refine jx_namu (fun s15 hs15 => ?_)
    have h := h s15 hs15
    refine jx_aload_n 67 hX 1 rfl rfl dX2_takeTemperatures_66 rfl (jx_getI 70 hX jf_X2_22 rfl hc7 dX2_takeTemperatures_67 rfl (jx_iload_n 71 hX 0 rfl rfl dX2_takeTemperatures_70 rfl ?_))
    refine jx_icmp_ne 74 122 hX dX2_takeTemperatures_71 rfl (by decide) (fun hb16 => ?_) (fun hb16 => ?_)
    · have h := h.1 hb16
      refine jx_iconst 123 hX 0 (by decide) dX2_takeTemperatures_122 rfl ?_
      exact jx_zret hX dX2_takeTemperatures_123 (by decide) h
    · have h := h.2 hb16
      refine jx_aload_n 75 hX 1 rfl rfl dX2_takeTemperatures_74 rfl (jx_getR 78 hX jf_X2_25 rfl hc7 dX2_takeTemperatures_75 rfl (jx_iload_n 79 hX 2 rfl rfl dX2_takeTemperatures_78 rfl ?_))
      obtain ⟨hc17, h⟩ := h
      refine jx_caload 80 hX hc17 dX2_takeTemperatures_79 rfl (jx_bipush 82 hX 47 (by decide) dX2_takeTemperatures_80 rfl ?_)
      refine jx_icmp_ne 85 122 hX dX2_takeTemperatures_82 rfl (by decide) (fun hb18 => ?_) (fun hb18 => ?_)
      · have h := h.1 hb18
        refine jx_iconst 123 hX 0 (by decide) dX2_takeTemperatures_122 rfl ?_
        exact jx_zret hX dX2_takeTemperatures_123 (by decide) h
      · have h := h.2 hb18
        refine jx_aload_n 86 hX 1 rfl rfl dX2_takeTemperatures_85 rfl (jx_getR 89 hX jf_X2_37 rfl hc7 dX2_takeTemperatures_86 rfl ?_)
        obtain ⟨hc19, h⟩ := h
        refine jx_getI 92 hX jf_X2_169 rfl hc19 dX2_takeTemperatures_89 rfl (jx_sipush 95 hX (-1001) (by decide) dX2_takeTemperatures_92 rfl ?_)
        refine jx_icmp_eq 98 122 hX dX2_takeTemperatures_95 rfl (by decide) (fun hb20 => ?_) (fun hb20 => ?_)
        · have h := h.1 hb20
          refine jx_iconst 123 hX 0 (by decide) dX2_takeTemperatures_122 rfl ?_
          exact jx_zret hX dX2_takeTemperatures_123 (by decide) h
        · have h := h.2 hb20
          refine jx_aload_n 99 hX 1 rfl rfl dX2_takeTemperatures_98 rfl (jx_getR 102 hX jf_X2_37 rfl hc7 dX2_takeTemperatures_99 rfl (jx_getI 105 hX jf_X2_172 rfl hc19 dX2_takeTemperatures_102 rfl (jx_sipush 108 hX (-1001) (by decide) dX2_takeTemperatures_105 rfl ?_)))
          refine jx_icmp_eq 111 122 hX dX2_takeTemperatures_108 rfl (by decide) (fun hb21 => ?_) (fun hb21 => ?_)
          · have h := h.1 hb21
            refine jx_iconst 123 hX 0 (by decide) dX2_takeTemperatures_122 rfl ?_
            exact jx_zret hX dX2_takeTemperatures_123 (by decide) h
          · have h := h.2 hb21
            refine jx_aload_n 112 hX 1 rfl rfl dX2_takeTemperatures_111 rfl ?_
            refine jx_callVi 115 hX (mX2_takeToken _ D _ a0 s15 h) jv_X2_51 jn_2 hc7 ⟨rfl, rfl, by decide, by decide⟩ rfl rfl (Nat.le_of_ble_eq_true rfl) dX2_takeTemperatures_112 rfl (fun r22 s23 h => ?_)
            obtain ⟨hz24, h⟩ := h
            have h := h hz24
            refine jx_if_eq 118 122 hX dX2_takeTemperatures_115 rfl (by decide) (fun hb25 => ?_) (fun hb25 => ?_)
            · have h := h.1 hb25
              refine jx_iconst 123 hX 0 (by decide) dX2_takeTemperatures_122 rfl ?_
              exact jx_zret hX dX2_takeTemperatures_123 (by decide) h
            · have h := h.2 hb25
              refine jx_iconst 119 hX 1 (by decide) dX2_takeTemperatures_118 rfl (jx_goto 123 hX dX2_takeTemperatures_119 (by decide) ?_)
              exact jx_zret hX dX2_takeTemperatures_123 (by decide) h
  have b16 : ∀ (a0 : Nat) (k0 : Int32) (s : jx_St), wX2_takeTemperatures_b16 post a0 k0 s → jx_J D jx_LX X 16 [(0, .ref (D.2.1 a0))] [.int k0] s := by
    intro a0 k0 s h
    unfold wX2_takeTemperatures_b16 at h
    refine jx_istore_n 17 hX [(1, .int k0), (0, .ref (D.2.1 a0))] rfl (by decide) rfl dX2_takeTemperatures_16 rfl (jx_aload_n 18 hX 1 rfl rfl dX2_takeTemperatures_17 rfl ?_)
    obtain ⟨hc4, h⟩ := h
    refine jx_getR 21 hX jf_X2_25 rfl hc4 dX2_takeTemperatures_18 rfl (jx_iload_n 22 hX 0 rfl rfl dX2_takeTemperatures_21 rfl (jx_iconst 23 hX 1 (by decide) dX2_takeTemperatures_22 rfl (jx_iadd 24 hX dX2_takeTemperatures_23 rfl ?_)))
    obtain ⟨hc5, h⟩ := h
    refine jx_caload 25 hX hc5 dX2_takeTemperatures_24 rfl (jx_bipush 27 hX 77 (by decide) dX2_takeTemperatures_25 rfl ?_)
    refine jx_icmp_ne 30 36 hX dX2_takeTemperatures_27 rfl (by decide) (fun hb6 => ?_) (fun hb6 => ?_)
    · have h := h.1 hb6
      refine jx_iload_n 37 hX 0 rfl rfl dX2_takeTemperatures_36 rfl (jx_iconst 38 hX 3 (by decide) dX2_takeTemperatures_37 rfl (jx_iadd 39 hX dX2_takeTemperatures_38 rfl ?_))
      exact jx_sub [1, 0] rfl (b39 a0 k0 (k0 + 3) s h)
    · have h := h.2 hb6
      refine jx_iload_n 31 hX 0 rfl rfl dX2_takeTemperatures_30 rfl (jx_iconst 32 hX 4 (by decide) dX2_takeTemperatures_31 rfl (jx_iadd 33 hX dX2_takeTemperatures_32 rfl (jx_goto 39 hX dX2_takeTemperatures_33 (by decide) ?_)))
      exact jx_sub [1, 0] rfl (b39 a0 k0 (k0 + 4) s h)
  unfold wX2_takeTemperatures at h
  refine jx_aload_n 1 hX 0 rfl rfl dX2_takeTemperatures_0 rfl ?_
  obtain ⟨hc1, h⟩ := h
  refine jx_getR 4 hX jf_X2_25 rfl hc1 dX2_takeTemperatures_1 rfl (jx_iconst 5 hX 0 (by decide) dX2_takeTemperatures_4 rfl ?_)
  obtain ⟨hc2, h⟩ := h
  refine jx_caload 6 hX hc2 dX2_takeTemperatures_5 rfl (jx_bipush 8 hX 77 (by decide) dX2_takeTemperatures_6 rfl ?_)
  refine jx_icmp_ne 11 15 hX dX2_takeTemperatures_8 rfl (by decide) (fun hb3 => ?_) (fun hb3 => ?_)
  · have h := h.1 hb3
    refine jx_iconst 16 hX 2 (by decide) dX2_takeTemperatures_15 rfl ?_
    exact jx_sub [0] rfl (b16 a0 2 s h)
  · have h := h.2 hb3
    refine jx_iconst 12 hX 3 (by decide) dX2_takeTemperatures_11 rfl (jx_goto 16 hX dX2_takeTemperatures_12 (by decide) ?_)
    exact jx_sub [0] rfl (b16 a0 3 s h)
set_option maxHeartbeats 4000000 in
set_option maxRecDepth 100000 in
theorem mX2_takePressure (l : Launch) (D : jx_Dt) (post : Int32 → jx_St → Prop) (a0 : Nat) (s : jx_St) (h : wX2_takePressure post a0 s) : jx_Met l yX2_takePressure cX2_takePressure 1 (some .boolean) (jx_r 1 24) D jx_LX [.ref (D.2.1 a0)] s (jx_Qi D jx_LX (fun r u => (r = 0 ∨ r = 1) ∧ post r u)) := by
  refine jx_ofJ (by decide) (Nat.le_of_ble_eq_true rfl) (fun X hl hX => ?_)
  subst hl
  replace hX : jx_K D jx_LX X cX2_takePressure RX2 1 (some .boolean) (jx_r 1 24) (jx_Qi D jx_LX (fun r u => (r = 0 ∨ r = 1) ∧ post r u)) := hX
  show jx_J D jx_LX X 0 [(0, .ref (D.2.1 a0))] [] s
  unfold wX2_takePressure at h
  refine jx_aload_n 1 hX 0 rfl rfl dX2_takePressure_0 rfl ?_
  obtain ⟨hc1, h⟩ := h
  refine jx_getR 4 hX jf_X2_37 rfl hc1 dX2_takePressure_1 rfl (jx_aload_n 5 hX 0 rfl rfl dX2_takePressure_4 rfl (jx_iconst 6 hX 1 (by decide) dX2_takePressure_5 rfl (jx_iconst 7 hX 4 (by decide) dX2_takePressure_6 rfl ?_)))
  refine jx_callVi 10 hX (mX2_digits _ D _ a0 1 4 s h) jv_X2_175 jn_2 hc1 ⟨rfl, rfl, by decide, by decide⟩ rfl rfl (Nat.le_of_ble_eq_true rfl) dX2_takePressure_7 rfl (fun r2 s3 h => ?_)
  obtain ⟨hc4, h⟩ := h
  refine jx_putI 13 hX jp_X2_178 rfl hc4 dX2_takePressure_10 rfl ?_
  refine jx_namu (fun s5 hs5 => ?_)
  have h := h s5 hs5
  refine jx_aload_n 14 hX 0 rfl rfl dX2_takePressure_13 rfl (jx_getI 17 hX jf_X2_22 rfl hc1 dX2_takePressure_14 rfl (jx_iconst 18 hX 5 (by decide) dX2_takePressure_17 rfl ?_))
  refine jx_icmp_ne 21 54 hX dX2_takePressure_18 rfl (by decide) (fun hb6 => ?_) (fun hb6 => ?_)
  · have h := h.1 hb6
    refine jx_iconst 55 hX 0 (by decide) dX2_takePressure_54 rfl ?_
    exact jx_zret hX dX2_takePressure_55 (by decide) h
  · have h := h.2 hb6
    refine jx_aload_n 22 hX 0 rfl rfl dX2_takePressure_21 rfl (jx_getR 25 hX jf_X2_25 rfl hc1 dX2_takePressure_22 rfl (jx_iconst 26 hX 0 (by decide) dX2_takePressure_25 rfl ?_))
    obtain ⟨hc7, h⟩ := h
    refine jx_caload 27 hX hc7 dX2_takePressure_26 rfl (jx_bipush 29 hX 81 (by decide) dX2_takePressure_27 rfl ?_)
    refine jx_icmp_ne 32 54 hX dX2_takePressure_29 rfl (by decide) (fun hb8 => ?_) (fun hb8 => ?_)
    · have h := h.1 hb8
      refine jx_iconst 55 hX 0 (by decide) dX2_takePressure_54 rfl ?_
      exact jx_zret hX dX2_takePressure_55 (by decide) h
    · have h := h.2 hb8
      refine jx_aload_n 33 hX 0 rfl rfl dX2_takePressure_32 rfl (jx_getR 36 hX jf_X2_37 rfl hc1 dX2_takePressure_33 rfl ?_)
      obtain ⟨hc9, h⟩ := h
      refine jx_getI 39 hX jf_X2_178 rfl hc9 dX2_takePressure_36 rfl (jx_iconst 40 hX (-1) (by decide) dX2_takePressure_39 rfl ?_)
      refine jx_icmp_eq 43 54 hX dX2_takePressure_40 rfl (by decide) (fun hb10 => ?_) (fun hb10 => ?_)
      · have h := h.1 hb10
        refine jx_iconst 55 hX 0 (by decide) dX2_takePressure_54 rfl ?_
        exact jx_zret hX dX2_takePressure_55 (by decide) h
      · have h := h.2 hb10
        refine jx_aload_n 44 hX 0 rfl rfl dX2_takePressure_43 rfl ?_
        refine jx_callVi 47 hX (mX2_takeToken _ D _ a0 s5 h) jv_X2_51 jn_2 hc1 ⟨rfl, rfl, by decide, by decide⟩ rfl rfl (Nat.le_of_ble_eq_true rfl) dX2_takePressure_44 rfl (fun r11 s12 h => ?_)
        obtain ⟨hz13, h⟩ := h
        have h := h hz13
        refine jx_if_eq 50 54 hX dX2_takePressure_47 rfl (by decide) (fun hb14 => ?_) (fun hb14 => ?_)
        · have h := h.1 hb14
          refine jx_iconst 55 hX 0 (by decide) dX2_takePressure_54 rfl ?_
          exact jx_zret hX dX2_takePressure_55 (by decide) h
        · have h := h.2 hb14
          refine jx_iconst 51 hX 1 (by decide) dX2_takePressure_50 rfl (jx_goto 55 hX dX2_takePressure_51 (by decide) ?_)
          exact jx_zret hX dX2_takePressure_55 (by decide) h
set_option maxHeartbeats 4000000 in
set_option maxRecDepth 100000 in
theorem mX2_takeReport (l : Launch) (D : jx_Dt) (post : Int32 → jx_St → Prop) (a0 : Nat) (s : jx_St) (h : wX2_takeReport post a0 s) : jx_Met l yX2_takeReport cX2_takeReport 1 (some .boolean) (jx_r 9 235) D jx_LX [.ref (D.2.1 a0)] s (jx_Qi D jx_LX (fun r u => (r = 0 ∨ r = 1) ∧ post r u)) := by
  refine jx_ofJ (by decide) (Nat.le_of_ble_eq_true rfl) (fun X hl hX => ?_)
  subst hl
  replace hX : jx_K D jx_LX X cX2_takeReport RX2 1 (some .boolean) (jx_r 9 235) (jx_Qi D jx_LX (fun r u => (r = 0 ∨ r = 1) ∧ post r u)) := hX
  show jx_J D jx_LX X 0 [(0, .ref (D.2.1 a0))] [] s
  unfold wX2_takeReport at h
  refine jx_aload_n 1 hX 0 rfl rfl dX2_takeReport_0 rfl (jx_aload_n 2 hX 0 rfl rfl dX2_takeReport_1 rfl ?_)
  obtain ⟨hc1, h⟩ := h
  refine jx_getR 5 hX jf_X2_37 rfl hc1 dX2_takeReport_2 rfl ?_
  obtain ⟨hc2, h⟩ := h
  refine jx_getR 8 hX jf_X2_85 rfl hc2 dX2_takeReport_5 rfl (jx_iconst 9 hX 0 (by decide) dX2_takeReport_8 rfl ?_)
  obtain ⟨hc3, h⟩ := h
  refine jx_aaload 10 hX hc3 dX2_takeReport_9 rfl ?_
  refine jx_callVi 13 hX (mX2_takeWhole _ D _ a0 (s.2 (s.2 (s.2 a0 7) 8) (0 : Int32).toNatClampNeg) s h) jv_X2_89 jn_2 hc1 ⟨rfl, rfl, by decide, by decide⟩ rfl rfl (Nat.le_of_ble_eq_true rfl) dX2_takeReport_10 rfl (fun r4 s5 h => ?_)
  obtain ⟨hz6, h⟩ := h
  have h := h hz6
  refine jx_if_eq 16 34 hX dX2_takeReport_13 rfl (by decide) (fun hb7 => ?_) (fun hb7 => ?_)
  · have h := h.1 hb7
    refine jx_iconst 35 hX 0 (by decide) dX2_takeReport_34 rfl ?_
    exact jx_zret hX dX2_takeReport_35 (by decide) h
  · have h := h.2 hb7
    refine jx_aload_n 17 hX 0 rfl rfl dX2_takeReport_16 rfl ?_
    refine jx_callVi 20 hX (mX2_takeTemperatures _ D _ a0 s5 h) jv_X2_93 jn_2 hc1 ⟨rfl, rfl, by decide, by decide⟩ rfl rfl (Nat.le_of_ble_eq_true rfl) dX2_takeReport_17 rfl (fun r8 s9 h => ?_)
    obtain ⟨hz10, h⟩ := h
    have h := h hz10
    refine jx_if_eq 23 34 hX dX2_takeReport_20 rfl (by decide) (fun hb11 => ?_) (fun hb11 => ?_)
    · have h := h.1 hb11
      refine jx_iconst 35 hX 0 (by decide) dX2_takeReport_34 rfl ?_
      exact jx_zret hX dX2_takeReport_35 (by decide) h
    · have h := h.2 hb11
      refine jx_aload_n 24 hX 0 rfl rfl dX2_takeReport_23 rfl ?_
      refine jx_callVi 27 hX (mX2_takePressure _ D _ a0 s9 h) jv_X2_96 jn_2 hc1 ⟨rfl, rfl, by decide, by decide⟩ rfl rfl (Nat.le_of_ble_eq_true rfl) dX2_takeReport_24 rfl (fun r12 s13 h => ?_)
      obtain ⟨hz14, h⟩ := h
      have h := h hz14
      refine jx_if_eq 30 34 hX dX2_takeReport_27 rfl (by decide) (fun hb15 => ?_) (fun hb15 => ?_)
      · have h := h.1 hb15
        refine jx_iconst 35 hX 0 (by decide) dX2_takeReport_34 rfl ?_
        exact jx_zret hX dX2_takeReport_35 (by decide) h
      · have h := h.2 hb15
        refine jx_iconst 31 hX 1 (by decide) dX2_takeReport_30 rfl (jx_goto 35 hX dX2_takeReport_31 (by decide) ?_)
        exact jx_zret hX dX2_takeReport_35 (by decide) h
set_option maxHeartbeats 4000000 in
set_option maxRecDepth 100000 in
theorem mX2_takeForecastPeriod (l : Launch) (D : jx_Dt) (post : Int32 → jx_St → Prop) (a0 : Nat) (a1 : Nat) (s : jx_St) (h : wX2_takeForecastPeriod post a0 a1 s) : jx_Met l yX2_takeForecastPeriod cX2_takeForecastPeriod 3 (some .boolean) (jx_r 3 73) D jx_LX [.ref (D.2.1 a0), .ref (D.2.1 a1)] s (jx_Qi D jx_LX (fun r u => (r = 0 ∨ r = 1) ∧ post r u)) := by
  refine jx_ofJ (by decide) (Nat.le_of_ble_eq_true rfl) (fun X hl hX => ?_)
  subst hl
  replace hX : jx_K D jx_LX X cX2_takeForecastPeriod RX2 3 (some .boolean) (jx_r 3 73) (jx_Qi D jx_LX (fun r u => (r = 0 ∨ r = 1) ∧ post r u)) := hX
  show jx_J D jx_LX X 0 [(0, .ref (D.2.1 a0)), (1, .ref (D.2.1 a1))] [] s
  unfold wX2_takeForecastPeriod at h
  refine jx_aload_n 1 hX 0 rfl rfl dX2_takeForecastPeriod_0 rfl ?_
  obtain ⟨hc1, h⟩ := h
  refine jx_getR 4 hX jf_X2_37 rfl hc1 dX2_takeForecastPeriod_1 rfl ?_
  obtain ⟨hc2, h⟩ := h
  refine jx_getI 7 hX jf_X2_163 rfl hc2 dX2_takeForecastPeriod_4 rfl (jx_aload_n 8 hX 0 rfl rfl dX2_takeForecastPeriod_7 rfl (jx_getR 11 hX jf_X2_37 rfl hc1 dX2_takeForecastPeriod_8 rfl (jx_getI 14 hX jf_X2_163 rfl hc2 dX2_takeForecastPeriod_11 rfl (jx_sipush 17 hX 1440 (by decide) dX2_takeForecastPeriod_14 rfl (jx_irem 18 hX (by decide) dX2_takeForecastPeriod_17 rfl ?_)))))
  refine jx_isub 19 hX dX2_takeForecastPeriod_18 rfl ?_
  refine jx_topi (fun x3 hx3 => ?_)
  have h := h x3 hx3
  refine jx_istore_n 20 hX [(2, .int x3), (0, .ref (D.2.1 a0)), (1, .ref (D.2.1 a1))] rfl (by decide) rfl dX2_takeForecastPeriod_19 rfl (jx_aload_n 21 hX 1 rfl rfl dX2_takeForecastPeriod_20 rfl (jx_aload_n 22 hX 2 rfl rfl dX2_takeForecastPeriod_21 rfl (jx_iload_n 23 hX 0 rfl rfl dX2_takeForecastPeriod_22 rfl ?_)))
  refine jx_callVi 26 hX (mX2_findPeriod _ D _ a0 a1 x3 s h) jv_X2_181 jn_2 hc1 ⟨rfl, rfl, by decide, by decide⟩ rfl rfl (Nat.le_of_ble_eq_true rfl) dX2_takeForecastPeriod_23 rfl (fun r4 s5 h => ?_)
  obtain ⟨hz6, h⟩ := h
  have h := h hz6
  refine jx_if_eq 29 55 hX dX2_takeForecastPeriod_26 rfl (by decide) (fun hb7 => ?_) (fun hb7 => ?_)
  · have h := h.1 hb7
    refine jx_iconst 56 hX 0 (by decide) dX2_takeForecastPeriod_55 rfl ?_
    exact jx_zret hX dX2_takeForecastPeriod_56 (by decide) h
  · have h := h.2 hb7
    refine jx_aload_n 30 hX 2 rfl rfl dX2_takeForecastPeriod_29 rfl ?_
    obtain ⟨hc8, h⟩ := h
    refine jx_getI 33 hX jf_X2_185 rfl hc8 dX2_takeForecastPeriod_30 rfl (jx_aload_n 34 hX 2 rfl rfl dX2_takeForecastPeriod_33 rfl (jx_getI 37 hX jf_X2_188 rfl hc8 dX2_takeForecastPeriod_34 rfl (jx_isub 38 hX dX2_takeForecastPeriod_37 rfl (jx_sipush 41 hX 1800 (by decide) dX2_takeForecastPeriod_38 rfl ?_))))
    refine jx_icmp_gt 44 55 hX dX2_takeForecastPeriod_41 rfl (by decide) (fun hb9 => ?_) (fun hb9 => ?_)
    · have h := h.1 hb9
      refine jx_iconst 56 hX 0 (by decide) dX2_takeForecastPeriod_55 rfl ?_
      exact jx_zret hX dX2_takeForecastPeriod_56 (by decide) h
    · have h := h.2 hb9
      refine jx_aload_n 45 hX 1 rfl rfl dX2_takeForecastPeriod_44 rfl ?_
      refine jx_callVi 48 hX (mX2_takeToken _ D _ a0 s5 h) jv_X2_51 jn_2 hc1 ⟨rfl, rfl, by decide, by decide⟩ rfl rfl (Nat.le_of_ble_eq_true rfl) dX2_takeForecastPeriod_45 rfl (fun r10 s11 h => ?_)
      obtain ⟨hz12, h⟩ := h
      have h := h hz12
      refine jx_if_eq 51 55 hX dX2_takeForecastPeriod_48 rfl (by decide) (fun hb13 => ?_) (fun hb13 => ?_)
      · have h := h.1 hb13
        refine jx_iconst 56 hX 0 (by decide) dX2_takeForecastPeriod_55 rfl ?_
        exact jx_zret hX dX2_takeForecastPeriod_56 (by decide) h
      · have h := h.2 hb13
        refine jx_iconst 52 hX 1 (by decide) dX2_takeForecastPeriod_51 rfl (jx_goto 56 hX dX2_takeForecastPeriod_52 (by decide) ?_)
        exact jx_zret hX dX2_takeForecastPeriod_56 (by decide) h
set_option maxHeartbeats 4000000 in
set_option maxRecDepth 100000 in
theorem mX2_takeFromTime (l : Launch) (D : jx_Dt) (post : Int32 → jx_St → Prop) (a0 : Nat) (a1 : Nat) (s : jx_St) (h : wX2_takeFromTime post a0 a1 s) : jx_Met l yX2_takeFromTime cX2_takeFromTime 4 (some .boolean) (jx_r 6 164) D jx_LX [.ref (D.2.1 a0), .ref (D.2.1 a1)] s (jx_Qi D jx_LX (fun r u => (r = 0 ∨ r = 1) ∧ post r u)) := by
  refine jx_ofJ (by decide) (Nat.le_of_ble_eq_true rfl) (fun X hl hX => ?_)
  subst hl
  replace hX : jx_K D jx_LX X cX2_takeFromTime RX2 4 (some .boolean) (jx_r 6 164) (jx_Qi D jx_LX (fun r u => (r = 0 ∨ r = 1) ∧ post r u)) := hX
  show jx_J D jx_LX X 0 [(0, .ref (D.2.1 a0)), (1, .ref (D.2.1 a1))] [] s
  have b61 : ∀ (a0 : Nat) (a1 : Nat) (a2 : Nat) (a3 : Int32) (s : jx_St), wX2_takeFromTime_b61 post a0 a1 a2 a3 s → jx_J D jx_LX X 61 [(0, .ref (D.2.1 a0)), (1, .ref (D.2.1 a1)), (2, .ref (D.2.1 a2)), (3, .int a3)] [] s := by
    intro a0 a1 a2 a3 s h
    unfold wX2_takeFromTime_b61 at h
    refine jx_iload_n 62 hX 3 rfl rfl dX2_takeFromTime_61 rfl (jx_aload_n 63 hX 2 rfl rfl dX2_takeFromTime_62 rfl ?_)
    obtain ⟨hc16, h⟩ := h
    refine jx_getI 66 hX jf_X2_188 rfl hc16 dX2_takeFromTime_63 rfl ?_
    refine jx_icmp_lt 69 85 hX dX2_takeFromTime_66 rfl (by decide) (fun hb17 => ?_) (fun hb17 => ?_)
    · have h := h.1 hb17
      refine jx_iconst 86 hX 0 (by decide) dX2_takeFromTime_85 rfl ?_
      exact jx_zret hX dX2_takeFromTime_86 (by decide) h
    · have h := h.2 hb17
      refine jx_iload_n 70 hX 3 rfl rfl dX2_takeFromTime_69 rfl (jx_aload_n 71 hX 2 rfl rfl dX2_takeFromTime_70 rfl (jx_getI 74 hX jf_X2_185 rfl hc16 dX2_takeFromTime_71 rfl ?_))
      refine jx_icmp_ge 77 85 hX dX2_takeFromTime_74 rfl (by decide) (fun hb18 => ?_) (fun hb18 => ?_)
      · have h := h.1 hb18
        refine jx_iconst 86 hX 0 (by decide) dX2_takeFromTime_85 rfl ?_
        exact jx_zret hX dX2_takeFromTime_86 (by decide) h
      · have h := h.2 hb18
        refine jx_iload_n 78 hX 3 rfl rfl dX2_takeFromTime_77 rfl (jx_aload_n 79 hX 0 rfl rfl dX2_takeFromTime_78 rfl ?_)
        obtain ⟨hc19, h⟩ := h
        refine jx_getI 82 hX jf_X2_31 rfl hc19 dX2_takeFromTime_79 rfl ?_
        refine jx_icmp_gt 85 87 hX dX2_takeFromTime_82 rfl (by decide) (fun hb20 => ?_) (fun hb20 => ?_)
        · have h := h.1 hb20
          refine jx_aload_n 88 hX 0 rfl rfl dX2_takeFromTime_87 rfl (jx_iload_n 89 hX 3 rfl rfl dX2_takeFromTime_88 rfl (jx_putI 92 hX jp_X2_31 rfl hc19 dX2_takeFromTime_89 rfl ?_))
          refine jx_namu (fun s21 hs21 => ?_)
          have h := h s21 hs21
          refine jx_aload_n 93 hX 1 rfl rfl dX2_takeFromTime_92 rfl (jx_iconst 94 hX 1 (by decide) dX2_takeFromTime_93 rfl ?_)
          obtain ⟨hc22, h⟩ := h
          refine jx_putI 97 hX jp_X2_119 rfl hc22 dX2_takeFromTime_94 rfl ?_
          refine jx_namu (fun s23 hs23 => ?_)
          have h := h s23 hs23
          refine jx_aload_n 98 hX 1 rfl rfl dX2_takeFromTime_97 rfl (jx_iload_n 99 hX 3 rfl rfl dX2_takeFromTime_98 rfl (jx_putI 102 hX jp_X2_188 rfl hc22 dX2_takeFromTime_99 rfl ?_))
          refine jx_namu (fun s24 hs24 => ?_)
          have h := h s24 hs24
          refine jx_aload_n 103 hX 1 rfl rfl dX2_takeFromTime_102 rfl (jx_aload_n 104 hX 2 rfl rfl dX2_takeFromTime_103 rfl (jx_getI 107 hX jf_X2_185 rfl hc16 dX2_takeFromTime_104 rfl (jx_putI 110 hX jp_X2_185 rfl hc22 dX2_takeFromTime_107 rfl ?_)))
          refine jx_namu (fun s25 hs25 => ?_)
          have h := h s25 hs25
          refine jx_aload_n 111 hX 0 rfl rfl dX2_takeFromTime_110 rfl ?_
          refine jx_callVi 114 hX (mX2_takeToken _ D _ a0 s25 h) jv_X2_51 jn_2 hc19 ⟨rfl, rfl, by decide, by decide⟩ rfl rfl (Nat.le_of_ble_eq_true rfl) dX2_takeFromTime_111 rfl (fun r26 s27 h => ?_)
          obtain ⟨hz28, h⟩ := h
          have h := h hz28
          exact jx_zret hX dX2_takeFromTime_114 hz28 h
        · have h := h.2 hb20
          refine jx_iconst 86 hX 0 (by decide) dX2_takeFromTime_85 rfl ?_
          exact jx_zret hX dX2_takeFromTime_86 (by decide) h
  unfold wX2_takeFromTime at h
  refine jx_aload_n 1 hX 0 rfl rfl dX2_takeFromTime_0 rfl ?_
  obtain ⟨hc1, h⟩ := h
  refine jx_getR 4 hX jf_X2_37 rfl hc1 dX2_takeFromTime_1 rfl ?_
  obtain ⟨hc2, h⟩ := h
  refine jx_getR 7 hX jf_X2_85 rfl hc2 dX2_takeFromTime_4 rfl (jx_iconst 8 hX 0 (by decide) dX2_takeFromTime_7 rfl ?_)
  obtain ⟨hc3, h⟩ := h
  refine jx_aaload 9 hX hc3 dX2_takeFromTime_8 rfl ?_
  refine jx_topc (fun x4 hx4 => ?_)
  have h := h x4 hx4
  refine jx_astore_n 10 hX [(2, .ref (D.2.1 x4)), (0, .ref (D.2.1 a0)), (1, .ref (D.2.1 a1))] rfl (by decide) rfl dX2_takeFromTime_9 rfl (jx_aload_n 11 hX 1 rfl rfl dX2_takeFromTime_10 rfl (jx_iconst 12 hX 2 (by decide) dX2_takeFromTime_11 rfl ?_))
  refine jx_callVi 15 hX (mX2_timeAt _ D _ a0 2 s h) jv_X2_159 jn_2 hc1 ⟨rfl, rfl, by decide, by decide⟩ rfl rfl (Nat.le_of_ble_eq_true rfl) dX2_takeFromTime_12 rfl (fun r5 s6 h => ?_)
  refine jx_istore_n 16 hX [(3, .int r5), (2, .ref (D.2.1 x4)), (0, .ref (D.2.1 a0)), (1, .ref (D.2.1 a1))] rfl (by decide) rfl dX2_takeFromTime_15 rfl (jx_aload_n 17 hX 2 rfl rfl dX2_takeFromTime_16 rfl (jx_getI 20 hX jf_X2_22 rfl hc1 dX2_takeFromTime_17 rfl (jx_bipush 22 hX 8 (by decide) dX2_takeFromTime_20 rfl ?_)))
  refine jx_icmp_ne 25 40 hX dX2_takeFromTime_22 rfl (by decide) (fun hb7 => ?_) (fun hb7 => ?_)
  · have h := h.1 hb7
    refine jx_iconst 41 hX 0 (by decide) dX2_takeFromTime_40 rfl ?_
    exact jx_zret hX dX2_takeFromTime_41 (by decide) h
  · have h := h.2 hb7
    refine jx_aload_n 26 hX 2 rfl rfl dX2_takeFromTime_25 rfl (jx_iconst 27 hX 0 (by decide) dX2_takeFromTime_26 rfl (jx_ldcS 29 hX 13 (by decide) rfl dX2_takeFromTime_27 rfl ?_))
    refine jx_callVi 32 hX (mX2_holds _ D _ a0 0 13 s6 h) jv_X2_196 jn_2 hc1 ⟨rfl, rfl, by decide, by decide⟩ rfl rfl (Nat.le_of_ble_eq_true rfl) dX2_takeFromTime_29 rfl (fun r8 s9 h => ?_)
    obtain ⟨hz10, h⟩ := h
    have h := h hz10
    refine jx_if_eq 35 40 hX dX2_takeFromTime_32 rfl (by decide) (fun hb11 => ?_) (fun hb11 => ?_)
    · have h := h.1 hb11
      refine jx_iconst 41 hX 0 (by decide) dX2_takeFromTime_40 rfl ?_
      exact jx_zret hX dX2_takeFromTime_41 (by decide) h
    · have h := h.2 hb11
      refine jx_iload_n 36 hX 0 rfl rfl dX2_takeFromTime_35 rfl (jx_iconst 37 hX (-1) (by decide) dX2_takeFromTime_36 rfl ?_)
      refine jx_icmp_ne 40 42 hX dX2_takeFromTime_37 rfl (by decide) (fun hb12 => ?_) (fun hb12 => ?_)
      · have h := h.1 hb12
        refine jx_iload_n 43 hX 0 rfl rfl dX2_takeFromTime_42 rfl (jx_aload_n 44 hX 1 rfl rfl dX2_takeFromTime_43 rfl ?_)
        obtain ⟨hc13, h⟩ := h
        refine jx_getI 47 hX jf_X2_188 rfl hc13 dX2_takeFromTime_44 rfl ?_
        refine jx_icmp_ge 50 61 hX dX2_takeFromTime_47 rfl (by decide) (fun hb14 => ?_) (fun hb14 => ?_)
        · have h := h.1 hb14
          exact jx_sub [2, 3, 1, 0] rfl (b61 a0 a1 x4 r5 s9 h)
        · have h := h.2 hb14
          refine jx_iload_n 51 hX 0 rfl rfl dX2_takeFromTime_50 rfl (jx_aload_n 52 hX 2 rfl rfl dX2_takeFromTime_51 rfl (jx_getI 55 hX jf_X2_28 rfl hc1 dX2_takeFromTime_52 rfl (jx_sipush 58 hX 1440 (by decide) dX2_takeFromTime_55 rfl (jx_imul 59 hX dX2_takeFromTime_58 rfl (jx_iadd 60 hX dX2_takeFromTime_59 rfl ?_)))))
          refine jx_topi (fun x15 hx15 => ?_)
          have h := h x15 hx15
          refine jx_istore_n 61 hX [(3, .int x15), (2, .ref (D.2.1 x4)), (0, .ref (D.2.1 a0)), (1, .ref (D.2.1 a1))] rfl (by decide) rfl dX2_takeFromTime_60 rfl ?_
          exact jx_sub [2, 3, 1, 0] rfl (b61 a0 a1 x4 x15 s9 h)
      · have h := h.2 hb12
        refine jx_iconst 41 hX 0 (by decide) dX2_takeFromTime_40 rfl ?_
        exact jx_zret hX dX2_takeFromTime_41 (by decide) h
set_option maxHeartbeats 4000000 in
set_option maxRecDepth 100000 in
theorem mX2_takeChangeName (l : Launch) (D : jx_Dt) (post : Int32 → jx_St → Prop) (a0 : Nat) (a1 : Nat) (s : jx_St) (h : wX2_takeChangeName post a0 a1 s) : jx_Met l yX2_takeChangeName cX2_takeChangeName 2 (some .boolean) (jx_r 7 185) D jx_LX [.ref (D.2.1 a0), .ref (D.2.1 a1)] s (jx_Qi D jx_LX (fun r u => (r = 0 ∨ r = 1) ∧ post r u)) := by
  refine jx_ofJ (by decide) (Nat.le_of_ble_eq_true rfl) (fun X hl hX => ?_)
  subst hl
  replace hX : jx_K D jx_LX X cX2_takeChangeName RX2 2 (some .boolean) (jx_r 7 185) (jx_Qi D jx_LX (fun r u => (r = 0 ∨ r = 1) ∧ post r u)) := hX
  show jx_J D jx_LX X 0 [(0, .ref (D.2.1 a0)), (1, .ref (D.2.1 a1))] [] s
  have b70 : ∀ (a0 : Nat) (a1 : Nat) (s : jx_St), wX2_takeChangeName_b70 post a0 a1 s → jx_J D jx_LX X 70 [(0, .ref (D.2.1 a0)), (1, .ref (D.2.1 a1))] [] s := by
    intro a0 a1 s h
    unfold wX2_takeChangeName_b70 at h
    refine jx_aload_n 71 hX 1 rfl rfl dX2_takeChangeName_70 rfl (jx_aload_n 72 hX 0 rfl rfl dX2_takeChangeName_71 rfl (jx_ldcS 74 hX 15 (by decide) rfl dX2_takeChangeName_72 rfl ?_))
    obtain ⟨hc26, h⟩ := h
    refine jx_callVi 77 hX (mX2_takeWord _ D _ a0 15 s h) jv_X2_73 jn_2 hc26 ⟨rfl, rfl, by decide, by decide⟩ rfl rfl (Nat.le_of_ble_eq_true rfl) dX2_takeChangeName_74 rfl (fun r27 s28 h => ?_)
    obtain ⟨hz29, h⟩ := h
    have h := h hz29
    refine jx_if_eq 80 84 hX dX2_takeChangeName_77 rfl (by decide) (fun hb30 => ?_) (fun hb30 => ?_)
    · have h := h.1 hb30
      refine jx_iconst 85 hX 4 (by decide) dX2_takeChangeName_84 rfl ?_
      obtain ⟨hc31, h⟩ := h
      refine jx_putI 88 hX jp_X2_119 rfl hc31 dX2_takeChangeName_85 rfl ?_
      refine jx_namu (fun s32 hs32 => ?_)
      have h := h s32 hs32
      refine jx_iconst 89 hX 1 (by decide) dX2_takeChangeName_88 rfl ?_
      exact jx_zret hX dX2_takeChangeName_89 (by decide) h
    · have h := h.2 hb30
      refine jx_iconst 81 hX 5 (by decide) dX2_takeChangeName_80 rfl (jx_goto 85 hX dX2_takeChangeName_81 (by decide) ?_)
      obtain ⟨hc33, h⟩ := h
      refine jx_putI 88 hX jp_X2_119 rfl hc33 dX2_takeChangeName_85 rfl ?_
      refine jx_namu (fun s34 hs34 => ?_)
      have h := h s34 hs34
      refine jx_iconst 89 hX 1 (by decide) dX2_takeChangeName_88 rfl ?_
      exact jx_zret hX dX2_takeChangeName_89 (by decide) h
  unfold wX2_takeChangeName at h
  refine jx_aload_n 1 hX 0 rfl rfl dX2_takeChangeName_0 rfl (jx_ldcS 3 hX 14 (by decide) rfl dX2_takeChangeName_1 rfl ?_)
  obtain ⟨hc1, h⟩ := h
  refine jx_callVi 6 hX (mX2_takeWord _ D _ a0 14 s h) jv_X2_73 jn_2 hc1 ⟨rfl, rfl, by decide, by decide⟩ rfl rfl (Nat.le_of_ble_eq_true rfl) dX2_takeChangeName_3 rfl (fun r2 s3 h => ?_)
  obtain ⟨hz4, h⟩ := h
  have h := h hz4
  refine jx_if_eq 9 16 hX dX2_takeChangeName_6 rfl (by decide) (fun hb5 => ?_) (fun hb5 => ?_)
  · have h := h.1 hb5
    refine jx_aload_n 17 hX 0 rfl rfl dX2_takeChangeName_16 rfl (jx_ldcS 19 hX 15 (by decide) rfl dX2_takeChangeName_17 rfl ?_)
    refine jx_callVi 22 hX (mX2_takeWord _ D _ a0 15 s3 h) jv_X2_73 jn_2 hc1 ⟨rfl, rfl, by decide, by decide⟩ rfl rfl (Nat.le_of_ble_eq_true rfl) dX2_takeChangeName_19 rfl (fun r6 s7 h => ?_)
    obtain ⟨hz8, h⟩ := h
    have h := h hz8
    refine jx_if_eq 25 32 hX dX2_takeChangeName_22 rfl (by decide) (fun hb9 => ?_) (fun hb9 => ?_)
    · have h := h.1 hb9
      refine jx_aload_n 33 hX 0 rfl rfl dX2_takeChangeName_32 rfl (jx_ldcS 35 hX 16 (by decide) rfl dX2_takeChangeName_33 rfl ?_)
      refine jx_callVi 38 hX (mX2_takeWord _ D _ a0 16 s7 h) jv_X2_73 jn_2 hc1 ⟨rfl, rfl, by decide, by decide⟩ rfl rfl (Nat.le_of_ble_eq_true rfl) dX2_takeChangeName_35 rfl (fun r10 s11 h => ?_)
      obtain ⟨hz12, h⟩ := h
      have h := h hz12
      refine jx_if_eq 41 50 hX dX2_takeChangeName_38 rfl (by decide) (fun hb13 => ?_) (fun hb13 => ?_)
      · have h := h.1 hb13
        refine jx_aload_n 51 hX 0 rfl rfl dX2_takeChangeName_50 rfl (jx_ldcS 53 hX 17 (by decide) rfl dX2_takeChangeName_51 rfl ?_)
        refine jx_callVi 56 hX (mX2_takeWord _ D _ a0 17 s11 h) jv_X2_73 jn_2 hc1 ⟨rfl, rfl, by decide, by decide⟩ rfl rfl (Nat.le_of_ble_eq_true rfl) dX2_takeChangeName_53 rfl (fun r14 s15 h => ?_)
        obtain ⟨hz16, h⟩ := h
        have h := h hz16
        refine jx_if_eq 59 68 hX dX2_takeChangeName_56 rfl (by decide) (fun hb17 => ?_) (fun hb17 => ?_)
        · have h := h.1 hb17
          refine jx_iconst 69 hX 0 (by decide) dX2_takeChangeName_68 rfl ?_
          exact jx_zret hX dX2_takeChangeName_69 (by decide) h
        · have h := h.2 hb17
          refine jx_aload_n 60 hX 1 rfl rfl dX2_takeChangeName_59 rfl (jx_bipush 62 hX 40 (by decide) dX2_takeChangeName_60 rfl ?_)
          obtain ⟨hc18, h⟩ := h
          refine jx_putI 65 hX jp_X2_126 rfl hc18 dX2_takeChangeName_62 rfl ?_
          refine jx_namu (fun s19 hs19 => ?_)
          have h := h s19 hs19
          refine jx_goto 70 hX dX2_takeChangeName_65 (by decide) ?_
          exact jx_sub [0, 1] rfl (b70 a0 a1 s19 h)
      · have h := h.2 hb13
        refine jx_aload_n 42 hX 1 rfl rfl dX2_takeChangeName_41 rfl (jx_bipush 44 hX 30 (by decide) dX2_takeChangeName_42 rfl ?_)
        obtain ⟨hc20, h⟩ := h
        refine jx_putI 47 hX jp_X2_126 rfl hc20 dX2_takeChangeName_44 rfl ?_
        refine jx_namu (fun s21 hs21 => ?_)
        have h := h s21 hs21
        refine jx_goto 70 hX dX2_takeChangeName_47 (by decide) ?_
        exact jx_sub [0, 1] rfl (b70 a0 a1 s21 h)
    · have h := h.2 hb9
      refine jx_aload_n 26 hX 1 rfl rfl dX2_takeChangeName_25 rfl (jx_iconst 27 hX 3 (by decide) dX2_takeChangeName_26 rfl ?_)
      obtain ⟨hc22, h⟩ := h
      refine jx_putI 30 hX jp_X2_119 rfl hc22 dX2_takeChangeName_27 rfl ?_
      refine jx_namu (fun s23 hs23 => ?_)
      have h := h s23 hs23
      refine jx_iconst 31 hX 1 (by decide) dX2_takeChangeName_30 rfl ?_
      exact jx_zret hX dX2_takeChangeName_31 (by decide) h
  · have h := h.2 hb5
    refine jx_aload_n 10 hX 1 rfl rfl dX2_takeChangeName_9 rfl (jx_iconst 11 hX 2 (by decide) dX2_takeChangeName_10 rfl ?_)
    obtain ⟨hc24, h⟩ := h
    refine jx_putI 14 hX jp_X2_119 rfl hc24 dX2_takeChangeName_11 rfl ?_
    refine jx_namu (fun s25 hs25 => ?_)
    have h := h s25 hs25
    refine jx_iconst 15 hX 1 (by decide) dX2_takeChangeName_14 rfl ?_
    exact jx_zret hX dX2_takeChangeName_15 (by decide) h
set_option maxHeartbeats 4000000 in
set_option maxRecDepth 100000 in
theorem mX2_takeChangePeriod (l : Launch) (D : jx_Dt) (post : Int32 → jx_St → Prop) (a0 : Nat) (a1 : Nat) (s : jx_St) (h : wX2_takeChangePeriod post a0 a1 s) : jx_Met l yX2_takeChangePeriod cX2_takeChangePeriod 3 (some .boolean) (jx_r 3 73) D jx_LX [.ref (D.2.1 a0), .ref (D.2.1 a1)] s (jx_Qi D jx_LX (fun r u => (r = 0 ∨ r = 1) ∧ post r u)) := by
  refine jx_ofJ (by decide) (Nat.le_of_ble_eq_true rfl) (fun X hl hX => ?_)
  subst hl
  replace hX : jx_K D jx_LX X cX2_takeChangePeriod RX2 3 (some .boolean) (jx_r 3 73) (jx_Qi D jx_LX (fun r u => (r = 0 ∨ r = 1) ∧ post r u)) := hX
  show jx_J D jx_LX X 0 [(0, .ref (D.2.1 a0)), (1, .ref (D.2.1 a1))] [] s
  unfold wX2_takeChangePeriod at h
  refine jx_aload_n 1 hX 0 rfl rfl dX2_takeChangePeriod_0 rfl ?_
  obtain ⟨hc1, h⟩ := h
  refine jx_getR 4 hX jf_X2_37 rfl hc1 dX2_takeChangePeriod_1 rfl ?_
  obtain ⟨hc2, h⟩ := h
  refine jx_getR 7 hX jf_X2_85 rfl hc2 dX2_takeChangePeriod_4 rfl (jx_iconst 8 hX 0 (by decide) dX2_takeChangePeriod_7 rfl ?_)
  obtain ⟨hc3, h⟩ := h
  refine jx_aaload 9 hX hc3 dX2_takeChangePeriod_8 rfl ?_
  refine jx_topc (fun x4 hx4 => ?_)
  have h := h x4 hx4
  refine jx_astore_n 10 hX [(2, .ref (D.2.1 x4)), (0, .ref (D.2.1 a0)), (1, .ref (D.2.1 a1))] rfl (by decide) rfl dX2_takeChangePeriod_9 rfl (jx_aload_n 11 hX 1 rfl rfl dX2_takeChangePeriod_10 rfl (jx_aload_n 12 hX 2 rfl rfl dX2_takeChangePeriod_11 rfl (jx_aload_n 13 hX 0 rfl rfl dX2_takeChangePeriod_12 rfl ?_)))
  obtain ⟨hc5, h⟩ := h
  refine jx_getI 16 hX jf_X2_188 rfl hc5 dX2_takeChangePeriod_13 rfl ?_
  refine jx_callVi 19 hX (mX2_findPeriod _ D _ a0 a1 (s.1 x4 2) s h) jv_X2_181 jn_2 hc1 ⟨rfl, rfl, by decide, by decide⟩ rfl rfl (Nat.le_of_ble_eq_true rfl) dX2_takeChangePeriod_16 rfl (fun r6 s7 h => ?_)
  obtain ⟨hz8, h⟩ := h
  have h := h hz8
  refine jx_if_eq 22 55 hX dX2_takeChangePeriod_19 rfl (by decide) (fun hb9 => ?_) (fun hb9 => ?_)
  · have h := h.1 hb9
    refine jx_iconst 56 hX 0 (by decide) dX2_takeChangePeriod_55 rfl ?_
    exact jx_zret hX dX2_takeChangePeriod_56 (by decide) h
  · have h := h.2 hb9
    refine jx_aload_n 23 hX 2 rfl rfl dX2_takeChangePeriod_22 rfl ?_
    obtain ⟨hc10, h⟩ := h
    refine jx_getI 26 hX jf_X2_188 rfl hc10 dX2_takeChangePeriod_23 rfl (jx_aload_n 27 hX 0 rfl rfl dX2_takeChangePeriod_26 rfl (jx_getI 30 hX jf_X2_188 rfl hc5 dX2_takeChangePeriod_27 rfl ?_))
    refine jx_icmp_lt 33 55 hX dX2_takeChangePeriod_30 rfl (by decide) (fun hb11 => ?_) (fun hb11 => ?_)
    · have h := h.1 hb11
      refine jx_iconst 56 hX 0 (by decide) dX2_takeChangePeriod_55 rfl ?_
      exact jx_zret hX dX2_takeChangePeriod_56 (by decide) h
    · have h := h.2 hb11
      refine jx_aload_n 34 hX 2 rfl rfl dX2_takeChangePeriod_33 rfl (jx_getI 37 hX jf_X2_185 rfl hc10 dX2_takeChangePeriod_34 rfl (jx_aload_n 38 hX 0 rfl rfl dX2_takeChangePeriod_37 rfl (jx_getI 41 hX jf_X2_185 rfl hc5 dX2_takeChangePeriod_38 rfl ?_)))
      refine jx_icmp_gt 44 55 hX dX2_takeChangePeriod_41 rfl (by decide) (fun hb12 => ?_) (fun hb12 => ?_)
      · have h := h.1 hb12
        refine jx_iconst 56 hX 0 (by decide) dX2_takeChangePeriod_55 rfl ?_
        exact jx_zret hX dX2_takeChangePeriod_56 (by decide) h
      · have h := h.2 hb12
        refine jx_aload_n 45 hX 1 rfl rfl dX2_takeChangePeriod_44 rfl ?_
        refine jx_callVi 48 hX (mX2_takeToken _ D _ a0 s7 h) jv_X2_51 jn_2 hc1 ⟨rfl, rfl, by decide, by decide⟩ rfl rfl (Nat.le_of_ble_eq_true rfl) dX2_takeChangePeriod_45 rfl (fun r13 s14 h => ?_)
        obtain ⟨hz15, h⟩ := h
        have h := h hz15
        refine jx_if_eq 51 55 hX dX2_takeChangePeriod_48 rfl (by decide) (fun hb16 => ?_) (fun hb16 => ?_)
        · have h := h.1 hb16
          refine jx_iconst 56 hX 0 (by decide) dX2_takeChangePeriod_55 rfl ?_
          exact jx_zret hX dX2_takeChangePeriod_56 (by decide) h
        · have h := h.2 hb16
          refine jx_iconst 52 hX 1 (by decide) dX2_takeChangePeriod_51 rfl (jx_goto 56 hX dX2_takeChangePeriod_52 (by decide) ?_)
          exact jx_zret hX dX2_takeChangePeriod_56 (by decide) h
set_option maxHeartbeats 4000000 in
set_option maxRecDepth 100000 in
theorem mX2_takeParts (l : Launch) (D : jx_Dt) (post : Int32 → jx_St → Prop) (a0 : Nat) (a1 : Nat) (s : jx_St) (h : wX2_takeParts post a0 a1 s) : jx_Met l yX2_takeParts cX2_takeParts 2 (some .boolean) (jx_r 8 214) D jx_LX [.ref (D.2.1 a0), .ref (D.2.1 a1)] s (jx_Qi D jx_LX (fun r u => (r = 0 ∨ r = 1) ∧ post r u)) := by
  refine jx_ofJ (by decide) (Nat.le_of_ble_eq_true rfl) (fun X hl hX => ?_)
  subst hl
  replace hX : jx_K D jx_LX X cX2_takeParts RX2 2 (some .boolean) (jx_r 8 214) (jx_Qi D jx_LX (fun r u => (r = 0 ∨ r = 1) ∧ post r u)) := hX
  show jx_J D jx_LX X 0 [(0, .ref (D.2.1 a0)), (1, .ref (D.2.1 a1))] [] s
  have b44 : ∀ (a0 : Nat) (a1 : Nat) (s : jx_St), wX2_takeParts_b44 post a0 a1 s → jx_J D jx_LX X 44 [(0, .ref (D.2.1 a0)), (1, .ref (D.2.1 a1))] [] s := by
    intro a0 a1 s h
    unfold wX2_takeParts_b44 at h
    refine jx_aload_n 45 hX 0 rfl rfl dX2_takeParts_44 rfl (jx_aload_n 46 hX 1 rfl rfl dX2_takeParts_45 rfl ?_)
    obtain ⟨hc20, h⟩ := h
    refine jx_callVi 49 hX (mX2_takeClouds _ D _ a0 a1 s h) jv_X2_147 jn_2 hc20 ⟨rfl, rfl, by decide, by decide⟩ rfl rfl (Nat.le_of_ble_eq_true rfl) dX2_takeParts_46 rfl (fun r21 s22 h => ?_)
    obtain ⟨hz23, h⟩ := h
    have h := h hz23
    refine jx_pop 50 hX rfl dX2_takeParts_49 rfl (jx_aload_n 51 hX 1 rfl rfl dX2_takeParts_50 rfl ?_)
    obtain ⟨hc24, h⟩ := h
    refine jx_callVi 54 hX (mX1_tellsSomething _ D _ a1 s22 h) jv_X2_152 jn_1 hc24 ⟨rfl, rfl, by decide, by decide⟩ rfl rfl (Nat.le_of_ble_eq_true rfl) dX2_takeParts_51 rfl (fun r25 s26 h => ?_)
    obtain ⟨hz27, h⟩ := h
    have h := h hz27
    exact jx_zret hX dX2_takeParts_54 hz27 h
  unfold wX2_takeParts at h
  refine jx_aload_n 1 hX 0 rfl rfl dX2_takeParts_0 rfl (jx_aload_n 2 hX 1 rfl rfl dX2_takeParts_1 rfl ?_)
  obtain ⟨hc1, h⟩ := h
  refine jx_callVi 5 hX (mX2_takeWind _ D _ a0 a1 s h) jv_X2_131 jn_2 hc1 ⟨rfl, rfl, by decide, by decide⟩ rfl rfl (Nat.le_of_ble_eq_true rfl) dX2_takeParts_2 rfl (fun r2 s3 h => ?_)
  obtain ⟨hz4, h⟩ := h
  have h := h hz4
  refine jx_pop 6 hX rfl dX2_takeParts_5 rfl (jx_aload_n 7 hX 0 rfl rfl dX2_takeParts_6 rfl (jx_aload_n 8 hX 1 rfl rfl dX2_takeParts_7 rfl ?_))
  refine jx_callVi 11 hX (mX2_takeCavok _ D _ a0 a1 s3 h) jv_X2_134 jn_2 hc1 ⟨rfl, rfl, by decide, by decide⟩ rfl rfl (Nat.le_of_ble_eq_true rfl) dX2_takeParts_8 rfl (fun r5 s6 h => ?_)
  obtain ⟨hz7, h⟩ := h
  have h := h hz7
  refine jx_if_eq 14 16 hX dX2_takeParts_11 rfl (by decide) (fun hb8 => ?_) (fun hb8 => ?_)
  · have h := h.1 hb8
    refine jx_aload_n 17 hX 0 rfl rfl dX2_takeParts_16 rfl (jx_aload_n 18 hX 1 rfl rfl dX2_takeParts_17 rfl ?_)
    refine jx_callVi 21 hX (mX2_takeVisibility _ D _ a0 a1 s6 h) jv_X2_137 jn_2 hc1 ⟨rfl, rfl, by decide, by decide⟩ rfl rfl (Nat.le_of_ble_eq_true rfl) dX2_takeParts_18 rfl (fun r9 s10 h => ?_)
    obtain ⟨hz11, h⟩ := h
    have h := h hz11
    refine jx_pop 22 hX rfl dX2_takeParts_21 rfl (jx_aload_n 23 hX 0 rfl rfl dX2_takeParts_22 rfl (jx_ldcS 25 hX 18 (by decide) rfl dX2_takeParts_23 rfl ?_))
    refine jx_callVi 28 hX (mX2_takeWord _ D _ a0 18 s10 h) jv_X2_73 jn_2 hc1 ⟨rfl, rfl, by decide, by decide⟩ rfl rfl (Nat.le_of_ble_eq_true rfl) dX2_takeParts_25 rfl (fun r12 s13 h => ?_)
    obtain ⟨hz14, h⟩ := h
    have h := h hz14
    refine jx_if_eq 31 39 hX dX2_takeParts_28 rfl (by decide) (fun hb15 => ?_) (fun hb15 => ?_)
    · have h := h.1 hb15
      refine jx_aload_n 40 hX 0 rfl rfl dX2_takeParts_39 rfl (jx_aload_n 41 hX 1 rfl rfl dX2_takeParts_40 rfl ?_)
      refine jx_callVv 44 hX (mX2_takeWeathers _ D _ a0 a1 s13 h) jv_X2_143 jn_2 hc1 ⟨rfl, rfl, by decide, by decide⟩ rfl rfl (Nat.le_of_ble_eq_true rfl) dX2_takeParts_41 rfl (fun s17 h => ?_)
      exact jx_sub [0, 1] rfl (b44 a0 a1 s17 h)
    · have h := h.2 hb15
      refine jx_aload_n 32 hX 1 rfl rfl dX2_takeParts_31 rfl (jx_iconst 33 hX 0 (by decide) dX2_takeParts_32 rfl ?_)
      obtain ⟨hc18, h⟩ := h
      refine jx_putI 36 hX jp_X2_140 rfl hc18 dX2_takeParts_33 rfl ?_
      refine jx_namu (fun s19 hs19 => ?_)
      have h := h s19 hs19
      refine jx_goto 44 hX dX2_takeParts_36 (by decide) ?_
      exact jx_sub [0, 1] rfl (b44 a0 a1 s19 h)
  · have h := h.2 hb8
    refine jx_iconst 15 hX 1 (by decide) dX2_takeParts_14 rfl ?_
    exact jx_zret hX dX2_takeParts_15 (by decide) h
set_option maxHeartbeats 4000000 in
set_option maxRecDepth 100000 in
theorem mX2_takeForecast (l : Launch) (D : jx_Dt) (post : Int32 → jx_St → Prop) (a0 : Nat) (s : jx_St) (h : wX2_takeForecast post a0 s) : jx_Met l yX2_takeForecast cX2_takeForecast 4 (some .boolean) (jx_r 9 235) D jx_LX [.ref (D.2.1 a0)] s (jx_Qi D jx_LX (fun r u => (r = 0 ∨ r = 1) ∧ post r u)) := by
  refine jx_ofJ (by decide) (Nat.le_of_ble_eq_true rfl) (fun X hl hX => ?_)
  subst hl
  replace hX : jx_K D jx_LX X cX2_takeForecast RX2 4 (some .boolean) (jx_r 9 235) (jx_Qi D jx_LX (fun r u => (r = 0 ∨ r = 1) ∧ post r u)) := hX
  show jx_J D jx_LX X 0 [(0, .ref (D.2.1 a0))] [] s
  have l38 : ∀ (n : Nat) (a0 : Nat) (a1 : Int32) (a2 : Int32) (s : jx_St), wX2_takeForecast_l38 post n a0 a1 a2 s → jx_J D jx_LX X 38 [(0, .ref (D.2.1 a0)), (1, .int a1), (2, .int a2)] [] s := by
    intro n
    induction n with
    | zero => intro a0 a1 a2 s h; exact h.elim
    | succ n ih =>
      intro a0 a1 a2 s h
      rw [wX2_takeForecast_l38] at h
      refine jx_iload_n 39 hX 2 rfl rfl dX2_takeForecast_38 rfl (jx_bipush 41 hX 9 (by decide) dX2_takeForecast_39 rfl ?_)
      refine jx_icmp_ge 44 124 hX dX2_takeForecast_41 rfl (by decide) (fun hb14 => ?_) (fun hb14 => ?_)
      · have h := h.1 hb14
        refine jx_iload_n 125 hX 1 rfl rfl dX2_takeForecast_124 rfl ?_
        obtain ⟨hc15, h⟩ := h
        exact jx_zret hX dX2_takeForecast_125 hc15 h
      · have h := h.2 hb14
        refine jx_aload_n 45 hX 0 rfl rfl dX2_takeForecast_44 rfl ?_
        obtain ⟨hc16, h⟩ := h
        refine jx_getI 48 hX jf_X2_22 rfl hc16 dX2_takeForecast_45 rfl ?_
        refine jx_if_le 51 124 hX dX2_takeForecast_48 rfl (by decide) (fun hb17 => ?_) (fun hb17 => ?_)
        · have h := h.1 hb17
          refine jx_iload_n 125 hX 1 rfl rfl dX2_takeForecast_124 rfl ?_
          obtain ⟨hc18, h⟩ := h
          exact jx_zret hX dX2_takeForecast_125 hc18 h
        · have h := h.2 hb17
          refine jx_iload_n 52 hX 1 rfl rfl dX2_takeForecast_51 rfl ?_
          refine jx_if_eq 55 124 hX dX2_takeForecast_52 rfl (by decide) (fun hb19 => ?_) (fun hb19 => ?_)
          · have h := h.1 hb19
            refine jx_iload_n 125 hX 1 rfl rfl dX2_takeForecast_124 rfl ?_
            obtain ⟨hc20, h⟩ := h
            exact jx_zret hX dX2_takeForecast_125 hc20 h
          · have h := h.2 hb19
            refine jx_aload_n 56 hX 0 rfl rfl dX2_takeForecast_55 rfl (jx_getR 59 hX jf_X2_37 rfl hc16 dX2_takeForecast_56 rfl ?_)
            obtain ⟨hc21, h⟩ := h
            refine jx_callVv 62 hX (mX0_addGroup _ D _ (s.2 a0 7) s h) jv_X2_102 jn_0 hc21 ⟨rfl, rfl, by decide, by decide⟩ rfl rfl (Nat.le_of_ble_eq_true rfl) dX2_takeForecast_59 rfl (fun s23 h => ?_)
            refine jx_aload_n 63 hX 0 rfl rfl dX2_takeForecast_62 rfl (jx_getR 66 hX jf_X2_37 rfl hc16 dX2_takeForecast_63 rfl ?_)
            obtain ⟨hc24, h⟩ := h
            refine jx_getR 69 hX jf_X2_85 rfl hc24 dX2_takeForecast_66 rfl (jx_iload_n 70 hX 2 rfl rfl dX2_takeForecast_69 rfl ?_)
            obtain ⟨hc25, h⟩ := h
            refine jx_aaload 71 hX hc25 dX2_takeForecast_70 rfl ?_
            refine jx_topc (fun x26 hx26 => ?_)
            have h := h x26 hx26
            refine jx_astore_n 72 hX [(3, .ref (D.2.1 x26)), (0, .ref (D.2.1 a0)), (1, .int a1), (2, .int a2)] rfl (by decide) rfl dX2_takeForecast_71 rfl (jx_aload_n 73 hX 1 rfl rfl dX2_takeForecast_72 rfl (jx_aload_n 74 hX 0 rfl rfl dX2_takeForecast_73 rfl ?_))
            refine jx_callVi 77 hX (mX2_takeFromTime _ D _ a0 x26 s23 h) jv_X2_105 jn_2 hc16 ⟨rfl, rfl, by decide, by decide⟩ rfl rfl (Nat.le_of_ble_eq_true rfl) dX2_takeForecast_74 rfl (fun r27 s28 h => ?_)
            obtain ⟨hz29, h⟩ := h
            have h := h hz29
            refine jx_if_eq 80 88 hX dX2_takeForecast_77 rfl (by decide) (fun hb30 => ?_) (fun hb30 => ?_)
            · have h := h.1 hb30
              refine jx_aload_n 89 hX 1 rfl rfl dX2_takeForecast_88 rfl (jx_aload_n 90 hX 0 rfl rfl dX2_takeForecast_89 rfl ?_)
              refine jx_callVi 93 hX (mX2_takeChangeName _ D _ a0 x26 s28 h) jv_X2_108 jn_2 hc16 ⟨rfl, rfl, by decide, by decide⟩ rfl rfl (Nat.le_of_ble_eq_true rfl) dX2_takeForecast_90 rfl (fun r31 s32 h => ?_)
              obtain ⟨hz33, h⟩ := h
              have h := h hz33
              refine jx_if_eq 96 116 hX dX2_takeForecast_93 rfl (by decide) (fun hb34 => ?_) (fun hb34 => ?_)
              · have h := h.1 hb34
                refine jx_iconst 117 hX 0 (by decide) dX2_takeForecast_116 rfl (jx_istore_n 118 hX [(1, .int 0), (3, .ref (D.2.1 x26)), (0, .ref (D.2.1 a0)), (2, .int a2)] rfl (by decide) rfl dX2_takeForecast_117 rfl ?_)
                obtain ⟨x35, hx35⟩ : ∃ y : Int32, y = a2 + 1 := ⟨_, rfl⟩
                have h := h x35 hx35
                refine jx_iinc 121 hX 3 x35 [(2, .int x35), (1, .int 0), (3, .ref (D.2.1 x26)), (0, .ref (D.2.1 a0))] rfl (by rw [hx35]; exact congrArg (fun z => a2 + z) (by decide)) (by decide) rfl dX2_takeForecast_118 rfl (jx_goto 38 hX dX2_takeForecast_121 (by decide) ?_)
                exact jx_sub [3, 1, 0] rfl (ih a0 0 x35 s32 h)
              · have h := h.2 hb34
                refine jx_aload_n 97 hX 1 rfl rfl dX2_takeForecast_96 rfl (jx_aload_n 98 hX 0 rfl rfl dX2_takeForecast_97 rfl ?_)
                refine jx_callVi 101 hX (mX2_takeChangePeriod _ D _ a0 x26 s32 h) jv_X2_111 jn_2 hc16 ⟨rfl, rfl, by decide, by decide⟩ rfl rfl (Nat.le_of_ble_eq_true rfl) dX2_takeForecast_98 rfl (fun r36 s37 h => ?_)
                obtain ⟨hz38, h⟩ := h
                have h := h hz38
                refine jx_if_eq 104 116 hX dX2_takeForecast_101 rfl (by decide) (fun hb39 => ?_) (fun hb39 => ?_)
                · have h := h.1 hb39
                  refine jx_iconst 117 hX 0 (by decide) dX2_takeForecast_116 rfl (jx_istore_n 118 hX [(1, .int 0), (3, .ref (D.2.1 x26)), (0, .ref (D.2.1 a0)), (2, .int a2)] rfl (by decide) rfl dX2_takeForecast_117 rfl ?_)
                  obtain ⟨x40, hx40⟩ : ∃ y : Int32, y = a2 + 1 := ⟨_, rfl⟩
                  have h := h x40 hx40
                  refine jx_iinc 121 hX 3 x40 [(2, .int x40), (1, .int 0), (3, .ref (D.2.1 x26)), (0, .ref (D.2.1 a0))] rfl (by rw [hx40]; exact congrArg (fun z => a2 + z) (by decide)) (by decide) rfl dX2_takeForecast_118 rfl (jx_goto 38 hX dX2_takeForecast_121 (by decide) ?_)
                  exact jx_sub [3, 1, 0] rfl (ih a0 0 x40 s37 h)
                · have h := h.2 hb39
                  refine jx_aload_n 105 hX 1 rfl rfl dX2_takeForecast_104 rfl (jx_aload_n 106 hX 0 rfl rfl dX2_takeForecast_105 rfl ?_)
                  refine jx_callVi 109 hX (mX2_takeParts _ D _ a0 x26 s37 h) jv_X2_114 jn_2 hc16 ⟨rfl, rfl, by decide, by decide⟩ rfl rfl (Nat.le_of_ble_eq_true rfl) dX2_takeForecast_106 rfl (fun r41 s42 h => ?_)
                  obtain ⟨hz43, h⟩ := h
                  have h := h hz43
                  refine jx_if_eq 112 116 hX dX2_takeForecast_109 rfl (by decide) (fun hb44 => ?_) (fun hb44 => ?_)
                  · have h := h.1 hb44
                    refine jx_iconst 117 hX 0 (by decide) dX2_takeForecast_116 rfl (jx_istore_n 118 hX [(1, .int 0), (3, .ref (D.2.1 x26)), (0, .ref (D.2.1 a0)), (2, .int a2)] rfl (by decide) rfl dX2_takeForecast_117 rfl ?_)
                    obtain ⟨x45, hx45⟩ : ∃ y : Int32, y = a2 + 1 := ⟨_, rfl⟩
                    have h := h x45 hx45
                    refine jx_iinc 121 hX 3 x45 [(2, .int x45), (1, .int 0), (3, .ref (D.2.1 x26)), (0, .ref (D.2.1 a0))] rfl (by rw [hx45]; exact congrArg (fun z => a2 + z) (by decide)) (by decide) rfl dX2_takeForecast_118 rfl (jx_goto 38 hX dX2_takeForecast_121 (by decide) ?_)
                    exact jx_sub [3, 1, 0] rfl (ih a0 0 x45 s42 h)
                  · have h := h.2 hb44
                    refine jx_iconst 113 hX 1 (by decide) dX2_takeForecast_112 rfl (jx_goto 117 hX dX2_takeForecast_113 (by decide) (jx_istore_n 118 hX [(1, .int 1), (3, .ref (D.2.1 x26)), (0, .ref (D.2.1 a0)), (2, .int a2)] rfl (by decide) rfl dX2_takeForecast_117 rfl ?_))
                    obtain ⟨x46, hx46⟩ : ∃ y : Int32, y = a2 + 1 := ⟨_, rfl⟩
                    have h := h x46 hx46
                    refine jx_iinc 121 hX 3 x46 [(2, .int x46), (1, .int 1), (3, .ref (D.2.1 x26)), (0, .ref (D.2.1 a0))] rfl (by rw [hx46]; exact congrArg (fun z => a2 + z) (by decide)) (by decide) rfl dX2_takeForecast_118 rfl (jx_goto 38 hX dX2_takeForecast_121 (by decide) ?_)
                    exact jx_sub [3, 1, 0] rfl (ih a0 1 x46 s42 h)
            · have h := h.2 hb30
              refine jx_aload_n 81 hX 1 rfl rfl dX2_takeForecast_80 rfl (jx_aload_n 82 hX 0 rfl rfl dX2_takeForecast_81 rfl ?_)
              refine jx_callVi 85 hX (mX2_takeWhole _ D _ a0 x26 s28 h) jv_X2_89 jn_2 hc16 ⟨rfl, rfl, by decide, by decide⟩ rfl rfl (Nat.le_of_ble_eq_true rfl) dX2_takeForecast_82 rfl (fun r47 s48 h => ?_)
              obtain ⟨hz49, h⟩ := h
              have h := h hz49
              refine jx_goto 117 hX dX2_takeForecast_85 (by decide) (jx_istore_n 118 hX [(1, .int r47), (3, .ref (D.2.1 x26)), (0, .ref (D.2.1 a0)), (2, .int a2)] rfl (by decide) rfl dX2_takeForecast_117 rfl ?_)
              obtain ⟨x50, hx50⟩ : ∃ y : Int32, y = a2 + 1 := ⟨_, rfl⟩
              have h := h x50 hx50
              refine jx_iinc 121 hX 3 x50 [(2, .int x50), (1, .int r47), (3, .ref (D.2.1 x26)), (0, .ref (D.2.1 a0))] rfl (by rw [hx50]; exact congrArg (fun z => a2 + z) (by decide)) (by decide) rfl dX2_takeForecast_118 rfl (jx_goto 38 hX dX2_takeForecast_121 (by decide) ?_)
              exact jx_sub [3, 1, 0] rfl (ih a0 r47 x50 s48 h)
  unfold wX2_takeForecast at h
  refine jx_aload_n 1 hX 0 rfl rfl dX2_takeForecast_0 rfl (jx_aload_n 2 hX 0 rfl rfl dX2_takeForecast_1 rfl ?_)
  obtain ⟨hc1, h⟩ := h
  refine jx_getR 5 hX jf_X2_37 rfl hc1 dX2_takeForecast_2 rfl ?_
  obtain ⟨hc2, h⟩ := h
  refine jx_getR 8 hX jf_X2_85 rfl hc2 dX2_takeForecast_5 rfl (jx_iconst 9 hX 0 (by decide) dX2_takeForecast_8 rfl ?_)
  obtain ⟨hc3, h⟩ := h
  refine jx_aaload 10 hX hc3 dX2_takeForecast_9 rfl ?_
  refine jx_callVi 13 hX (mX2_takeForecastPeriod _ D _ a0 (s.2 (s.2 (s.2 a0 7) 8) (0 : Int32).toNatClampNeg) s h) jv_X2_99 jn_2 hc1 ⟨rfl, rfl, by decide, by decide⟩ rfl rfl (Nat.le_of_ble_eq_true rfl) dX2_takeForecast_10 rfl (fun r4 s5 h => ?_)
  obtain ⟨hz6, h⟩ := h
  have h := h hz6
  refine jx_if_eq 16 32 hX dX2_takeForecast_13 rfl (by decide) (fun hb7 => ?_) (fun hb7 => ?_)
  · have h := h.1 hb7
    refine jx_iconst 33 hX 0 (by decide) dX2_takeForecast_32 rfl ?_
    exact jx_zret hX dX2_takeForecast_33 (by decide) h
  · have h := h.2 hb7
    refine jx_aload_n 17 hX 0 rfl rfl dX2_takeForecast_16 rfl (jx_aload_n 18 hX 0 rfl rfl dX2_takeForecast_17 rfl (jx_getR 21 hX jf_X2_37 rfl hc1 dX2_takeForecast_18 rfl ?_))
    obtain ⟨hc8, h⟩ := h
    refine jx_getR 24 hX jf_X2_85 rfl hc8 dX2_takeForecast_21 rfl (jx_iconst 25 hX 0 (by decide) dX2_takeForecast_24 rfl ?_)
    obtain ⟨hc9, h⟩ := h
    refine jx_aaload 26 hX hc9 dX2_takeForecast_25 rfl ?_
    refine jx_callVi 29 hX (mX2_takeWhole _ D _ a0 (s5.2 (s5.2 (s5.2 a0 7) 8) (0 : Int32).toNatClampNeg) s5 h) jv_X2_89 jn_2 hc1 ⟨rfl, rfl, by decide, by decide⟩ rfl rfl (Nat.le_of_ble_eq_true rfl) dX2_takeForecast_26 rfl (fun r10 s11 h => ?_)
    obtain ⟨hz12, h⟩ := h
    have h := h hz12
    refine jx_if_ne 32 34 hX dX2_takeForecast_29 rfl (by decide) (fun hb13 => ?_) (fun hb13 => ?_)
    · have h := h.1 hb13
      refine jx_iconst 35 hX 1 (by decide) dX2_takeForecast_34 rfl (jx_istore_n 36 hX [(1, .int 1), (0, .ref (D.2.1 a0))] rfl (by decide) rfl dX2_takeForecast_35 rfl (jx_iconst 37 hX 1 (by decide) dX2_takeForecast_36 rfl (jx_istore_n 38 hX [(2, .int 1), (1, .int 1), (0, .ref (D.2.1 a0))] rfl (by decide) rfl dX2_takeForecast_37 rfl ?_)))
      obtain ⟨n_, h⟩ := h
      exact jx_sub [2, 1, 0] rfl (l38 n_ a0 1 1 s11 h)
    · have h := h.2 hb13
      refine jx_iconst 33 hX 0 (by decide) dX2_takeForecast_32 rfl ?_
      exact jx_zret hX dX2_takeForecast_33 (by decide) h
set_option maxHeartbeats 4000000 in
set_option maxRecDepth 100000 in
theorem mX2_readText (l : Launch) (D : jx_Dt) (post : Int32 → jx_St → Prop) (a0 : Nat) (a1 : Nat) (a2 : Int32) (a3 : Int32) (s : jx_St) (h : wX2_readText post a0 a1 a2 a3 s) : jx_Met l yX2_readText cX2_readText 5 (some .int) (jx_r 10 258) D jx_LX [.ref (D.2.1 a0), .ref (D.2.1 a1), .int a2, .int a3] s (jx_Qi D jx_LX post) := by
  refine jx_ofJ (by decide) (Nat.le_of_ble_eq_true rfl) (fun X hl hX => ?_)
  subst hl
  replace hX : jx_K D jx_LX X cX2_readText RX2 5 (some .int) (jx_r 10 258) (jx_Qi D jx_LX post) := hX
  show jx_J D jx_LX X 0 [(0, .ref (D.2.1 a0)), (1, .ref (D.2.1 a1)), (2, .int a2), (3, .int a3)] [] s
  have b88 : ∀ (a0 : Nat) (k0 : Int32) (s : jx_St), wX2_readText_b88 post a0 k0 s → jx_J D jx_LX X 88 [(0, .ref (D.2.1 a0))] [.int k0] s := by
    intro a0 k0 s h
    unfold wX2_readText_b88 at h
    refine jx_istore 90 hX [(4, .int k0), (0, .ref (D.2.1 a0))] (by decide) rfl dX2_readText_88 rfl (jx_iload 92 hX 0 rfl dX2_readText_90 rfl ?_)
    refine jx_if_eq 95 102 hX dX2_readText_92 rfl (by decide) (fun hb29 => ?_) (fun hb29 => ?_)
    · have h := h.1 hb29
      refine jx_aload_n 103 hX 1 rfl rfl dX2_readText_102 rfl ?_
      obtain ⟨hc30, h⟩ := h
      refine jx_getI 106 hX jf_X2_19 rfl hc30 dX2_readText_103 rfl (jx_iconst 107 hX 1 (by decide) dX2_readText_106 rfl (jx_iadd 108 hX dX2_readText_107 rfl ?_))
      exact jx_iret hX dX2_readText_108 h
    · have h := h.2 hb29
      refine jx_aload_n 96 hX 1 rfl rfl dX2_readText_95 rfl ?_
      obtain ⟨hc31, h⟩ := h
      refine jx_getI 99 hX jf_X2_22 rfl hc31 dX2_readText_96 rfl ?_
      refine jx_if_le 102 109 hX dX2_readText_99 rfl (by decide) (fun hb32 => ?_) (fun hb32 => ?_)
      · have h := h.1 hb32
        refine jx_aload_n 110 hX 1 rfl rfl dX2_readText_109 rfl (jx_getR 113 hX jf_X2_37 rfl hc31 dX2_readText_110 rfl (jx_aload_n 114 hX 1 rfl rfl dX2_readText_113 rfl (jx_getR 117 hX jf_X2_9 rfl hc31 dX2_readText_114 rfl (jx_aload_n 118 hX 1 rfl rfl dX2_readText_117 rfl (jx_getI 121 hX jf_X2_15 rfl hc31 dX2_readText_118 rfl ?_)))))
        obtain ⟨hc33, h⟩ := h
        refine jx_callVv 124 hX (mX0_keepTokens _ D _ (s.2 a0 7) (s.2 a0 0) (s.1 a0 1) s h) jv_X2_67 jn_0 hc33 ⟨rfl, rfl, by decide, by decide⟩ rfl rfl (Nat.le_of_ble_eq_true rfl) dX2_readText_121 rfl (fun s35 h => ?_)
        refine jx_iconst 125 hX 0 (by decide) dX2_readText_124 rfl ?_
        exact jx_iret hX dX2_readText_125 h
      · have h := h.2 hb32
        refine jx_aload_n 103 hX 1 rfl rfl dX2_readText_102 rfl (jx_getI 106 hX jf_X2_19 rfl hc31 dX2_readText_103 rfl (jx_iconst 107 hX 1 (by decide) dX2_readText_106 rfl (jx_iadd 108 hX dX2_readText_107 rfl ?_)))
        exact jx_iret hX dX2_readText_108 h
  unfold wX2_readText at h
  refine jx_aload_n 1 hX 0 rfl rfl dX2_readText_0 rfl (jx_aload_n 2 hX 1 rfl rfl dX2_readText_1 rfl ?_)
  obtain ⟨hc1, h⟩ := h
  refine jx_putR 5 hX jp_X2_9 (fun _ => rfl) (fun _ => rfl) rfl hc1 dX2_readText_2 rfl ?_
  refine jx_namu (fun s2 hs2 => ?_)
  have h := h s2 hs2
  refine jx_aload_n 6 hX 0 rfl rfl dX2_readText_5 rfl (jx_iload_n 7 hX 2 rfl rfl dX2_readText_6 rfl (jx_aload_n 8 hX 1 rfl rfl dX2_readText_7 rfl ?_))
  obtain ⟨hc3, h⟩ := h
  refine jx_alenC 9 hX hc3 dX2_readText_8 rfl (jx_mmin 12 hX jm_X2_41 (by decide) (Nat.le_of_ble_eq_true rfl) dX2_readText_9 rfl (jx_putI 15 hX jp_X2_15 rfl hc1 dX2_readText_12 rfl ?_))
  refine jx_namu (fun s4 hs4 => ?_)
  have h := h s4 hs4
  refine jx_aload_n 16 hX 0 rfl rfl dX2_readText_15 rfl (jx_iload_n 17 hX 3 rfl rfl dX2_readText_16 rfl (jx_putI 20 hX jp_X2_28 rfl hc1 dX2_readText_17 rfl ?_))
  refine jx_namu (fun s5 hs5 => ?_)
  have h := h s5 hs5
  refine jx_aload_n 21 hX 0 rfl rfl dX2_readText_20 rfl (jx_iconst 22 hX (-1) (by decide) dX2_readText_21 rfl (jx_putI 25 hX jp_X2_31 rfl hc1 dX2_readText_22 rfl ?_))
  refine jx_namu (fun s6 hs6 => ?_)
  have h := h s6 hs6
  refine jx_aload_n 26 hX 0 rfl rfl dX2_readText_25 rfl (jx_getR 29 hX jf_X2_37 rfl hc1 dX2_readText_26 rfl (jx_iload_n 30 hX 3 rfl rfl dX2_readText_29 rfl ?_))
  obtain ⟨hc7, h⟩ := h
  refine jx_callVv 33 hX (mX0_start _ D _ (s6.2 a0 7) a3 s6 h) jv_X2_47 jn_0 hc7 ⟨rfl, rfl, by decide, by decide⟩ rfl rfl (Nat.le_of_ble_eq_true rfl) dX2_readText_30 rfl (fun s9 h => ?_)
  refine jx_aload_n 34 hX 0 rfl rfl dX2_readText_33 rfl (jx_iconst 35 hX 0 (by decide) dX2_readText_34 rfl (jx_putI 38 hX jp_X2_19 rfl hc1 dX2_readText_35 rfl ?_))
  refine jx_namu (fun s10 hs10 => ?_)
  have h := h s10 hs10
  refine jx_aload_n 39 hX 0 rfl rfl dX2_readText_38 rfl (jx_iconst 40 hX 0 (by decide) dX2_readText_39 rfl (jx_putI 43 hX jp_X2_22 rfl hc1 dX2_readText_40 rfl ?_))
  refine jx_namu (fun s11 hs11 => ?_)
  have h := h s11 hs11
  refine jx_aload_n 44 hX 0 rfl rfl dX2_readText_43 rfl ?_
  refine jx_callVi 47 hX (mX2_takeToken _ D _ a0 s11 h) jv_X2_51 jn_2 hc1 ⟨rfl, rfl, by decide, by decide⟩ rfl rfl (Nat.le_of_ble_eq_true rfl) dX2_readText_44 rfl (fun r12 s13 h => ?_)
  obtain ⟨hz14, h⟩ := h
  have h := h hz14
  refine jx_pop 48 hX rfl dX2_readText_47 rfl (jx_aload_n 49 hX 0 rfl rfl dX2_readText_48 rfl ?_)
  refine jx_callVi 52 hX (mX2_takeHead _ D _ a0 s13 h) jv_X2_55 jn_2 hc1 ⟨rfl, rfl, by decide, by decide⟩ rfl rfl (Nat.le_of_ble_eq_true rfl) dX2_readText_49 rfl (fun r15 s16 h => ?_)
  obtain ⟨hz17, h⟩ := h
  have h := h hz17
  refine jx_if_eq 55 87 hX dX2_readText_52 rfl (by decide) (fun hb18 => ?_) (fun hb18 => ?_)
  · have h := h.1 hb18
    refine jx_iconst 88 hX 0 (by decide) dX2_readText_87 rfl ?_
    exact jx_sub [0] rfl (b88 a0 0 s16 h)
  · have h := h.2 hb18
    refine jx_aload_n 56 hX 0 rfl rfl dX2_readText_55 rfl (jx_getR 59 hX jf_X2_37 rfl hc1 dX2_readText_56 rfl ?_)
    obtain ⟨hc19, h⟩ := h
    refine jx_getI 62 hX jf_X2_58 rfl hc19 dX2_readText_59 rfl (jx_iconst 63 hX 1 (by decide) dX2_readText_62 rfl ?_)
    refine jx_icmp_ne 66 76 hX dX2_readText_63 rfl (by decide) (fun hb20 => ?_) (fun hb20 => ?_)
    · have h := h.1 hb20
      refine jx_aload_n 77 hX 0 rfl rfl dX2_readText_76 rfl ?_
      refine jx_callVi 80 hX (mX2_takeForecast _ D _ a0 s16 h) jv_X2_64 jn_2 hc1 ⟨rfl, rfl, by decide, by decide⟩ rfl rfl (Nat.le_of_ble_eq_true rfl) dX2_readText_77 rfl (fun r21 s22 h => ?_)
      obtain ⟨hz23, h⟩ := h
      have h := h hz23
      refine jx_if_eq 83 87 hX dX2_readText_80 rfl (by decide) (fun hb24 => ?_) (fun hb24 => ?_)
      · have h := h.1 hb24
        refine jx_iconst 88 hX 0 (by decide) dX2_readText_87 rfl ?_
        exact jx_sub [0] rfl (b88 a0 0 s22 h)
      · have h := h.2 hb24
        refine jx_iconst 84 hX 1 (by decide) dX2_readText_83 rfl (jx_goto 88 hX dX2_readText_84 (by decide) ?_)
        exact jx_sub [0] rfl (b88 a0 1 s22 h)
    · have h := h.2 hb20
      refine jx_aload_n 67 hX 0 rfl rfl dX2_readText_66 rfl ?_
      refine jx_callVi 70 hX (mX2_takeReport _ D _ a0 s16 h) jv_X2_61 jn_2 hc1 ⟨rfl, rfl, by decide, by decide⟩ rfl rfl (Nat.le_of_ble_eq_true rfl) dX2_readText_67 rfl (fun r25 s26 h => ?_)
      obtain ⟨hz27, h⟩ := h
      have h := h hz27
      refine jx_if_eq 73 87 hX dX2_readText_70 rfl (by decide) (fun hb28 => ?_) (fun hb28 => ?_)
      · have h := h.1 hb28
        refine jx_iconst 88 hX 0 (by decide) dX2_readText_87 rfl ?_
        exact jx_sub [0] rfl (b88 a0 0 s26 h)
      · have h := h.2 hb28
        refine jx_goto 83 hX dX2_readText_73 (by decide) (jx_iconst 84 hX 1 (by decide) dX2_readText_83 rfl (jx_goto 88 hX dX2_readText_84 (by decide) ?_))
        exact jx_sub [0] rfl (b88 a0 1 s26 h)
