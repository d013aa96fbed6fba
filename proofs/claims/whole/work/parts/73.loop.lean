/-! ===== the law: its loop ===== -/
theorem lw_more {L i : Nat} (hL : L ≤ 2048) (hi : i ≤ L) (h : ¬ (Int32.ofNat L - 4 < nI i)) : i + 4 ≤ L := by
  by_cases z : i + 4 ≤ L
  · exact z
  · refine absurd ?_ h
    show nI L - 4 < nI i
    rw [Int32.lt_iff_toInt_lt, show (4 : Int32) = nI 4 from rfl, pk_sub_toInt (by omega) (by decide), show (nI i).toInt = (i : Int) from nI_toInt (by omega)]
    omega
section LWP
variable {p : Program} {l : Launch} {e : Env} {s : State} {m : MethodId} {below : List Frame} {meth : Method} {c : Code} {b L : Nat} {xs : Nat → Int32} {D D' : jx_Dt}
set_option maxHeartbeats 1000000 in
theorem lw_loop (C : lw_F p s m c b L xs D D') (hr : meth.sig.returnType = ret) (hlocks : meth.locks = false) : ∀ (n i : Nat) (x um : jx_St) (H : Heap) (locs : List Loc) (ls : Array Slot), i ≤ L → L + 4 ≤ i + 4 * n → Rl x um → va_P D.1 vwCl (jx_w D jx_LX x) H → va_P D'.1 vwCl (jx_w D' jx_LM um) H → va_S (fun q : Nat => s.heap.size ≤ q) s.heap H locs → lv_has ls 4 [(3, .int (nI i)), (2, .ref (D'.2.1 0)), (1, .ref (D.2.1 0)), (0, .ref b)] → W p l e room_1 s m #[Value.ref b] below meth c H locs 82 7768 (lw_Z below #[Value.ref b] s) (F0 m 18 ls []) := by
  obtain ⟨hx, hb, hml, hown, htb, hX, hbl, hL, hC, hC', hdis⟩ := id C
  intro n
  induction n with
  | zero =>
    intro i x um H locs ls h1 h2
    exact absurd h2 (by omega)
  | succ n ih =>
    intro i x um H locs ls hi hin hq hP hP' hS hl
    have hbA : ¬ (fun q : Nat => s.heap.size ≤ q) b := Nat.not_le.mpr hbl
    refine lv_iload_n hx hb dL_18 rfl (lv_at hl 0 rfl) ?_
    refine lv_aload_n hx hb dL_19 rfl (lv_at hl 3 rfl) ?_
    refine va_slen hx hb hX hbl hbA hS dL_20 ?_
    refine lv_iconst (v := 4) hx hb dL_21 (by decide) ?_
    refine lv_isub hx hb dL_22 ?_
    refine lv_icmp_gt (tgt := 539) hx hb dL_23 (by decide) (fun _ => ?_) (fun z => ?_)
    · refine lv_iconst (v := 1) hx hb dL_539 (by decide) ?_
      refine va_forget (fun q hq => hS.2.2 q hq) ?_
      refine W.widen (k := 600000) (n := 7302250) (by decide) (by decide) ?_
      exact lw_ret hx hb hr hlocks dL_540
    · have h4 : i + 4 ≤ L := lw_more hL hi z
      refine lv_aload_n hx hb dL_26 rfl (lv_at hl 3 rfl) ?_
      refine lv_iload_n hx hb dL_27 rfl (lv_at hl 0 rfl) ?_
      refine va_sld hx hb hX hbl hbA hS (vp_in_nI (by omega) (by omega)) dL_28 ?_
      refine lv_bipush (v := 15) hx hb dL_29 (by decide) ?_
      refine lv_iand hx hb dL_31 ?_
      generalize (xs (nI i).toNatClampNeg &&& 15) = v
      have next : ∀ (x' um' : jx_St) (H1 : Heap) (locs1 : List Loc), Rl x' um' → va_P D.1 vwCl (jx_w D jx_LX x') H1 → va_P D'.1 vwCl (jx_w D' jx_LM um') H1 → va_S (fun q : Nat => s.heap.size ≤ q) s.heap H1 locs1 → W p l e room_1 s m #[Value.ref b] below meth c H1 locs1 82 7768 (lw_Z below #[Value.ref b] s) (F0 m 533 ls []) := by
        intro x' um' H1 locs1 hq hP hP' hS
        refine lv_iinc (v := nI (i + 4)) (lv' := [(3, .int (nI (i + 4))), (2, .ref (D'.2.1 0)), (1, .ref (D.2.1 0)), (0, .ref b)]) hx hb dL_533 hl (k := 0) rfl (nI_add i 4) (by decide) rfl (fun ls hl => ?_)
        refine lv_goto (tgt := 18) hx hb dL_536 (by decide) ?_
        exact ih (i + 4) x' um' H1 locs1 ls h4 (by omega) hq hP hP' hS hl
      rcases pz_pick (a := v) (n := 15) (by decide) with z | ⟨j, hj, ev⟩
      · refine lv_tableOut (tgt := 533) hx hb dL_32 ?_ (by decide) (next x um H locs hq hP hP' hS)
        rcases z with z | z
        · exact Or.inl (Int32.lt_iff_toInt_lt.mp z)
        · refine Or.inr ?_
          have := Int32.le_iff_toInt_le.mp z
          rw [show (nI 15).toInt = 15 from by decide] at this
          omega
      · rcases (by omega : j = 0 ∨ j = 1 ∨ j = 2 ∨ j = 3 ∨ j = 4 ∨ j = 5 ∨ j = 6 ∨ j = 7 ∨ j = 8 ∨ j = 9 ∨ j = 10 ∨ j = 11 ∨ j = 12 ∨ j = 13 ∨ j = 14) with rfl | rfl | rfl | rfl | rfl | rfl | rfl | rfl | rfl | rfl | rfl | rfl | rfl | rfl | rfl
        · exact lv_tableIn (tgt := 108) hx hb dL_32 (by rw [ev]; decide) (by rw [ev]; decide) (off := 76) (by rw [ev]; decide) (by decide) (lc_type C h4 hq hP hP' hS hl next)
        · exact lv_tableIn (tgt := 171) hx hb dL_32 (by rw [ev]; decide) (by rw [ev]; decide) (off := 139) (by rw [ev]; decide) (by decide) (lc_read C h4 hq hP hP' hS hl next)
        · exact lv_tableIn (tgt := 194) hx hb dL_32 (by rw [ev]; decide) (by rw [ev]; decide) (off := 162) (by rw [ev]; decide) (by decide) (lc_told C h4 hq hP hP' hS hl next)
        · exact lv_tableIn (tgt := 217) hx hb dL_32 (by rw [ev]; decide) (by rw [ev]; decide) (off := 185) (by rw [ev]; decide) (by decide) (lc_group C h4 hq hP hP' hS hl next)
        · exact lv_tableIn (tgt := 250) hx hb dL_32 (by rw [ev]; decide) (by rw [ev]; decide) (off := 218) (by rw [ev]; decide) (by decide) (lc_weather C h4 hq hP hP' hS hl next)
        · exact lv_tableIn (tgt := 283) hx hb dL_32 (by rw [ev]; decide) (by rw [ev]; decide) (off := 251) (by rw [ev]; decide) (by decide) (lc_cloud C h4 hq hP hP' hS hl next)
        · exact lv_tableIn (tgt := 316) hx hb dL_32 (by rw [ev]; decide) (by rw [ev]; decide) (off := 284) (by rw [ev]; decide) (by decide) (lc_from C h4 hq hP hP' hS hl next)
        · exact lv_tableIn (tgt := 349) hx hb dL_32 (by rw [ev]; decide) (by rw [ev]; decide) (off := 317) (by rw [ev]; decide) (by decide) (lc_active C h4 hq hP hP' hS hl next)
        · exact lv_tableIn (tgt := 372) hx hb dL_32 (by rw [ev]; decide) (by rw [ev]; decide) (off := 340) (by rw [ev]; decide) (by decide) (lc_activeOne C h4 hq hP hP' hS hl next)
        · exact lv_tableIn (tgt := 405) hx hb dL_32 (by rw [ev]; decide) (by rw [ev]; decide) (off := 373) (by rw [ev]; decide) (by decide) (lc_least C h4 hq hP hP' hS hl next)
        · exact lv_tableIn (tgt := 428) hx hb dL_32 (by rw [ev]; decide) (by rw [ev]; decide) (off := 396) (by rw [ev]; decide) (by decide) (lc_ceiling C h4 hq hP hP' hS hl next)
        · exact lv_tableIn (tgt := 461) hx hb dL_32 (by rw [ev]; decide) (by rw [ev]; decide) (off := 429) (by rw [ev]; decide) (by decide) (lc_next C h4 hq hP hP' hS hl next)
        · exact lv_tableIn (tgt := 484) hx hb dL_32 (by rw [ev]; decide) (by rw [ev]; decide) (off := 452) (by rw [ev]; decide) (by decide) (lc_print C h4 hq hP hP' hS hl next)
        · exact lv_tableIn (tgt := 497) hx hb dL_32 (by rw [ev]; decide) (by rw [ev]; decide) (off := 465) (by rw [ev]; decide) (by decide) (lc_character C h4 hq hP hP' hS hl next)
        · exact lv_tableIn (tgt := 520) hx hb dL_32 (by rw [ev]; decide) (by rw [ev]; decide) (off := 488) (by rw [ev]; decide) (by decide) (lc_check C h4 hq hP hP' hS hl next)
end LWP
