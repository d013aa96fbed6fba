/-! ===== check ===== -/
theorem pz_nt (cs : List Int32) : ∃ nt, ∀ t, (pz_tok cs t).length = 0 ↔ nt ≤ t := by
  have dec : ∀ t, (pz_tok cs t).length ≠ 0 → (pz_sx cs (t + 1)).length < (pz_sx cs t).length := fun t h => by
    have e := pz_sx_app cs t
    have h1 : (pz_sx cs (t + 1)).length ≤ ((pz_sx cs t).dropWhile pz_nb).length := (List.dropWhile_suffix _).length_le
    have h2 := congrArg List.length e
    rw [List.length_append] at h2
    omega
  have ex : ∃ t, (pz_tok cs t).length = 0 := by
    have : ∀ n t, (pz_sx cs t).length ≤ n → ∃ t', (pz_tok cs t').length = 0 := by
      intro n
      induction n with
      | zero =>
        intro t h
        refine ⟨t, ?_⟩
        have := pz_tok_len cs t
        omega
      | succ n ih =>
        intro t h
        by_cases q : (pz_tok cs t).length = 0
        · exact ⟨t, q⟩
        · exact ih (t + 1) (by have := dec t q; omega)
    exact this _ 0 (Nat.le_refl _)
  obtain ⟨k, hk, hl⟩ := pk_least (fun t => (pz_tok cs t).length = 0) ex
  refine ⟨k, fun t => ⟨fun z => ?_, fun z => ?_⟩⟩
  · rcases Nat.lt_or_ge t k with y | y
    · exact absurd z (hl t y)
    · exact y
  · obtain ⟨d, rfl⟩ := Nat.exists_eq_add_of_le z
    unfold pz_tok
    rw [pz_sx_nil (pz_tok_nil hk) d]; rfl
theorem pz_C_eq {cs cs' : List Int32} (h : pz_tok cs' = pz_tok cs) : ∀ n t, pz_C cs' n t = pz_C cs n t := by
  intro n
  induction n with
  | zero => intro t; rfl
  | succ n ih => intro t; rw [pz_C, pz_C, h, ih]
theorem pz_can2 (cs : List Int32) : pz_tok (pz_can cs) = pz_tok cs ∧ pz_can (pz_can cs) = pz_can cs := by
  obtain ⟨nt, h⟩ := pz_nt cs
  have e := pz_tok_can h
  refine ⟨e, ?_⟩
  rw [pz_can_C (cs := pz_can cs) (nt := nt) (by rw [e]; exact h), pz_C_eq e, ← pz_can_C h]
section VX
variable {x m : jx_St} {b d : Nat} {B B' : pz_Bt} {c : Nat} {post : Int32 → jx_St → Prop}
theorem kX1_sameStart {a0 a1 L : Nat} (h0 : jx_ok jx_LX 6 a0 ∧ (jx_LX.1 a0).2 = L) (h1 : jx_ok jx_LX 6 a1 ∧ (jx_LX.1 a1).2 = L) (hL : L < 100) {cnt : Int32} (he : ∀ j, j < L → nI j < cnt → x.1 a0 j = x.1 a1 j) (hp : post 1 x) : wX1_sameStart post a0 a1 cnt x := by
  have loop : ∀ (r i : Nat), i + r = L → wX1_sameStart_l2 post (r + 1) a0 a1 cnt (nI i) x := by
    intro r
    induction r with
    | zero =>
      intro i e
      unfold wX1_sameStart_l2
      rw [h0.2, h1.2]
      exact ⟨fun _ => hp, fun _ => ⟨h0.1, fun _ => hp, fun z => absurd (nI_le (by omega) (by omega)) z⟩⟩
    | succ r ih =>
      intro i e
      unfold wX1_sameStart_l2
      rw [h0.2, h1.2, pz_cl (by omega)]
      refine ⟨fun _ => hp, fun q => ⟨h0.1, fun _ => hp, fun _ => ⟨h1.1, fun _ => hp, fun _ => ⟨⟨h0.1, by rw [h0.2]; exact vp_in_nI (by omega) (by omega)⟩, ⟨h1.1, by rw [h1.2]; exact vp_in_nI (by omega) (by omega)⟩, fun _ y ey => ?_, fun z => absurd (he i (by omega) (Int32.not_le.mp q)) z⟩⟩⟩⟩
      rw [ey, nI_1]; exact ih (i + 1) (by omega)
  exact ⟨L + 1, loop L 0 (by omega)⟩
def vq_b (x : jx_St) (b : Nat) (B : pz_Bt) : Prop := (b = 3 ∨ b = 34) ∧ cr_b x b ∧ ∀ rc i, rc < 31 → rc ≠ 3 → ¬ (rc = 0 ∧ i = 10) → x.1 (b + rc) i = B rc i
theorem vb_g (h : vq_b x b B) {rc : Nat} (g i : Nat) (hr : rc = 4 ∨ rc = 5 ∨ rc = 6) (hg : g < 9) : x.1 (b + rc + 3 * g) i = B (rc + 3 * g) i := by
  have := h.2.2 (rc + 3 * g) i (by omega) (by omega) (by omega)
  rwa [← Nat.add_assoc] at this
theorem vb_0 (h : vq_b x b B) (i : Nat) (hi : i ≠ 10) : x.1 b i = B 0 i := h.2.2 0 i (by decide) (by decide) (by omega)
theorem kX1_sameAs (hb : vq_b x b B) (hd : vq_b x d B') (hE : pz_E c B B') (h9 : c ≤ 9) {g : Nat} (hg : g < c) (hp : post 1 x) : wX1_sameAs post (b + 4 + 3 * g) (d + 4 + 3 * g) x := by
  have hg9 : g < 9 := by omega
  have eq : ∀ i, i < 10 → x.1 (b + 4 + 3 * g) i = x.1 (d + 4 + 3 * g) i := fun i hi => by
    rw [vb_g hb g i (Or.inl rfl) hg9, vb_g hd g i (Or.inl rfl) hg9]; exact hE.2.1 g i hg hi
  have rb := hb.2.1.2.2.2 g hg9
  have rd := hd.2.1.2.2.2 g hg9
  unfold wX1_sameAs
  refine ⟨ok_g hb.1 hg9, ok_g hd.1 hg9, fun z => absurd (eq 0 (by decide)) z, fun _ => ⟨fun z => absurd (eq 1 (by decide)) z, fun _ => ⟨fun z => absurd (eq 2 (by decide)) z, fun _ => ⟨fun z => absurd (eq 3 (by decide)) z, fun _ => ⟨fun z => absurd (eq 4 (by decide)) z, fun _ => ⟨fun z => absurd (eq 5 (by decide)) z, fun _ => ⟨fun z => absurd (eq 6 (by decide)) z, fun _ => ⟨fun z => absurd (eq 7 (by decide)) z, fun _ => ⟨fun z => absurd (eq 8 (by decide)) z, fun _ => ⟨fun z => absurd (eq 9 (by decide)) z, fun _ => ?_⟩⟩⟩⟩⟩⟩⟩⟩⟩⟩
  rw [rb.2.1, rd.2.1, vb_g hb g 8 (Or.inl rfl) hg9]
  refine kX1_sameStart (L := 3) (ok_gw hb.1 hg9) (ok_gw hd.1 hg9) (by decide) (fun j hj hl => ?_) (fun _ => ⟨fun z => absurd z (by decide), fun _ => ?_⟩)
  · rw [vb_g hb g j (Or.inr (Or.inl rfl)) hg9, vb_g hd g j (Or.inr (Or.inl rfl)) hg9]; exact hE.2.2.1 g j hg hj hl
  · rw [rb.2.2, rd.2.2, vb_g hb g 9 (Or.inl rfl) hg9]
    refine kX1_sameStart (L := 4) (ok_gc hb.1 hg9) (ok_gc hd.1 hg9) (by decide) (fun j hj hl => ?_) (fun _ => ⟨fun z => absurd z (by decide), fun _ => hp⟩)
    rw [vb_g hb g j (Or.inr (Or.inr rfl)) hg9, vb_g hd g j (Or.inr (Or.inr rfl)) hg9]; exact hE.2.2.2 g j hg hj hl
theorem kX0_sameAs (hb : vq_b x b B) (hd : vq_b x d B') (hE : pz_E c B B') (h7 : B 0 7 = nI c) (h9 : c ≤ 9) (hst : ∀ j, j < 4 → B 1 j = B' 1 j) {tx : List Int32} (hl : tx.length ≤ 700) (b10 : x.1 b 10 = nI tx.length) (d10 : x.1 d 10 = nI tx.length) (bt : ∀ i, i < tx.length → x.1 (b + 3) i = tx.getD i 0) (dt : ∀ i, i < tx.length → x.1 (d + 3) i = tx.getD i 0) (hp : post 1 x) : wX0_sameAs post b d x := by
  have eq : ∀ i, i < 8 → i ≠ 6 → x.1 b i = x.1 d i := fun i hi h6 => by
    rw [vb_0 hb i (by omega), vb_0 hd i (by omega)]; exact hE.1 i hi h6
  have kb := ok_b hb.1
  have kd := ok_b hd.1
  have oks : ∀ y : Nat, (y = 3 ∨ y = 34) → jx_ok jx_LX 6 (y + 1) ∧ (jx_LX.1 (y + 1)).2 = 4 := fun y hy => by
    rcases hy with rfl | rfl <;> exact ⟨⟨by decide, by decide⟩, by decide⟩
  unfold wX0_sameAs
  refine ⟨kb, kd, fun z => absurd (eq 0 (by decide) (by decide)) z, fun _ => ⟨fun z => absurd (eq 1 (by decide) (by decide)) z, fun _ => ⟨fun z => absurd (eq 2 (by decide) (by decide)) z, fun _ => ⟨fun z => absurd (eq 3 (by decide) (by decide)) z, fun _ => ⟨fun z => absurd (eq 4 (by decide) (by decide)) z, fun _ => ⟨fun z => absurd (eq 5 (by decide) (by decide)) z, fun _ => ?_⟩⟩⟩⟩⟩⟩
  rw [hb.2.1.1, hd.2.1.1]
  refine kX1_sameStart (L := 4) (oks b hb.1) (oks d hd.1) (by decide) (fun j hj _ => ?_) (fun _ => ⟨fun z => absurd z (by decide), fun _ => ?_⟩)
  · have e1 := hb.2.2 1 j (by decide) (by decide) (by omega)
    have e2 := hd.2.2 1 j (by decide) (by decide) (by omega)
    rw [e1, e2]; exact hst j hj
  · have grp : ∀ (r g : Nat), g + r = c → ∀ post' : Int32 → jx_St → Prop, post' 1 x → wX0_sameGroups_l15 post' (r + 1) b d (nI g) x := by
      intro r
      induction r with
      | zero =>
        intro g e post' hp'
        unfold wX0_sameGroups_l15
        rw [vb_0 hb 7 (by decide), h7]
        exact ⟨kb, fun _ => hp', fun z => absurd (nI_le (by omega) (by omega)) z⟩
      | succ r ih =>
        intro g e post' hp'
        have hg9 : g < 9 := by omega
        unfold wX0_sameGroups_l15
        rw [vb_0 hb 7 (by decide), h7, hb.2.1.2.1, hd.2.1.2.1, pz_cl (by omega), (hb.2.1.2.2.2 g hg9).1, (hd.2.1.2.2.2 g hg9).1]
        refine ⟨kb, fun z => absurd z (nI_ge (by omega) (by omega)), fun _ => ⟨fun z => absurd z (nI_ge (b := 9) hg9 (by decide)), fun _ => ⟨ix_gs hb.1 hg9, kd, ix_gs hd.1 hg9, ok_g hb.1 hg9, kX1_sameAs hb hd hE h9 (by omega) (fun _ => ⟨fun _ y ey => ?_, fun z => absurd z (by decide)⟩)⟩⟩⟩
        rw [ey, nI_1]; exact ih (g + 1) (by omega) post' hp'
    have txt : ∀ (r i : Nat), i + r = tx.length → ∀ post' : Int32 → jx_St → Prop, post' 1 x → wX0_sameText_l15 post' (r + 1) b d (nI i) x := by
      intro r
      induction r with
      | zero =>
        intro i e post' hp'
        unfold wX0_sameText_l15
        rw [b10]
        exact ⟨kb, fun _ => hp', fun z => absurd (nI_le (by omega) (by omega)) z⟩
      | succ r ih =>
        intro i e post' hp'
        unfold wX0_sameText_l15
        rw [b10, hb.2.1.2.2.1, hd.2.1.2.2.1, pz_cl (by omega), bt i (by omega), dt i (by omega)]
        refine ⟨kb, fun z => absurd z (nI_ge (by omega) (by omega)), fun _ => ⟨fun _ => hp', fun _ => ⟨ix_tx hb.1 (by omega), kd, ix_tx hd.1 (by omega), fun _ y ey => ?_, fun z => absurd rfl z⟩⟩⟩
        rw [ey, nI_1]; exact ih (i + 1) (by omega) post' hp'
    unfold wX0_sameGroups
    refine ⟨kb, kd, fun _ => ⟨c + 1, grp c 0 (by omega) _ (fun _ => ⟨fun z => absurd z (by decide), fun _ => ?_⟩)⟩, fun z => absurd (eq 7 (by decide) (by decide)) z⟩
    unfold wX0_sameText
    rw [b10, d10]
    exact ⟨kb, kd, fun _ => ⟨tx.length + 1, txt tx.length 0 (by omega) _ (fun _ => ⟨fun z => absurd z (by decide), fun _ => hp⟩)⟩, fun z => absurd rfl z⟩
theorem kX1_tellsSomething (h : vq_c x b B) {g : Nat} (hg : g < 9) (ht : pz_tells B g) (hp : post 1 x) : wX1_tellsSomething post (b + 4 + 3 * g) x := by
  have hk := ok_g h.1 hg
  unfold wX1_tellsSomething
  refine ⟨hk, kX1_tells h hg (f := 5) (f' := 4) (Or.inl ⟨rfl, rfl, rfl⟩) (fun q _ => ⟨fun _ => hp, fun z => absurd z (by decide)⟩) (fun q _ => ⟨fun z => absurd rfl z, fun _ => ?_⟩)⟩
  refine kX1_tells h hg (f := 7) (f' := 7) (Or.inr (Or.inl ⟨rfl, rfl, rfl⟩)) (fun q2 _ => ⟨fun _ => hp, fun z => absurd z (by decide)⟩) (fun q2 _ => ⟨fun z => absurd rfl z, fun _ => ?_⟩)
  refine kX1_tells h hg (f := 8) (f' := 8) (Or.inr (Or.inr (Or.inl ⟨rfl, rfl, rfl⟩))) (fun q3 _ => ⟨fun _ => hp, fun z => absurd z (by decide)⟩) (fun q3 _ => ⟨fun z => absurd rfl z, fun _ => ?_⟩)
  refine kX1_tells h hg (f := 9) (f' := 9) (Or.inr (Or.inr (Or.inr ⟨rfl, rfl, rfl⟩))) (fun q4 _ => ⟨fun z => absurd z (by decide), fun _ => hp⟩) (fun q4 _ => ?_)
  exfalso
  rcases ht with z | z | z | z
  · exact z q
  · exact z q2
  · exact z q3
  · exact z q4
theorem kX0_minuteTells (h : vq_c x b B) (hw : vq_w B c) (hc : 1 ≤ c) {t : Int32} (hp : post 1 x) : wX0_minuteTells post b t x := by
  have h7 := hw.1
  have h9 := hw.2.1
  have grp : ∀ (r g : Nat), g + r = c → wX0_minuteTells_l35 post (r + 1) b t (nI g) x := by
    intro r
    induction r with
    | zero =>
      intro g e
      unfold wX0_minuteTells_l35
      rw [vc_0 h 7 (by decide), h7]
      exact ⟨ok_b h.1, fun _ => hp, fun z => absurd (nI_le (by omega) (by omega)) z⟩
    | succ r ih =>
      intro g e
      have hg9 : g < 9 := by omega
      unfold wX0_minuteTells_l35
      rw [vc_0 h 7 (by decide), h7, vc_r8 h, pz_cl (by omega), vc_rg h hg9]
      refine ⟨ok_b h.1, fun z => absurd z (nI_ge (by omega) (by omega)), fun _ => ⟨fun z => absurd z (nI_ge (b := 9) hg9 (by decide)), fun _ => ⟨ix_gs h.1 hg9, ok_g h.1 hg9, kX1_isActiveAt h hg9 t (fun q _ => ⟨fun z => absurd z (by decide), fun _ => ?_⟩) (fun q _ => ⟨fun _ y ey => ?_, fun z => absurd rfl z⟩)⟩⟩⟩
      · rw [vc_r8 h, vc_rg h hg9]
        refine ⟨ix_gs h.1 hg9, ok_g h.1 hg9, kX1_tellsSomething h hg9 (vw_G hw (by omega)).2.2.2 (fun _ => ⟨fun _ y ey => ?_, fun z => absurd z (by decide)⟩)⟩
        rw [ey, nI_1]; exact ih (g + 1) (by omega)
      · rw [ey, nI_1]; exact ih (g + 1) (by omega)
  have one : ∀ (n : Nat) (p : Int32) (f f' : Nat), vq_p p f f' → ¬ 4 ≤ p → wX0_minuteTells_l2 post n b t (p + 1) x → wX0_minuteTells_l2 post (n + 1) b t p x := by
    intro n p f f' hf hp4 hn
    obtain ⟨z, hz, ez, hz2⟩ := tel_r (t := t) hw hc hf
    have hz9 : z < 9 := by omega
    unfold wX0_minuteTells_l2
    refine ⟨fun y => absurd y hp4, fun _ => ⟨ok_b h.1, kX0_teller h h7 h9 hc hf ?_⟩⟩
    rw [ez, vc_r8 h, pz_cl (by omega), vc_rg h hz9]
    refine ⟨ix_gs h.1 hz9, ok_g h.1 hz9, kX1_tells h hz9 hf (fun _ _ => ⟨fun _ y ey => by rw [ey]; exact hn, fun y => absurd y (by decide)⟩) (fun y => absurd y hz2)⟩
  refine ⟨5, one 4 0 5 4 (Or.inl ⟨rfl, rfl, rfl⟩) (by decide) (one 3 _ 7 7 (Or.inr (Or.inl ⟨by decide, rfl, rfl⟩)) (by decide) (one 2 _ 8 8 (Or.inr (Or.inr (Or.inl ⟨by decide, rfl, rfl⟩))) (by decide) (one 1 _ 9 9 (Or.inr (Or.inr (Or.inr ⟨by decide, rfl, rfl⟩))) (by decide) ?_)))⟩
  unfold wX0_minuteTells_l2
  exact ⟨fun _ => ⟨c - 1 + 1, grp (c - 1) 1 (by omega)⟩, fun z => absurd (by decide) z⟩
theorem kX0_eachMinuteTells (h : vq_c x b B) (hw : vq_w B c) (hc : 1 ≤ c) (hp : post 1 x) : wX0_eachMinuteTells post b x := by
  have h7 := hw.1
  have h9 := hw.2.1
  have loop : ∀ (r g : Nat), g + r = c → wX0_eachMinuteTells_l2 post (r + 1) b (nI g) x := by
    intro r
    induction r with
    | zero =>
      intro g e
      unfold wX0_eachMinuteTells_l2
      rw [vc_0 h 7 (by decide), h7]
      exact ⟨ok_b h.1, fun _ => hp, fun z => absurd (nI_le (by omega) (by omega)) z⟩
    | succ r ih =>
      intro g e
      have hg9 : g < 9 := by omega
      have b50 : wX0_eachMinuteTells_b50 post (fun z0 z1 zs => wX0_eachMinuteTells_l2 post (r + 1) z0 z1 zs) b (nI g) x := by
        unfold wX0_eachMinuteTells_b50
        rw [vc_r8 h, pz_cl (by omega), vc_rg h hg9]
        refine ⟨ok_b h.1, ix_gs h.1 hg9, ok_g h.1 hg9, kX0_covers h _ (fun q _ => ⟨fun z => absurd z (by decide), fun _ => ?_⟩) (fun q _ => ⟨fun _ y ey => ?_, fun z => absurd rfl z⟩)⟩
        · rw [vc_r8 h, vc_rg h hg9]
          refine ⟨ix_gs h.1 hg9, ok_g h.1 hg9, kX0_minuteTells h hw hc (fun _ => ⟨fun _ y ey => ?_, fun z => absurd z (by decide)⟩)⟩
          rw [ey, nI_1]; exact ih (g + 1) (by omega)
        · rw [ey, nI_1]; exact ih (g + 1) (by omega)
      unfold wX0_eachMinuteTells_l2
      rw [vc_0 h 7 (by decide), h7, vc_r8 h, pz_cl (by omega), vc_rg h hg9]
      refine ⟨ok_b h.1, fun z => absurd z (nI_ge (by omega) (by omega)), fun _ => ⟨fun z => absurd z (nI_ge (b := 9) hg9 (by decide)), fun _ => ⟨ix_gs h.1 hg9, ok_g h.1 hg9, kX0_covers h _ (fun q _ => ⟨fun z => absurd z (by decide), fun _ => ?_⟩) (fun q _ => ⟨fun _ => b50, fun z => absurd rfl z⟩)⟩⟩⟩
      rw [vc_r8 h, vc_rg h hg9]
      exact ⟨ix_gs h.1 hg9, ok_g h.1 hg9, kX0_minuteTells h hw hc (fun _ => ⟨fun _ => b50, fun z => absurd z (by decide)⟩)⟩
  exact ⟨c + 1, loop c 0 (by omega)⟩
theorem q_check (h : Rl x m) : wX3_check (fun r x' => wX4_check (fun r' m' => r = r' ∧ Rl x' m') 0 m) 0 x := by
  have h' := h
  obtain ⟨kb, db, B, c, tx, hr, ht, hp, h7, h9, hc, hk⟩ := h'
  obtain ⟨hkd, r0, r2, r4, r5, r6, r65, c3, c34, hR⟩ := hr
  have hdb : db = 3 ∨ db = 34 := by rcases hkd with z | z <;> omega
  have hkb : kb = 3 ∨ kb = 34 := by rcases hkd with z | z <;> omega
  have hcd : cr_b x db := by rcases hdb with rfl | rfl <;> assumption
  have hck : cr_b x kb := by rcases hkb with rfl | rfl <;> assumption
  have e0 : x.1 kb 0 = B 0 0 := hc.1 0 0 (by decide) (by decide) (by decide)
  have e1 : x.1 kb 1 = B 0 1 := hc.1 0 1 (by decide) (by decide) (by decide)
  unfold wX3_check wX4_check
  rw [r4, e0, e1, r6, hck.2.2.1, hc.2.1]
  refine ⟨ok_sb, ok_b hkb, fun q => ⟨ok_rd, ?_⟩, fun _ => ⟨rfl, h⟩⟩
  have hk' := hk
  rcases hk with ⟨k1, _⟩ | ⟨ks, days, B0, kV, k28, k31, ks1, kB, ktx, kw, kk⟩
  · exact absurd k1 q
  · have ed : B 0 1 = days := kw.2.2.2.2.1
    rw [ed]
    have hV : pz_V tx := rl_tx hc.2.2.2 hk'
    have ca := pz_can2 ks
    have eT : pz_tok tx = pz_tok ks := by rw [ktx]; exact ca.1
    have eC : pz_can tx = tx := by rw [ktx]; exact ca.2
    have hsrc : kb + 3 = 1 ∨ kb + 3 = 6 ∧ db = 34 ∨ kb + 3 = 37 ∧ db = 3 := by rcases hkd with z | z <;> omega
    have sR : ∀ c i, c ≠ 65 → (jx_sR (jx_sR x 65 0 (kb + 3)) 65 7 db).2 c i = x.2 c i := fun c i hne => by
      rw [pz_r2, if_neg (fun z => hne z.1), pz_r2, if_neg (fun z => hne z.1)]
    have s65 : (jx_sR (jx_sR x 65 0 (kb + 3)) 65 7 db).2 65 4 = 66 := by
      rw [pz_r2, if_neg (by decide), pz_r2, if_neg (by decide)]; exact r65
    have again := E_read (pz_tok ks) days B0 (fun rc i => x.1 (db + rc) i) (c := c) ks1 (by rw [← kB]; exact h7) h9
    rw [← kB] at again
    refine tX2_readText (pz_F_mk hdb hsrc hcd) r65 r5 hV (fun i hi => hc.2.2.1 i hi) (fun hs s' B' lf' hPS hKT => ?_) (fun hf s' B' lf' hPS => ?_)
    · rw [eT] at hs hKT
      rw [eC] at hKT
      refine ⟨fun z => absurd rfl z, fun _ => ?_⟩
      have s2' : ∀ c i, c ≠ 65 → s'.2 c i = x.2 c i := fun c i hn => by rw [hPS.1]; exact sR c i hn
      have fr : ∀ c i, c ≠ 65 → c ≠ 66 → (c < db ∨ db + 31 ≤ c) → s'.1 c i = x.1 c i := fun c i a1 a2 a3 => hPS.2.2.2.2.2.2.2.1 c i a1 a2 a3
      have f1 : ∀ c i, kb ≤ c → c < kb + 31 → s'.1 c i = x.1 c i := fun c i l1 l2 => fr c i (by omega) (by omega) (by rcases hkd with z | z <;> omega)
      have hb : vq_b s' kb B := ⟨hkb, cr_fr hkb (fun c i n1 n2 => s2' c i n1) hck, fun rc i l1 l2 l3 => by rw [f1 _ _ (by omega) (by omega)]; exact hc.1 rc i l1 l2 l3⟩
      have hd : vq_b s' db (sp_read (pz_tok ks) days (sp_start (fun rc i => x.1 (db + rc) i) days)).2.2 := ⟨hdb, cr_fr hdb (fun c i n1 n2 => s2' c i n1) hcd, fun rc i l1 l2 l3 => by rw [hPS.2.2.2.2.2.2.1 rc i l1]; exact hKT.1 rc i l2 l3⟩
      obtain ⟨c', hw'⟩ := sp_read_wf kV k28 k31 again.1
      have hRl : Rl s' m := by
        refine Rl_fr2 (x := x) (m := m) ⟨hkd, ?_, ?_, ?_, ?_, ?_, ?_, ?_, ?_, hR⟩ ?_ ?_ h7 h9 hc hk' f1 (fun _ _ _ _ => rfl) (fun _ _ _ => rfl)
        · rw [s2' 0 0 (by decide)]; exact r0
        · rw [s2' 0 2 (by decide)]; exact r2
        · rw [s2' 0 4 (by decide)]; exact r4
        · rw [hPS.1, pz_r2, if_pos ⟨rfl, rfl⟩]
        · rw [s2' 0 5 (by decide)]; exact r6
        · rw [hPS.1]; exact s65
        · exact cr_fr (Or.inl rfl) (fun c i n1 n2 => s2' c i n1) c3
        · exact cr_fr (Or.inr rfl) (fun c i n1 n2 => s2' c i n1) c34
        · obtain ⟨cs, v1, v2, v3, v4⟩ := ht
          exact ⟨cs, v1, by rw [fr 0 1 (by decide) (by decide) (by omega)]; exact v2, v3, fun i hi => ⟨by rw [fr 1 i (by decide) (by decide) (by omega)]; exact (v4 i hi).1, (v4 i hi).2⟩⟩
        · obtain ⟨np, p1, p2, p3, p4⟩ := hp
          exact ⟨np, p1, by rw [fr 0 3 (by decide) (by decide) (by omega)]; exact p2, p3, fun i hi => by rw [fr 2 i (by decide) (by decide) (by omega)]; exact p4 i hi⟩
      have q4 : s'.2 0 4 = kb := by rw [s2' 0 4 (by decide)]; exact r4
      have q5 : s'.2 0 5 = 65 := by rw [s2' 0 5 (by decide)]; exact r6
      have q7 : s'.2 65 7 = db := by rw [hPS.1, pz_r2, if_pos ⟨rfl, rfl⟩]
      have d10 := hPS.2.2.2.2.2.2.1 0 10 (by decide)
      rw [Nat.add_zero] at d10
      rw [q4, q5, q7]
      refine ⟨ok_rd, ok_b hkb, kX0_sameAs hb hd again.2 h7 h9 (fun j hj => by rw [kw.2.2.2.2.2.2 j hj, hw'.2.2.2.2.2.2 j hj]) hV.1 (by rw [f1 _ _ (by omega) (by omega)]; exact hc.2.1) (by rw [d10]; exact hKT.2.1) (fun i hi => by rw [f1 _ _ (by omega) (by omega)]; exact hc.2.2.1 i hi) (fun i hi => by rw [hPS.2.2.2.2.2.2.1 3 i (by decide)]; exact hKT.2.2.1 i hi) (fun _ => ⟨fun z => absurd z (by decide), fun _ => ?_⟩)⟩
      rw [q4]
      have hvc : vq_c s' kb B := ⟨hkb, q4, hb.2.1, hb.2.2⟩
      have hvw : vq_w B c := ⟨h7, h9, Or.inr ⟨kw.1, kw.2.2.2.1, kw.2.2.2.2.2.1⟩⟩
      exact ⟨ok_b hkb, kX0_eachMinuteTells hvc hvw kw.1 (fun _ => ⟨fun z => absurd z (by decide), fun _ => ⟨rfl, hRl⟩⟩)⟩
    · rw [eT] at hf
      rw [again.1] at hf
      exact absurd hf (by decide)
end VX
