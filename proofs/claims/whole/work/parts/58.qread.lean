/-! ===== read ===== -/
section VW
variable {x m : jx_St} {post : Int32 → jx_St → Prop}
theorem Rl_fr2 {kb db : Nat} {B : pz_Bt} {c : Nat} {tx : List Int32} {x' m' : jx_St} (hr : rl_r x' m' kb db) (ht : rl_t x' m') (hp : rl_p x' m') (h7 : B 0 7 = nI c) (h9 : c ≤ 9) (hc : rl_c x kb B tx) (hk : rl_e m B c tx ∨ rl_f m B c tx) (f1 : ∀ c i, kb ≤ c → c < kb + 31 → x'.1 c i = x.1 c i) (f2 : ∀ c i, 8 ≤ c → c ≤ 12 → m'.1 c i = m.1 c i) (f3 : ∀ i, 18 ≤ i → i ≤ 29 → m'.1 0 i = m.1 0 i) : Rl x' m' := by
  refine ⟨kb, db, B, c, tx, hr, ht, hp, h7, h9, ?_, ?_⟩
  · obtain ⟨c1, c2, c3, c4⟩ := hc
    exact ⟨fun rc i r1 r2 r3 => by rw [f1 _ _ (by omega) (by omega)]; exact c1 rc i r1 r2 r3, by rw [f1 _ _ (by omega) (by omega)]; exact c2, fun i hi => by rw [f1 _ _ (by omega) (by omega)]; exact c3 i hi, c4⟩
  · rcases hk with ⟨k1, k2, k3, k4, k5⟩ | ⟨ks, days, B0, k1, k2, k3, k4, k5, k6, k7, k8⟩
    · exact Or.inl ⟨k1, k2, k3, by rw [f3 18 (by decide) (by decide)]; exact k4, by rw [f3 19 (by decide) (by decide)]; exact k5⟩
    · exact Or.inr ⟨ks, days, B0, k1, k2, k3, k4, k5, k6, k7, KK_fr f2 f3 k8⟩
theorem cr_fr {x' : jx_St} {b : Nat} (hb : b = 3 ∨ b = 34) (h : ∀ c i, c ≠ 65 → c ≠ 0 → x'.2 c i = x.2 c i) (hc : cr_b x b) : cr_b x' b := by
  obtain ⟨c1, c2, c3, c4⟩ := hc
  refine ⟨by rw [h b 6 (by omega) (by omega)]; exact c1, by rw [h b 8 (by omega) (by omega)]; exact c2, by rw [h b 9 (by omega) (by omega)]; exact c3, fun g hg => ?_⟩
  have := c4 g hg
  rw [h (b + 2) g (by omega) (by omega), h (b + 4 + 3 * g) 10 (by omega) (by omega), h (b + 4 + 3 * g) 11 (by omega) (by omega)]
  exact this
theorem pz_F_mk {src b : Nat} (hb : b = 3 ∨ b = 34) (hs : src = 1 ∨ src = 6 ∧ b = 34 ∨ src = 37 ∧ b = 3) (hc : cr_b x b) : pz_F (jx_sR (jx_sR x 65 0 src) 65 7 b) src b := by
  have h2 : ∀ c i, c ≠ 65 → (jx_sR (jx_sR x 65 0 src) 65 7 b).2 c i = x.2 c i := fun c i hne => by
    rw [pz_r2, if_neg (fun z => hne z.1), pz_r2, if_neg (fun z => hne z.1)]
  obtain ⟨c1, c2, c3, c4⟩ := cr_fr hb (fun c i a _ => h2 c i a) hc
  exact ⟨hb, hs, by rw [pz_r2, if_pos ⟨rfl, rfl⟩], c1, c2, c3, c4⟩
theorem q_read (h : Rl x m) (a1 : Int32) : wX3_read (fun r x' => wX4_read (fun r' m' => r = r' ∧ Rl x' m') 0 a1 m) 0 a1 x := by
  have h' := h
  obtain ⟨kb, db, B, c, tx, hr, ⟨cs, hV, t1, t2, t3⟩, hp, h7, h9, hc, hk⟩ := h'
  obtain ⟨hkd, r0, r2, r4, r5, r6, r65, c3, c34, hR⟩ := hr
  have hdb : db = 3 ∨ db = 34 := by rcases hkd with z | z <;> omega
  have hkb : kb = 3 ∨ kb = 34 := by rcases hkd with z | z <;> omega
  have hcd : cr_b x db := by rcases hdb with rfl | rfl <;> assumption
  have hl := hV.1
  have none : ∀ v : Int32, v = -1 → (a1 < 28 ∨ ¬ a1 ≤ 31) → wX4_read (fun r' m' => v = r' ∧ Rl x m') 0 a1 m := fun v ev hq => by
    subst ev
    unfold wX4_read
    refine ⟨fun _ => ⟨rfl, h⟩, fun q => ⟨fun q2 => ?_, fun _ => ⟨rfl, h⟩⟩⟩
    rcases hq with z | z
    · exact absurd z q
    · exact absurd q2 z
  unfold wX3_read
  refine ⟨fun q => none _ rfl (Or.inl q), fun q28 => ⟨fun q31 => ⟨ok_sb, ?_⟩, fun q => none _ rfl (Or.inr q)⟩⟩
  rw [r6, r0, t1]
  have hT : mz_T0 m cs := ⟨hR, hV, t2, fun i hi => (t3 i hi).2⟩
  have sR : ∀ c i, c ≠ 65 → (jx_sR (jx_sR x 65 0 1) 65 7 db).2 c i = x.2 c i := fun c i hne => by
    rw [pz_r2, if_neg (fun z => hne z.1), pz_r2, if_neg (fun z => hne z.1)]
  have s65 : (jx_sR (jx_sR x 65 0 1) 65 7 db).2 65 4 = 66 := by
    rw [pz_r2, if_neg (by decide), pz_r2, if_neg (by decide)]; exact r65
  obtain ⟨np, p1, p2, p3, p4⟩ := hp
  refine ⟨ok_rd, tX2_readText (pz_F_mk hdb (Or.inl rfl) hcd) r65 r5 hV (fun i hi => (t3 i hi).1) (fun hs s' B' lf' hPS hKT => ?_) (fun hf s' B' lf' hPS => ?_)⟩
  · intro s7 e7
    refine ⟨fun z => absurd rfl z, fun _ => ?_⟩
    have s2' : s'.2 = (jx_sR (jx_sR x 65 0 1) 65 7 db).2 := hPS.1
    have g4 : s7.2 0 4 = kb := by rw [e7, pz_s2, s2', sR 0 4 (by decide)]; exact r4
    have g5 : s7.2 0 5 = 65 := by rw [e7, pz_s2, s2', sR 0 5 (by decide)]; exact r6
    rw [g5, g4]
    unfold wX2_exchange
    refine ⟨ok_rd, ok_rd, fun x9 e9 s10 e10 s11 e11 => ?_⟩
    have f9 : x9 = db := by rw [e9, e7, pz_s2, s2', pz_r2, if_pos ⟨rfl, rfl⟩]
    have v2 : ∀ c i, ¬ (c = 0 ∧ i = 4) → ¬ (c = 65 ∧ i = 7) → s11.2 c i = (jx_sR (jx_sR x 65 0 1) 65 7 db).2 c i := fun c i hn hn2 => by
      rw [e11, pz_r2, if_neg hn, e10, pz_r2, if_neg hn2, e7, pz_s2, s2']
    have v4 : s11.2 0 4 = db := by rw [e11, pz_r2, if_pos ⟨rfl, rfl⟩, f9]
    have v5 : s11.2 65 7 = kb := by rw [e11, pz_r2, if_neg (by decide), e10, pz_r2, if_pos ⟨rfl, rfl⟩]
    have i1 : ∀ c i, s11.1 c i = s7.1 c i := fun c i => by rw [e11, pz_r1, e10, pz_r1]
    have i7 : ∀ c i, ¬ (c = 0 ∧ i = 1) → s11.1 c i = s'.1 c i := fun c i hn => by rw [i1, e7, pz_s1, if_neg hn]
    have fr : ∀ c i, c ≠ 65 → c ≠ 66 → (c < db ∨ db + 31 ≤ c) → s'.1 c i = x.1 c i := fun c i a1 a2 a3 => hPS.2.2.2.2.2.2.2.1 c i a1 a2 a3
    refine sX4_read hT q28 q31 (fun rc i => x.1 (db + rc) i) (fun hs' m' k1 k2 k3 k4 k5 => ⟨rfl, ?_⟩) (fun hf' => ?_)
    · obtain ⟨c', hw⟩ := sp_read_wf hV q28 q31 hs
      refine ⟨db, kb, (sp_read (pz_tok cs) a1 (sp_start (fun rc i => x.1 (db + rc) i) a1)).2.2, c', pz_can cs, ⟨?_, ?_, ?_, v4, v5, ?_, ?_, ?_, ?_, k1⟩, ?_, ?_, hw.2.2.1, hw.2.1, ⟨fun rc i l1 l2 l3 => ?_, ?_, fun i hi => ?_, hKT.2.2.2⟩, Or.inr ⟨cs, a1, _, hV, q28, q31, hs, rfl, rfl, hw, k5⟩⟩
      · rcases hkd with z | z <;> omega
      · rw [v2 0 0 (by omega) (by omega), sR 0 0 (by decide)]; exact r0
      · rw [v2 0 2 (by omega) (by omega), sR 0 2 (by decide)]; exact r2
      · rw [v2 0 5 (by omega) (by omega), sR 0 5 (by decide)]; exact r6
      · rw [v2 65 4 (by omega) (by omega)]; exact s65
      · exact cr_fr (Or.inl rfl) (fun c i n1 n2 => by rw [v2 c i (by omega) (by omega), sR c i n1]) c3
      · exact cr_fr (Or.inr rfl) (fun c i n1 n2 => by rw [v2 c i (by omega) (by omega), sR c i n1]) c34
      · exact ⟨[], ⟨by decide, fun y hy => absurd hy (by simp)⟩, by rw [i1, e7, pz_s1, if_pos ⟨rfl, rfl⟩]; rfl, by rw [k4]; rfl, fun i hi => absurd hi (by simp)⟩
      · exact ⟨np, p1, by rw [i7 0 3 (by omega), fr 0 3 (by decide) (by decide) (by omega)]; exact p2, by rw [k3]; exact p3, fun i hi => by rw [i7 2 i (by omega), fr 2 i (by decide) (by decide) (by omega), k2 i]; exact p4 i hi⟩
      · rw [i7 _ _ (by omega), hPS.2.2.2.2.2.2.1 rc i l1]; exact hKT.1 rc i l2 l3
      · have := hPS.2.2.2.2.2.2.1 0 10 (by decide)
        rw [Nat.add_zero] at this
        rw [i7 _ _ (by omega), this]; exact hKT.2.1
      · rw [i7 _ _ (by omega), hPS.2.2.2.2.2.2.1 3 i (by decide)]; exact hKT.2.2.1 i hi
    · rw [hs] at hf'; exact absurd hf' (by decide)
  · intro s7 e7
    have hpos : pz_pos cs (sp_read (pz_tok cs) a1 (sp_start (fun rc i => x.1 (db + rc) i) a1)).2.1 ≤ cs.length := by unfold pz_pos; omega
    have n0 : ¬ (nI (pz_pos cs (sp_read (pz_tok cs) a1 (sp_start (fun rc i => x.1 (db + rc) i) a1)).2.1) + 1 : Int32) = 0 := by
      rw [nI_1]; exact nI_ne0 (by omega) (by omega)
    refine ⟨fun _ => ?_, fun z => absurd z n0⟩
    have s2' : s'.2 = (jx_sR (jx_sR x 65 0 1) 65 7 db).2 := hPS.1
    have i7 : ∀ c i, ¬ (c = 0 ∧ i = 1) → s7.1 c i = s'.1 c i := fun c i hn => by rw [e7, pz_s1, if_neg hn]
    have fr : ∀ c i, c ≠ 65 → c ≠ 66 → (c < db ∨ db + 31 ≤ c) → s'.1 c i = x.1 c i := fun c i a1 a2 a3 => hPS.2.2.2.2.2.2.2.1 c i a1 a2 a3
    have v2 : ∀ c i, s7.2 c i = (jx_sR (jx_sR x 65 0 1) 65 7 db).2 c i := fun c i => by rw [e7, pz_s2, s2']
    refine sX4_read hT q28 q31 (fun rc i => x.1 (db + rc) i) (fun hs' => ?_) (fun hf' m' k1 k2 k3 k4 => ⟨rfl, ?_⟩)
    · rw [hf] at hs'; exact absurd hs' (by decide)
    · refine Rl_fr2 (x := x) (m := m) ⟨hkd, ?_, ?_, ?_, ?_, ?_, ?_, ?_, ?_, k1⟩ ?_ ?_ h7 h9 hc hk (fun c i l1 l2 => ?_) (fun c i l1 l2 => k2 c i l1) (fun i l1 l2 => k3 i l1)
      · rw [v2 0 0, sR 0 0 (by decide)]; exact r0
      · rw [v2 0 2, sR 0 2 (by decide)]; exact r2
      · rw [v2 0 4, sR 0 4 (by decide)]; exact r4
      · rw [v2 65 7, pz_r2, if_pos ⟨rfl, rfl⟩]
      · rw [v2 0 5, sR 0 5 (by decide)]; exact r6
      · rw [v2 65 4]; exact s65
      · exact cr_fr (Or.inl rfl) (fun c i n1 n2 => by rw [v2 c i, sR c i n1]) c3
      · exact cr_fr (Or.inr rfl) (fun c i n1 n2 => by rw [v2 c i, sR c i n1]) c34
      · exact ⟨[], ⟨by decide, fun y hy => absurd hy (by simp)⟩, by rw [e7, pz_s1, if_pos ⟨rfl, rfl⟩]; rfl, by rw [k4]; rfl, fun i hi => absurd hi (by simp)⟩
      · exact ⟨np, p1, by rw [i7 0 3 (by omega), fr 0 3 (by decide) (by decide) (by omega)]; exact p2, by rw [k3 31 (by decide)]; exact p3, fun i hi => by rw [i7 2 i (by omega), fr 2 i (by decide) (by decide) (by omega), k2 13 i (by decide)]; exact p4 i hi⟩
      · rw [i7 c i (by omega)]
        exact fr c i (by omega) (by omega) (by rcases hkd with z | z <;> omega)
end VW
