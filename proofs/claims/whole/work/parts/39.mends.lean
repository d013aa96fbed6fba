/-! ===== the reference: temperatures and pressure; report and forecast ===== -/
theorem pz_neg1001 : ∀ u, u < 100 → -(nI u) ≠ -1001 ∧ nI u ≠ -1001 := by decide
theorem pz_deg_n {cs : List Int32} (hV : pz_V cs) (k f : Nat) {c : Nat} (hc : c = if pz_ch (pz_tok cs k) f = 77 then 1 else 0) : (pz_deg (pz_tok cs k) f ≠ -1001 ↔ ¬ pz_dig (pz_tok cs k) (f + c) 2 < 0) ∧ (¬ pz_dig (pz_tok cs k) (f + c) 2 < 0 → pz_deg (pz_tok cs k) f = if pz_ch (pz_tok cs k) f = 77 then -(pz_dig (pz_tok cs k) (f + c) 2) else pz_dig (pz_tok cs k) (f + c) 2) := by
  unfold pz_deg
  by_cases q : pz_ch (pz_tok cs k) f = 77
  · rw [if_pos q] at hc
    subst hc
    rw [if_pos q, if_pos q]
    rcases pz_dig2 hV k (f + 1) with e | ⟨u, hu, e⟩
    · rw [e, if_pos rfl]; exact ⟨⟨fun z => absurd rfl z, fun z => absurd (by decide) z⟩, fun z => absurd (by decide) z⟩
    · rw [e, if_neg (pz_nm1 (by omega))]; exact ⟨⟨fun _ => nI_pos (by omega), fun _ => (pz_neg1001 u hu).1⟩, fun _ => rfl⟩
  · rw [if_neg q] at hc
    subst hc
    rw [if_neg q, if_neg q, Nat.add_zero]
    rcases pz_dig2 hV k f with e | ⟨u, hu, e⟩
    · rw [e, if_pos rfl]; exact ⟨⟨fun z => absurd rfl z, fun z => absurd (by decide) z⟩, fun z => absurd (by decide) z⟩
    · rw [e, if_neg (pz_nm1 (by omega))]; exact ⟨⟨fun _ => nI_pos (by omega), fun _ => (pz_neg1001 u hu).2⟩, fun _ => rfl⟩
section MZW
variable {m0 : jx_St} {cs : List Int32} {nt : Nat} {days : Int32} {g : Nat} {hd lt : Nat → Int32} {m : jx_St} {k : Nat} {B : pz_Bt} {post : Int32 → jx_St → Prop} {lf : Int32}
theorem sX4_e216 (h : mz_P m0 cs nt days g hd lt m k B) {kk : Int32} (hk : kk = 0 ∨ kk = 1) (hw : kk = 1 → (pz_tok cs k).length ≠ 0) (hs : kk = 1 → (pz_tok cs (k + 1)).length = 0 → ∀ m' : jx_St, mz_P m0 cs nt days g hd lt m' (k + 1) B → post 1 m') (hf1 : kk = 1 → (pz_tok cs (k + 1)).length ≠ 0 → ∀ m' : jx_St, mz_S m0 cs nt days m' (k + 1) → post 0 m') (hf0 : kk = 0 → post 0 m) : wX4_ends_b216 post 0 kk m := by
  unfold wX4_ends_b216 wX4_ends_b237
  rcases hk with rfl | rfl
  · exact ⟨fun _ => ⟨ok_m, ok_m, fun m1 e1 => ⟨fun _ => by rw [e1, MS_same h.1]; exact hf0 rfl, fun z => absurd rfl z⟩⟩, fun z => absurd rfl z⟩
  · refine ⟨fun z => absurd z (by decide), fun _ => ⟨ok_m, ok_m, fun m1 e1 => ⟨fun z => absurd z (by decide), fun _ => ⟨ok_m, ?_⟩⟩⟩⟩
    have h1 := MP_next h (hw rfl) (v := m.1 0 5 + 1) rfl
    rw [← e1] at h1
    rw [MS_4 h1.1, MS_at h1.1]
    have hE := MS_end h1.1
    have hk1 : k + 1 ≤ nt := h1.1.2.2.2.2.2.2.2.2.2.1
    have hn : nt ≤ 350 := h1.1.2.2.2.2.1
    refine ⟨fun q => hf1 rfl (fun z => ?_) m1 h1.1, fun q => hs rfl ?_ m1 h1⟩
    · have := pz_lew (by omega) (hE.mpr z)
      exact q (by rw [show k + 1 = nt by omega])
    · exact hE.mp (by rw [q]; exact nI_le (Nat.le_refl _) (by omega))
theorem sX4_ends (h : mz_P m0 cs nt days g hd lt m k B) (hs : pz_tem (pz_tok cs k) → pz_prs (pz_tok cs (k + 1)) → (pz_tok cs (k + 1 + 1)).length = 0 → ∀ (hd' : Nat → Int32) (m' : jx_St), hd' 11 = pz_deg (pz_tok cs k) 0 → hd' 12 = pz_deg (pz_tok cs k) (pz_cut (pz_tok cs k) + 1) → hd' 13 = pz_dig (pz_tok cs (k + 1)) 1 4 → (∀ i, i < 11 → hd' i = hd i) → mz_P m0 cs nt days g hd' lt m' (k + 1 + 1) B → post 1 m')
    (hf0 : ¬ pz_tem (pz_tok cs k) → ∀ m' : jx_St, mz_S m0 cs nt days m' k → post 0 m') (hf1 : pz_tem (pz_tok cs k) → ¬ pz_prs (pz_tok cs (k + 1)) → ∀ m' : jx_St, mz_S m0 cs nt days m' (k + 1) → post 0 m') (hf2 : pz_tem (pz_tok cs k) → pz_prs (pz_tok cs (k + 1)) → (pz_tok cs (k + 1 + 1)).length ≠ 0 → ∀ m' : jx_St, mz_S m0 cs nt days m' (k + 1 + 1) → post 0 m') : wX4_ends post 0 m := by
  have hV := h.1.2.1
  have hlen := MS_len h.1 k
  have main : ∀ c f : Nat, (c = if pz_ch (pz_tok cs k) 0 = 77 then 1 else 0) → (f = if pz_ch (pz_tok cs k) (c + 2 + 1) = 77 then 1 else 0) → wX4_ends_b37 post 0 (nI c) (nI (c + 2)) (nI f) m := by
    intro c f hc hfz
    have c1 : c ≤ 1 := by rw [hc]; split <;> omega
    have f1 : f ≤ 1 := by rw [hfz]; split <;> omega
    have ecut : pz_cut (pz_tok cs k) = c + 2 := by
      unfold pz_cut
      by_cases q : pz_ch (pz_tok cs k) 0 = 77
      · rw [if_pos q] at hc ⊢; omega
      · rw [if_neg q] at hc ⊢; omega
    have eten : pz_ten (pz_tok cs k) = c + 2 + 3 + f := by
      unfold pz_ten
      rw [ecut]
      by_cases q : pz_ch (pz_tok cs k) (c + 2 + 1) = 77
      · rw [if_pos q] at hfz ⊢; omega
      · rw [if_neg q] at hfz ⊢; omega
    have g0 := pz_deg_n hV k 0 hc
    rw [Nat.zero_add] at g0
    have g1 := pz_deg_n hV k (c + 2 + 1) hfz
    have tem : pz_tem (pz_tok cs k) ↔ ((pz_tok cs k).length = c + 2 + 3 + f ∧ pz_ch (pz_tok cs k) (c + 2) = 47 ∧ ¬ pz_dig (pz_tok cs k) c 2 < 0 ∧ ¬ pz_dig (pz_tok cs k) (c + 2 + 1 + f) 2 < 0) := by
      unfold pz_tem
      rw [eten, ecut, g0.1, g1.1]
    have cc : nI c = 1 ↔ pz_ch (pz_tok cs k) 0 = 77 := by
      rw [show (1 : Int32) = nI 1 from rfl, nI_eq (by omega) (by decide)]
      by_cases q : pz_ch (pz_tok cs k) 0 = 77
      · rw [if_pos q] at hc; exact ⟨fun _ => q, fun _ => hc⟩
      · rw [if_neg q] at hc; exact ⟨fun z => by omega, fun z => absurd z q⟩
    have ff : nI f = 1 ↔ pz_ch (pz_tok cs k) (c + 2 + 1) = 77 := by
      rw [show (1 : Int32) = nI 1 from rfl, nI_eq (by omega) (by decide)]
      by_cases q : pz_ch (pz_tok cs k) (c + 2 + 1) = 77
      · rw [if_pos q] at hfz; exact ⟨fun _ => q, fun _ => hfz⟩
      · rw [if_neg q] at hfz; exact ⟨fun z => by omega, fun z => absurd z q⟩
    have k144 : ∀ (kk v : Int32) (hd3 : Nat → Int32) (m3 : jx_St), (kk = 0 ∨ kk = 1) → (kk = 0 → ¬ pz_tem (pz_tok cs k)) → (kk = 1 → pz_tem (pz_tok cs k)) → mz_P m0 cs nt days g hd3 lt m3 k B → (pz_tem (pz_tok cs k) → hd3 11 = pz_deg (pz_tok cs k) 0) → (pz_tem (pz_tok cs k) → v = pz_deg (pz_tok cs k) (pz_cut (pz_tok cs k) + 1)) → (∀ i, i < 11 → hd3 i = hd i) → wX4_ends_b144 post 0 kk 0 v m3 := by
      intro kk v hd3 m3 k01 kk0 kk1 h3 e11 ev eo
      unfold wX4_ends_b144
      refine ⟨ok_m, fun m4 e4 => ?_⟩
      have h4 := MP_hd h3 (i := 12) v (Or.inr (Or.inr ⟨by decide, by decide⟩))
      rw [← e4] at h4
      unfold wX4_ends_b166
      rcases k01 with rfl | rfl
      · exact ⟨fun _ => ⟨ok_m, ok_m, fun m5 e5 => ⟨fun z => absurd rfl z, fun _ => by rw [e5, MS_same h4.1]; exact hf0 (kk0 rfl) m4 h4.1⟩⟩, fun z => absurd rfl z⟩
      · refine ⟨fun z => absurd z (by decide), fun _ => ⟨ok_m, ok_m, fun m5 e5 => ⟨fun _ => ⟨ok_m, ?_⟩, fun z => absurd z (by decide)⟩⟩⟩
        have ht := kk1 rfl
        have h5 := MP_next h4 (by rw [(tem.mp ht).1]; omega) (v := m4.1 0 5 + 1) rfl
        rw [← e5] at h5
        have hlen1 := MS_len h.1 (k + 1)
        refine sX4_number h5.1 1 4 rfl rfl (by decide) (fun m6 e6 => ?_)
        have h6 := MP_hd h5 (i := 13) (pz_dig (pz_tok cs (k + 1)) 1 4) (Or.inr (Or.inr ⟨by decide, by decide⟩))
        rw [← e6] at h6
        have e13 : m6.1 0 13 = pz_dig (pz_tok cs (k + 1)) 1 4 := by rw [e6, pz_s1, if_pos ⟨rfl, rfl⟩]
        have hn := pz_dig_nn hV (k + 1) 1 4 (by decide)
        have b216 : ∀ kp : Int32, (kp = 0 ∨ kp = 1) → (kp = 0 → ¬ pz_prs (pz_tok cs (k + 1))) → (kp = 1 → pz_prs (pz_tok cs (k + 1))) → wX4_ends_b216 post 0 kp m6 := by
          intro kp p01 p0 p1
          refine sX4_e216 h6 p01 (fun z => by rw [(p1 z).1]; decide) (fun z q m7 h7 => ?_) (fun z q m7 h7 => hf2 ht (p1 z) q m7 h7) (fun z => hf1 ht (p0 z) m6 h6.1)
          refine hs ht (p1 z) q (fun j => if j = 13 then pz_dig (pz_tok cs (k + 1)) 1 4 else if j = 12 then v else hd3 j) m7 ?_ ?_ ?_ (fun i hi => ?_) h7
          · rw [if_neg (by decide), if_neg (by decide)]; exact e11 ht
          · rw [if_neg (by decide), if_pos rfl]; exact ev ht
          · rw [if_pos rfl]
          · have n1 : ¬ i = 13 := by omega
            have n2 : ¬ i = 12 := by omega
            rw [if_neg n1, if_neg n2]; exact eo i hi
        have nop : ¬ pz_prs (pz_tok cs (k + 1)) → wX4_ends_b216 post 0 0 m6 := fun z => b216 0 (Or.inl rfl) (fun _ => z) (fun y => absurd y (by decide))
        refine sX4_sign h6.1 0 rfl (by decide) ⟨fun q => nop (fun z => q z.2.1), fun q => sX4_size h6.1 ⟨fun q2 => nop (fun z => q2 (by rw [z.1]; rfl)), fun q2 => ?_⟩⟩
        rw [e13]
        refine ⟨fun q3 => nop (fun z => absurd (hn.mpr z.2.2) (Int32.not_le.mpr q3)), fun q3 => b216 1 (Or.inr rfl) (fun z => absurd z (by decide)) (fun _ => ⟨(nI_eq (b := 5) (by omega) (by omega)).mp q2, q, hn.mp (Int32.not_lt.mp q3)⟩)⟩
    have k103 : ∀ (kk : Int32) (hd2 : Nat → Int32) (m2 : jx_St), (kk = 0 ∨ kk = 1) → (kk = 0 → ¬ pz_tem (pz_tok cs k)) → (kk = 1 → pz_tem (pz_tok cs k)) → mz_P m0 cs nt days g hd2 lt m2 k B → hd2 11 = pz_dig (pz_tok cs k) c 2 → hd2 12 = pz_dig (pz_tok cs k) (c + 2 + 1 + f) 2 → (∀ i, i < 11 → hd2 i = hd i) → wX4_ends_b103 post 0 (nI c) (nI f) kk m2 := by
      intro kk hd2 m2 k01 kk0 kk1 h2 e11 e12 eo
      have k123 : ∀ v : Int32, (pz_tem (pz_tok cs k) → v = pz_deg (pz_tok cs k) 0) → wX4_ends_b123 post 0 (nI f) kk 0 v m2 := by
        intro v ev
        unfold wX4_ends_b123
        refine ⟨ok_m, fun m3 e3 => ?_⟩
        have h3 := MP_hd h2 (i := 11) v (Or.inr (Or.inr ⟨by decide, by decide⟩))
        rw [← e3] at h3
        have x12 : m3.1 0 12 = pz_dig (pz_tok cs k) (c + 2 + 1 + f) 2 := by
          rw [h3.2.2.1 12 (by decide)]
          exact e12
        rw [x12]
        have step : ∀ v2 : Int32, (pz_tem (pz_tok cs k) → v2 = pz_deg (pz_tok cs k) (pz_cut (pz_tok cs k) + 1)) → wX4_ends_b144 post 0 kk 0 v2 m3 := by
          intro v2 ev2
          refine k144 kk v2 (fun j => if j = 11 then v else hd2 j) m3 k01 kk0 kk1 h3 (fun ht => ?_) ev2 (fun i hi => ?_)
          · rw [if_pos rfl]; exact ev ht
          · have n1 : ¬ i = 11 := by omega
            rw [if_neg n1]; exact eo i hi
        refine ⟨fun q => ⟨ok_m, step _ (fun ht => ?_)⟩, fun q => ⟨ok_m, step _ (fun ht => ?_)⟩⟩
        · rw [ecut, g1.2 (tem.mp ht).2.2.2, if_neg (fun z => q (ff.mpr z))]
        · rw [ecut, g1.2 (tem.mp ht).2.2.2, if_pos (ff.mp q)]
      unfold wX4_ends_b103
      rw [h2.2.2.1 11 (by decide), e11]
      refine ⟨fun q => ⟨ok_m, k123 _ (fun ht => ?_)⟩, fun q => ⟨ok_m, k123 _ (fun ht => ?_)⟩⟩
      · rw [g0.2 (tem.mp ht).2.2.1, if_neg (fun z => q (cc.mpr z))]
      · rw [g0.2 (tem.mp ht).2.2.1, if_pos (cc.mp q)]
    unfold wX4_ends_b37
    refine ⟨ok_m, sX4_number h.1 c 2 rfl rfl (by omega) (fun m1 e1 => ?_)⟩
    have h1 := MP_hd h (i := 11) (pz_dig (pz_tok cs k) c 2) (Or.inr (Or.inr ⟨by decide, by decide⟩))
    rw [← e1] at h1
    refine sX4_number h1.1 (c + 2 + 1 + f) 2 (by rw [nI_1, nI_add]) rfl (by omega) (fun m2 e2 => ?_)
    have h2 := MP_hd h1 (i := 12) (pz_dig (pz_tok cs k) (c + 2 + 1 + f) 2) (Or.inr (Or.inr ⟨by decide, by decide⟩))
    rw [← e2] at h2
    have x11 : m2.1 0 11 = pz_dig (pz_tok cs k) c 2 := by
      rw [h2.2.2.1 11 (by decide)]; rfl
    have x12 : m2.1 0 12 = pz_dig (pz_tok cs k) (c + 2 + 1 + f) 2 := by
      rw [h2.2.2.1 12 (by decide)]; rfl
    have go : ∀ kk : Int32, (kk = 0 ∨ kk = 1) → (kk = 0 → ¬ pz_tem (pz_tok cs k)) → (kk = 1 → pz_tem (pz_tok cs k)) → wX4_ends_b103 post 0 (nI c) (nI f) kk m2 := fun kk k01 k0 k1 =>
      k103 kk (fun j => if j = 12 then pz_dig (pz_tok cs k) (c + 2 + 1 + f) 2 else if j = 11 then pz_dig (pz_tok cs k) c 2 else hd j) m2 k01 k0 k1 h2 (by rw [if_neg (by decide), if_pos rfl]) (by rw [if_pos rfl]) (fun i hi => by
        have n1 : ¬ i = 12 := by omega
        have n2 : ¬ i = 11 := by omega
        rw [if_neg n1, if_neg n2])
    have no : ¬ pz_tem (pz_tok cs k) → wX4_ends_b103 post 0 (nI c) (nI f) 0 m2 := fun z => go 0 (Or.inl rfl) (fun _ => z) (fun y => absurd y (by decide))
    rw [x11, x12]
    refine ⟨fun q => no (fun z => (tem.mp z).2.2.1 q), fun q => ⟨fun q2 => no (fun z => (tem.mp z).2.2.2 q2), fun q2 => sX4_sign h2.1 (c + 2) rfl (by omega) ⟨fun q3 => no (fun z => q3 (tem.mp z).2.1), fun q3 => sX4_size h2.1 ?_⟩⟩⟩
    rw [show (nI (c + 2) + 3 + nI f : Int32) = nI (c + 2 + 3 + f) by rw [show (3 : Int32) = nI 3 from rfl, nI_add, nI_add]]
    exact ⟨fun q4 => no (fun z => q4 (by rw [(tem.mp z).1])), fun q4 => go 1 (Or.inr rfl) (fun z => absurd z (by decide)) (fun _ => tem.mpr ⟨(nI_eq (by omega) (by omega)).mp q4, q3, q, q2⟩)⟩
  have k15 : ∀ c : Nat, (c = if pz_ch (pz_tok cs k) 0 = 77 then 1 else 0) → wX4_ends_b15 post 0 (nI c) m := by
    intro c hc
    have c1 : c ≤ 1 := by rw [hc]; split <;> omega
    unfold wX4_ends_b15
    intro x5 e5
    rw [show (nI c + 2 : Int32) = nI (c + 2) from nI_add c 2] at e5
    subst e5
    refine ⟨ok_m, sX4_sign h.1 (c + 2 + 1) (nI_1 _) (by omega) ⟨fun q => ?_, fun q => ?_⟩⟩
    · exact main c 0 hc (by rw [if_neg q])
    · exact main c 1 hc (by rw [if_pos q])
  unfold wX4_ends
  refine ⟨ok_m, sX4_sign h.1 0 rfl (by decide) ⟨fun q => k15 0 (by rw [if_neg q]), fun q => k15 1 (by rw [if_pos q])⟩⟩
end MZW
