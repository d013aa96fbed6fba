/-! ===== the reference: groups one after another, station, issue, temperatures ===== -/
/-- kind, chance and time of group g stay -/
def pz_f4 (g : Nat) (B B' : pz_Bt) : Prop := ∀ i, i < 4 → B' (4 + 3 * g) i = B (4 + 3 * g) i
theorem pz_f4_rf {g : Nat} {B : pz_Bt} : pz_f4 g B B := fun _ _ => rfl
theorem pz_f4_tr {g : Nat} {B B1 B2 : pz_Bt} (h1 : pz_f4 g B B1) (h2 : pz_f4 g B1 B2) : pz_f4 g B B2 := fun i a => (h2 i a).trans (h1 i a)
theorem pz_f4_u {g : Nat} {B : pz_Bt} {f : Nat} {v : Int32} (hf : 4 ≤ f) : pz_f4 g B (jx_u2 B (4 + 3 * g) f v) := fun i a => by
  have n : ¬ i = f := by omega
  simp [jx_u2, n]
theorem pz_f4_wnd {g : Nat} {B : pz_Bt} {w : List Int32} : pz_f4 g B (pz_wndB B g w) := pz_f4_tr (pz_f4_tr (pz_f4_u (by decide)) (pz_f4_u (by decide))) (pz_f4_u (by decide))
theorem pz_f4_cav {g : Nat} {B : pz_Bt} : pz_f4 g B (pz_cavB B g) := pz_f4_tr (pz_f4_tr (pz_f4_u (by decide)) (pz_f4_u (by decide))) (pz_f4_u (by decide))
theorem pz_f4_wB {g : Nat} {B : pz_Bt} {T : Nat → List Int32} {k n : Nat} : pz_f4 g B (pz_wB B g T k n) := fun i a => pz_wB_9 (by omega)
theorem pz_f4_cB {g : Nat} {B : pz_Bt} {T : Nat → List Int32} {k n : Nat} : pz_f4 g B (pz_cB B g T k n) := fun i a => by
  have n9 : ¬ i = 9 := by omega
  have n6 : ¬ 4 + 3 * g = 6 + 3 * g := by omega
  simp [pz_cB, n9]
theorem pz_f4_vv {g : Nat} {B : pz_Bt} {w : List Int32} : pz_f4 g B (pz_vvB B g w) := fun i a => by
  have n9 : ¬ i = 9 := by omega
  have n6 : ¬ 4 + 3 * g = 6 + 3 * g := by omega
  simp [pz_vvB, jx_u2, n9]
theorem pz_f4_clouds {T : Nat → List Int32} {k : Nat} {B : pz_Bt} {g : Nat} : pz_f4 g B (sp_clouds T k B g).2.2 := by
  unfold sp_clouds
  exact pz_ife (P := fun r : pz_Rt => pz_f4 g B r.2.2) (fun _ => pz_f4_u (by decide)) (fun _ => pz_ife (P := fun r : pz_Rt => pz_f4 g B r.2.2) (fun _ => pz_f4_vv) (fun _ => pz_ife (P := fun r : pz_Rt => pz_f4 g B r.2.2) (fun _ => pz_f4_rf) (fun _ => pz_f4_cB)))
theorem pz_f4_sky {T : Nat → List Int32} {k : Nat} {B : pz_Bt} {g : Nat} : pz_f4 g B (sp_sky T k B g).2.2 := by
  unfold sp_sky
  exact pz_ife (P := fun r : pz_Rt => pz_f4 g B r.2.2) (fun _ => pz_f4_cav) (fun _ => pz_ife (P := fun r : pz_Rt => pz_f4 g B r.2.2) (fun _ => pz_f4_tr (pz_f4_tr (pz_f4_tr (pz_f4_u (by decide)) (pz_f4_u (by decide))) pz_f4_wB) pz_f4_clouds) (fun _ => pz_f4_rf))
theorem pz_f4_whole {T : Nat → List Int32} {k : Nat} {B : pz_Bt} {g : Nat} : pz_f4 g B (sp_whole T k B g).2.2 := by
  unfold sp_whole
  exact pz_ife (P := fun r : pz_Rt => pz_f4 g B r.2.2) (fun _ => pz_f4_tr pz_f4_wnd pz_f4_sky) (fun _ => pz_f4_rf)
theorem pz_f4_p1 {T : Nat → List Int32} {k : Nat} {B : pz_Bt} {g : Nat} : pz_f4 g B (sp_p1 T k B g).2 := by
  unfold sp_p1
  exact pz_ife (P := fun r : Nat × pz_Bt => pz_f4 g B r.2) (fun _ => pz_f4_wnd) (fun _ => pz_f4_rf)
theorem pz_f4_p2 {T : Nat → List Int32} {k : Nat} {B : pz_Bt} {g : Nat} : pz_f4 g B (sp_p2 T k B g).2 := by
  unfold sp_p2
  exact pz_ife (P := fun r : Nat × pz_Bt => pz_f4 g B r.2) (fun _ => pz_f4_u (by decide)) (fun _ => pz_f4_rf)
theorem pz_f4_p3 {T : Nat → List Int32} {k : Nat} {B : pz_Bt} {g : Nat} : pz_f4 g B (sp_p3 T k B g).2 := by
  unfold sp_p3
  exact pz_ife (P := fun r : Nat × pz_Bt => pz_f4 g B r.2) (fun _ => pz_f4_u (by decide)) (fun _ => pz_f4_wB)
theorem pz_f4_parts {T : Nat → List Int32} {k : Nat} {B : pz_Bt} {g : Nat} : pz_f4 g B (sp_parts T k B g).2.2 := by
  unfold sp_parts
  exact pz_ife (P := fun r : pz_Rt => pz_f4 g B r.2.2) (fun _ => pz_f4_tr pz_f4_p1 pz_f4_cav) (fun _ => pz_f4_tr (pz_f4_tr (pz_f4_tr pz_f4_p1 pz_f4_p2) pz_f4_p3) pz_f4_clouds)
/-- a change's kind, and what is known of its time -/
theorem sp_name_0 {T : Nat → List Int32} {k : Nat} {B : pz_Bt} {g : Nat} (h : (sp_name T k B g).1 = true) : (sp_name T k B g).2.2 (4 + 3 * g) 0 = 2 ∨ (sp_name T k B g).2.2 (4 + 3 * g) 0 = 3 ∨ (sp_name T k B g).2.2 (4 + 3 * g) 0 = 4 ∨ (sp_name T k B g).2.2 (4 + 3 * g) 0 = 5 := by
  unfold sp_name at h ⊢
  have hp : ∀ k' B', (sp_prob T k' B' g).2.2 (4 + 3 * g) 0 = 2 ∨ (sp_prob T k' B' g).2.2 (4 + 3 * g) 0 = 3 ∨ (sp_prob T k' B' g).2.2 (4 + 3 * g) 0 = 4 ∨ (sp_prob T k' B' g).2.2 (4 + 3 * g) 0 = 5 := fun k' B' => by
    unfold sp_prob
    exact pz_ife (P := fun r : pz_Rt => r.2.2 (4 + 3 * g) 0 = 2 ∨ r.2.2 (4 + 3 * g) 0 = 3 ∨ r.2.2 (4 + 3 * g) 0 = 4 ∨ r.2.2 (4 + 3 * g) 0 = 5) (fun _ => Or.inr (Or.inr (Or.inr (by simp [jx_u2])))) (fun _ => Or.inr (Or.inr (Or.inl (by simp [jx_u2]))))
  by_cases c1 : T k = W_BECMG
  · rw [pz_ifp c1]; exact Or.inl (by simp [jx_u2])
  · rw [pz_ifn c1] at h ⊢
    by_cases c2 : T k = W_TEMPO
    · rw [pz_ifp c2]; exact Or.inr (Or.inl (by simp [jx_u2]))
    · rw [pz_ifn c2] at h ⊢
      by_cases c3 : T k = W_P30
      · rw [pz_ifp c3]; exact hp _ _
      · rw [pz_ifn c3] at h ⊢
        by_cases c4 : T k = W_P40
        · rw [pz_ifp c4]; exact hp _ _
        · rw [pz_ifn c4] at h; exact absurd h Bool.false_ne_true
theorem pz_perB_1 {g : Nat} {B : pz_Bt} {days : Int32} {w : List Int32} {ea : Int32} {i : Nat} (h : i < 2) : pz_perB B g days w ea (4 + 3 * g) i = B (4 + 3 * g) i := by
  have h2 : ¬ i = 2 := by omega
  have h3 : ¬ i = 3 := by omega
  simp [pz_perB, jx_u2, h2, h3]
theorem sp_cper_0 {T : Nat → List Int32} {days : Int32} {k : Nat} {B : pz_Bt} {g i : Nat} (hi : i < 2) : (sp_cper T days k B g).2.2 (4 + 3 * g) i = B (4 + 3 * g) i := by
  unfold sp_cper
  exact pz_ife (P := fun r : pz_Rt => r.2.2 (4 + 3 * g) i = B (4 + 3 * g) i) (fun _ => by rw [pz_f4_parts i (by omega), pz_perB_1 hi]) (fun _ => rfl)
theorem sp_change_lf {T : Nat → List Int32} {days : Int32} {k : Nat} {B : pz_Bt} {g : Nat} {lf : Int32} (h : (sp_change T days k B g lf).1.1 = true) :
    ((sp_change T days k B g lf).1.2.2 (4 + 3 * g) 0 = 1 → (sp_change T days k B g lf).2 = (sp_change T days k B g lf).1.2.2 (4 + 3 * g) 2) ∧ (¬ (sp_change T days k B g lf).1.2.2 (4 + 3 * g) 0 = 1 → (sp_change T days k B g lf).2 = lf) := by
  unfold sp_change at h ⊢
  by_cases c1 : pz_fmo days (T k) (B 4 2) (B 4 3) lf
  · rw [pz_ifp c1] at h ⊢
    dsimp only
    rw [pz_f4_whole 0 (by decide), pz_f4_whole 2 (by decide)]
    refine ⟨fun _ => by simp [pz_fmB, jx_u2], fun z => absurd (by simp [pz_fmB, jx_u2]) z⟩
  · rw [pz_ifn c1] at h ⊢
    by_cases c2 : (sp_name T k B g).1 = true
    · rw [pz_ifp c2]
      dsimp only
      rw [sp_cper_0 (by decide)]
      have hn := sp_name_0 c2
      refine ⟨fun z => ?_, fun _ => rfl⟩
      rw [z] at hn
      exact absurd hn (by decide)
    · rw [pz_ifn c2] at h
      exact absurd h c2
section MZV
variable {m0 : jx_St} {cs : List Int32} {nt : Nat} {days : Int32} {g : Nat} {hd lt : Nat → Int32} {m : jx_St} {k : Nat} {B : pz_Bt} {post : Int32 → jx_St → Prop} {lf : Int32}
theorem MS_end (h : mz_S m0 cs nt days m k) : nI nt ≤ nI k ↔ (pz_tok cs k).length = 0 := by
  obtain ⟨hR, hV, h1, h2, h3, h4, h5, h6, h7, h8, h9, h10, h11⟩ := h
  rw [h6 k]
  exact ⟨fun z => pz_lew (by omega) z, fun z => nI_le z (by omega)⟩
theorem MS_4 (h : mz_S m0 cs nt days m k) : m.1 0 4 = nI nt := h.2.2.2.2.2.1
theorem MP_add (h : mz_P m0 cs nt days (g - 1) hd lt m k B) (hg1 : 1 ≤ g) (hg : g < 9) : mz_P m0 cs nt days g hd lt m k (sp_add B g) := by
  obtain ⟨hS, ⟨d1, d2, d3, d4⟩, hh, hl⟩ := h
  have o : ∀ rc i, rc ≠ 0 → rc ≠ 4 + 3 * g → sp_add B g rc i = B rc i := fun rc i a1 a2 => by
    unfold sp_add
    rw [if_neg (fun z => a1 z.1), if_neg (fun z => a2 z.1)]
  have own : ∀ f, f < 10 → sp_add B g (4 + 3 * g) f = if f < 2 then 0 else -1 := fun f hf => by
    have n0 : ¬ (4 + 3 * g = 0 ∧ f = 7) := fun z => by omega
    unfold sp_add
    rw [if_neg n0, if_pos ⟨rfl, hf⟩]
  refine ⟨hS, ⟨fun g' f a1 a2 a3 => ?_, fun g' f a1 a2 a3 => d2 g' f (by omega) a2 a3, fun g' j a1 a2 a3 a4 => ?_, fun g' j a1 a2 a3 a4 => ?_⟩, hh, hl⟩
  · by_cases q : g' = g
    · rw [q, own f a3]; exact d2 g f (by omega) hg a3
    · rw [o _ _ (by omega) (by omega)]; exact d1 g' f (by omega) a2 a3
  · by_cases q : g' = g
    · rw [q, own 8 (by decide)] at a4
      rcases (by omega : j = 0 ∨ j = 1 ∨ j = 2) with rfl | rfl | rfl <;> exact absurd a4 (by decide)
    · rw [o _ _ (by omega) (by omega)] at a4 ⊢; exact d3 g' j (by omega) a2 a3 a4
  · by_cases q : g' = g
    · rw [q, own 9 (by decide)] at a4
      rcases (by omega : j = 0 ∨ j = 1 ∨ j = 2 ∨ j = 3) with rfl | rfl | rfl | rfl <;> exact absurd a4 (by decide)
    · rw [o _ _ (by omega) (by omega)] at a4 ⊢; exact d4 g' j (by omega) a2 a3 a4
theorem sp_add_own {B : pz_Bt} {g : Nat} (f : Nat) (hf : f < 10) : sp_add B g (4 + 3 * g) f = if f < 2 then 0 else -1 := by
  have n0 : ¬ (4 + 3 * g = 0 ∧ f = 7) := fun z => by omega
  unfold sp_add
  rw [if_neg n0, if_pos ⟨rfl, hf⟩]
theorem sX4_fl (hd0 : Nat → Int32) (R : pz_Rt) (hs : R.1 = true → (pz_tok cs R.2.1).length = 0 → ∀ m' g' hd', 1 ≤ g' → g' ≤ 9 → R.2.2 0 7 = nI g' → hd' 7 = nI g' → (∀ i, i ≠ 7 → hd' i = hd0 i) → mz_P m0 cs nt days (g' - 1) hd' lt m' R.2.1 R.2.2 → post 1 m') (hf : ¬ (R.1 = true ∧ (pz_tok cs R.2.1).length = 0) → ∀ m' : jx_St, mz_S m0 cs nt days m' R.2.1 → post 0 m') :
    ∀ (r g : Nat) (m : jx_St) (k : Nat) (B : pz_Bt) (lf : Int32) (hd : Nat → Int32), g + r = 9 → 1 ≤ g → mz_P m0 cs nt days (g - 1) hd lt m k B → hd 7 = nI g → B 0 7 = nI g → (∀ i, i ≠ 7 → hd i = hd0 i) → sp_fl (pz_tok cs) days r g k B lf = R → wX4_forecast_l47 post (r + 1) 0 lf m := by
  intro r
  induction r with
  | zero =>
    intro g m k B lf hd e1 e2 h h7 hB hi hR
    unfold sp_fl at hR
    subst hR
    unfold wX4_forecast_l47
    rw [MS_4 h.1, MS_at h.1, MS_end h.1, h.2.2.1 7 (by decide), h7]
    have e9 : g = 9 := by omega
    subst e9
    exact ⟨ok_m, fun q => hs rfl q m 9 hd (by decide) (by decide) hB h7 hi h, fun q => ⟨fun _ => hf (fun z => q z.2) m h.1, fun z => absurd rfl z⟩⟩
  | succ r ih =>
    intro g m k B lf hd e1 e2 h h7 hB hi hR
    unfold sp_fl at hR
    unfold wX4_forecast_l47
    rw [MS_4 h.1, MS_at h.1, MS_end h.1, h.2.2.1 7 (by decide), h7]
    refine ⟨ok_m, fun q => ?_, fun q => ⟨fun z => absurd ((nI_eq (b := 9) (by omega) (by omega)).mp z) (by omega), fun _ => ?_⟩⟩
    · rw [if_pos q] at hR
      subst hR
      exact hs rfl q m g hd e2 (by omega) hB h7 hi h
    · rw [if_neg q] at hR
      refine sX4_change (MP_add h e2 (by omega)) (by omega) (by omega) q (fun i hi => sp_add_own i hi) (fun hc m1 h1 _ => ⟨fun _ => ?_, fun z => absurd z (by decide)⟩) (fun hc m1 h1 _ => ⟨fun z => absurd rfl z, fun _ => ?_⟩)
      · rw [pz_ifp hc] at hR
        have e7 : m1.1 0 7 = nI g := by rw [h1.2.2.1 7 (by decide), h7]
        have et : ∀ f, f < 10 → m1.1 5 (10 * g + f) = (sp_change (pz_tok cs) days k (sp_add B g) g lf).1.2.2 (4 + 3 * g) f := fun f hf => h1.2.1.1 g f (by omega) (by omega) hf
        have et0 := et 0 (by decide)
        rw [Nat.add_zero] at et0
        rw [MP_15 h1, e7, pz_10, pz_cl (by omega), et0, show (nI (10 * g) + 2 : Int32) = nI (10 * g + 2) from nI_add _ _, pz_cl (by omega), et 2 (by decide)]
        have hl := sp_change_lf hc
        have hB1 : (sp_change (pz_tok cs) days k (sp_add B g) g lf).1.2.2 0 7 = nI (g + 1) := by
          rw [pz_fr_change 0 7 (by omega) (by omega) (by omega)]
          unfold sp_add
          rw [if_pos ⟨rfl, rfl⟩]
        have fin : ∀ v : Int32, v = (sp_change (pz_tok cs) days k (sp_add B g) g lf).2 → wX4_forecast_b115 post (fun z0 z1 zs => wX4_forecast_l47 post (r + 1) z0 z1 zs) 0 v m1 := by
          intro v ev
          unfold wX4_forecast_b115
          refine ⟨ok_m, fun m2 f2 => ?_⟩
          have h2 := MP_hd h1 (i := 7) (m1.1 0 7 + 1) (Or.inr (Or.inl rfl))
          rw [← f2] at h2
          subst ev
          refine ih (g + 1) m2 _ _ _ _ (by omega) (by omega) h2 ?_ hB1 ?_ hR
          · show (if 7 = 7 then m1.1 0 7 + 1 else hd 7) = _
            rw [if_pos rfl, e7, nI_1]
          · intro i hi7
            show (if i = 7 then m1.1 0 7 + 1 else hd i) = _
            rw [if_neg hi7]; exact hi i hi7
        exact ⟨ix_told (f := 0) (by omega) (by decide), fun q2 => fin _ (hl.2 q2).symm, fun q2 => ⟨ix_told (by omega) (by decide), fin _ (hl.1 q2).symm⟩⟩
      · have n : ¬ (sp_change (pz_tok cs) days k (sp_add B g) g lf).1.1 = true := by rw [hc]; decide
        rw [pz_ifn n] at hR
        subst hR
        exact hf (fun z => absurd z.1 Bool.false_ne_true) m1 h1
theorem sX4_at (h : mz_P m0 cs nt days g hd lt m k B) {kk : Int32} (hk : kk = 0 ∨ kk = 1) (hw : kk = 1 → (pz_tok cs k).length ≠ 0) (hs : kk = 1 → ∀ m' : jx_St, mz_P m0 cs nt days g hd lt m' (k + 1) B → post 1 m') (hf : kk = 0 → post 0 m) : ((kk = 0) → (∀ s42 : jx_St, s42 = jx_sI m 0 5 (m.1 0 5) → (kk = 0 ∨ kk = 1) ∧ post kk s42)) ∧ ((¬ kk = 0) → (∀ s45 : jx_St, s45 = jx_sI m 0 5 ((m.1 0 5) + 1) → (kk = 0 ∨ kk = 1) ∧ post kk s45)) := by
  rcases hk with rfl | rfl
  · exact ⟨fun _ m1 e1 => ⟨Or.inl rfl, by rw [e1, MS_same h.1]; exact hf rfl⟩, fun z => absurd rfl z⟩
  · refine ⟨fun z => absurd z (by decide), fun _ m1 e1 => ⟨Or.inr rfl, ?_⟩⟩
    have h1 := MP_next h (hw rfl) (v := m.1 0 5 + 1) rfl
    rw [← e1] at h1
    exact hs rfl m1 h1
theorem sX4_station_68 (h : mz_P m0 cs nt days g hd lt m k B) {kk : Int32} (hk : kk = 0 ∨ kk = 1) (hw : kk = 1 → (pz_tok cs k).length ≠ 0) (hs : kk = 1 → ∀ m' : jx_St, mz_P m0 cs nt days g hd lt m' (k + 1) B → post 1 m') (hf : kk = 0 → post 0 m) : wX4_station_b68 post 0 kk m := by
  unfold wX4_station_b68
  have z := sX4_at h hk hw hs hf
  exact ⟨fun q => ⟨ok_m, z.1 q⟩, fun q => ⟨ok_m, z.2 q⟩⟩
theorem sX4_station_l (hw : (pz_tok cs k).length = 4) (hs : pz_sta (pz_tok cs k) → ∀ m' : jx_St, mz_P m0 cs nt days g hd (fun j => if j < 4 then pz_ch (pz_tok cs k) j else lt j) m' (k + 1) B → post 1 m') (hf : ¬ pz_sta (pz_tok cs k) → ∀ m' : jx_St, mz_S m0 cs nt days m' k → post 0 m') :
    ∀ (j i : Nat) (m : jx_St), i + j = 4 → mz_P m0 cs nt days g hd (fun j => if j < i then pz_ch (pz_tok cs k) j else lt j) m k B → (∀ x, x < i → ¬ pz_ch (pz_tok cs k) x < 65 ∧ pz_ch (pz_tok cs k) x ≤ 90) → wX4_station_l16 post (j + 1) 0 1 (nI i) m := by
  intro j
  induction j with
  | zero =>
    intro i m e h hx
    have e4 : i = 4 := by omega
    subst e4
    unfold wX4_station_l16
    exact ⟨fun _ => sX4_station_68 h (Or.inr rfl) (fun _ => by rw [hw]; decide) (fun _ m' h' => hs ⟨hw, hx⟩ m' h') (fun z => absurd z (by decide)), fun z => absurd (nI_le (a := 4) (by omega) (by omega)) z⟩
  | succ j ih =>
    intro i m e h hx
    have w4 : m.2 0 14 = 4 := h.1.1.2.2.2.1
    have st : ∀ m1 : jx_St, m1 = jx_sI m 4 i (pz_ch (pz_tok cs k) i) → mz_P m0 cs nt days g hd (fun j => if j < i + 1 then pz_ch (pz_tok cs k) j else lt j) m1 k B := by
      intro m1 e1
      have h1 := MP_lt h i (pz_ch (pz_tok cs k) i)
      rw [← e1] at h1
      have ef : (fun j => if j = i then pz_ch (pz_tok cs k) i else (fun j => if j < i then pz_ch (pz_tok cs k) j else lt j) j) = (fun j => if j < i + 1 then pz_ch (pz_tok cs k) j else lt j) := by
        funext j
        dsimp only
        by_cases q : j = i
        · have q2 : j < i + 1 := by omega
          rw [if_pos q, if_pos q2, q]
        · by_cases q2 : j < i
          · have q3 : j < i + 1 := by omega
            rw [if_neg q, if_pos q2, if_pos q3]
          · have q3 : ¬ j < i + 1 := by omega
            rw [if_neg q, if_neg q2, if_neg q3]
      rw [ef] at h1
      exact h1
    have b50 : ∀ kk : Int32, (kk = 0 → ¬ pz_sta (pz_tok cs k)) → (kk = 0 ∨ kk = 1) → (kk = 1 → ¬ pz_ch (pz_tok cs k) i < 65 ∧ pz_ch (pz_tok cs k) i ≤ 90) → wX4_station_b50 post (fun z0 z1 z2 zs => wX4_station_l16 post (j + 1) z0 z1 z2 zs) 0 (nI i) kk m := by
      intro kk k0 kk01 k1
      unfold wX4_station_b50
      rw [w4, pz_cl (by omega)]
      refine ⟨ok_m, sX4_sign h.1 i rfl (by omega) ⟨ix_m (by decide) rfl (by omega) (by decide), fun m1 e1 x ex => ?_⟩⟩
      have h1 := st m1 e1
      subst ex
      dsimp only
      rw [nI_1]
      rcases kk01 with rfl | rfl
      · have bad : wX4_station_b68 post 0 0 m1 := sX4_station_68 h1 (Or.inl rfl) (fun z => absurd z (by decide)) (fun z => absurd z (by decide)) (fun _ => hf (k0 rfl) m1 h1.1)
        unfold wX4_station_l16
        exact ⟨fun _ => bad, fun _ => ⟨fun _ => bad, fun z => absurd rfl z⟩⟩
      · refine ih (i + 1) m1 (by omega) h1 (fun x hx1 => ?_)
        by_cases q : x = i
        · rw [q]; exact k1 rfl
        · exact hx x (by omega)
    unfold wX4_station_l16
    refine ⟨fun z => absurd (pz_lew (a := 4) (by decide) z) (by omega), fun _ => ⟨fun z => absurd z (by decide), fun _ => ⟨ok_m, sX4_sign h.1 i rfl (by omega) ⟨fun q => ?_, fun q => sX4_sign h.1 i rfl (by omega) ⟨fun q2 => ?_, fun q2 => ?_⟩⟩⟩⟩⟩
    · exact b50 0 (fun _ z => (z.2 i (by omega)).1 q) (Or.inl rfl) (fun z => absurd z (by decide))
    · exact b50 0 (fun _ z => absurd (z.2 i (by omega)).2 (Int32.not_le.mpr q2)) (Or.inl rfl) (fun z => absurd z (by decide))
    · exact b50 1 (fun z => absurd z (by decide)) (Or.inr rfl) (fun _ => ⟨q, Int32.not_lt.mp q2⟩)
theorem sX4_station (h : mz_P m0 cs nt days g hd lt m k B) (hs : pz_sta (pz_tok cs k) → ∀ m' : jx_St, mz_P m0 cs nt days g hd (fun j => if j < 4 then pz_ch (pz_tok cs k) j else lt j) m' (k + 1) B → post 1 m') (hf : ¬ pz_sta (pz_tok cs k) → ∀ m' : jx_St, mz_S m0 cs nt days m' k → post 0 m') : wX4_station post 0 m := by
  have hlen := MS_len h.1 k
  unfold wX4_station
  refine ⟨ok_m, sX4_size h.1 ⟨fun q => ⟨1, ?_⟩, fun q => ⟨5, ?_⟩⟩⟩
  · have bad : wX4_station_b68 post 0 0 m := sX4_station_68 h (Or.inl rfl) (fun z => absurd z (by decide)) (fun z => absurd z (by decide)) (fun _ => hf (fun z => q (by rw [z.1]; rfl)) m h.1)
    unfold wX4_station_l16
    exact ⟨fun _ => bad, fun _ => ⟨fun _ => bad, fun z => absurd rfl z⟩⟩
  · have q4 : (pz_tok cs k).length = 4 := (nI_eq (b := 4) (by omega) (by omega)).mp q
    refine sX4_station_l q4 hs hf 4 0 m rfl ?_ (fun x hx => absurd hx (by omega))
    have e : (fun j => if j < 0 then pz_ch (pz_tok cs k) j else lt j) = lt := by
      funext j
      rw [if_neg (Nat.not_lt_zero j)]
    rw [e]; exact h
theorem sX4_issued (h : mz_P m0 cs nt days g hd lt m k B) (hs : pz_iss days (pz_tok cs k) → ∀ (hd' : Nat → Int32) (m' : jx_St), hd' 9 = pz_time days (pz_tok cs k) 0 → hd' 10 = pz_dig (pz_tok cs k) 0 2 → (∀ i, i ≠ 9 → i ≠ 10 → hd' i = hd i) → mz_P m0 cs nt days g hd' lt m' (k + 1) B → post 1 m') (hf : ¬ pz_iss days (pz_tok cs k) → ∀ m' : jx_St, mz_S m0 cs nt days m' k → post 0 m') : wX4_issued post 0 m := by
  have hV := h.1.2.1
  have hlen := MS_len h.1 k
  have ti := pz_time_iff hV k 0 days
  unfold wX4_issued
  refine ⟨ok_m, sX4_number h.1 0 2 rfl rfl (by omega) (fun m1 e1 => ?_)⟩
  have h1 := MP_hd h (i := 10) (pz_dig (pz_tok cs k) 0 2) (Or.inr (Or.inr ⟨by decide, by decide⟩))
  rw [← e1] at h1
  have e10 : m1.1 0 10 = pz_dig (pz_tok cs k) 0 2 := by rw [e1, pz_s1, if_pos ⟨rfl, rfl⟩]
  have b76 : ∀ kk : Int32, (kk = 0 ∨ kk = 1) → (kk = 0 → ¬ pz_iss days (pz_tok cs k)) → (kk = 1 → pz_iss days (pz_tok cs k)) → wX4_issued_b76 post 0 kk m1 := by
    intro kk k01 k0 k1
    unfold wX4_issued_b76
    rw [e10]
    refine ⟨ok_m, sX4_number h1.1 2 2 rfl rfl (by omega) (sX4_number h1.1 4 2 rfl rfl (by omega) (fun m2 e2 => ?_))⟩
    have h2 := MP_hd h1 (i := 9) ((1440 * (pz_dig (pz_tok cs k) 0 2 - 1)) + (60 * pz_dig (pz_tok cs k) 2 2) + pz_dig (pz_tok cs k) 4 2) (Or.inr (Or.inr ⟨by decide, by decide⟩))
    rw [← e2] at h2
    refine sX4_at h2 k01 (fun z => by rw [(k1 z).1]; decide) (fun z m3 h3 => ?_) (fun z => hf (k0 z) m2 h2.1)
    have hi := k1 z
    refine hs hi (fun j => if j = 9 then ((1440 * (pz_dig (pz_tok cs k) 0 2 - 1)) + (60 * pz_dig (pz_tok cs k) 2 2) + pz_dig (pz_tok cs k) 4 2) else if j = 10 then pz_dig (pz_tok cs k) 0 2 else hd j) m3 ?_ ?_ (fun i i1 i2 => ?_) h3
    · rw [if_pos rfl]
      exact pz_time_m hV k 0 days (ti.mp hi.2.2)
    · rw [if_neg (by decide), if_pos rfl]
    · rw [if_neg i1, if_neg i2]
  have no : ¬ pz_iss days (pz_tok cs k) → wX4_issued_b76 post 0 0 m1 := fun z => b76 0 (Or.inl rfl) (fun _ => z) (fun y => absurd y (by decide))
  refine sX4_size h1.1 ⟨fun q => no (fun z => q (by rw [z.1]; rfl)), fun q => sX4_sign h1.1 6 rfl (by omega) ⟨fun q2 => no (fun z => q2 z.2.1), fun q2 => ?_⟩⟩
  rw [e10]
  refine sX4_isDay h1.1 (fun a1 _ => ⟨fun z => absurd z (by decide), fun _ => ?_⟩) (fun a1 _ => ⟨fun _ => no (fun z => a1 (ti.mp z.2.2).1.1), fun z => absurd rfl z⟩)
  refine sX4_number h1.1 2 2 rfl rfl (by omega) (sX4_isIn (fun a2 _ => ⟨fun z => absurd z (by decide), fun _ => ?_⟩) (fun a2 _ => ⟨fun _ => no (fun z => a2 (ti.mp z.2.2).1.2), fun z => absurd rfl z⟩))
  refine sX4_number h1.1 4 2 rfl rfl (by omega) (sX4_isIn (fun a3 _ => ⟨fun z => absurd z (by decide), fun _ => ?_⟩) (fun a3 _ => ⟨fun _ => no (fun z => a3 (ti.mp z.2.2).2), fun z => absurd rfl z⟩))
  exact b76 1 (Or.inr rfl) (fun z => absurd z (by decide)) (fun _ => ⟨(nI_eq (b := 7) (by omega) (by omega)).mp q, q2, ti.mpr ⟨⟨a1, a2⟩, a3⟩⟩)
end MZV
