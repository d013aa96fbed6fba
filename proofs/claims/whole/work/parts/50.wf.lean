/-! ===== what is true of every text that was read ===== -/
def wf_w (B : pz_Bt) (g : Nat) : Prop := B (4 + 3 * g) 8 = -1 ∨ ∃ n : Nat, n ≤ 3 ∧ B (4 + 3 * g) 8 = nI n
def wf_c (B : pz_Bt) (g : Nat) : Prop := B (4 + 3 * g) 9 = -1 ∨ ∃ n : Nat, n ≤ 4 ∧ B (4 + 3 * g) 9 = nI n ∧ ∀ j, j < n → ∃ u : Nat, u < 32768 ∧ u / 8 % 1024 < 1000 ∧ B (6 + 3 * g) j = nI u
def wf_G (B : pz_Bt) (g : Nat) : Prop := (B (4 + 3 * g) 4 = -1 ↔ B (4 + 3 * g) 5 = -1) ∧ wf_w B g ∧ wf_c B g ∧ pz_tells B g
def wf_H (B : pz_Bt) (g : Nat) : Prop := B (4 + 3 * g) 5 ≠ -1 ∧ B (4 + 3 * g) 7 ≠ -1 ∧ B (4 + 3 * g) 8 ≠ -1 ∧ B (4 + 3 * g) 9 ≠ -1
theorem wf_cE {B B' : pz_Bt} {g : Nat} (h4 : B' (4 + 3 * g) 9 = B (4 + 3 * g) 9) (h6 : ∀ j, j < 4 → B' (6 + 3 * g) j = B (6 + 3 * g) j) (h : wf_c B g) : wf_c B' g := by
  unfold wf_c at *
  rw [h4]
  rcases h with z | ⟨n, n1, n2, n3⟩
  · exact Or.inl z
  · exact Or.inr ⟨n, n1, n2, fun j hj => by rw [h6 j (by omega)]; exact n3 j hj⟩
theorem wf_GE {B B' : pz_Bt} {g : Nat} (h4 : ∀ i, i < 10 → B' (4 + 3 * g) i = B (4 + 3 * g) i) (h6 : ∀ j, j < 4 → B' (6 + 3 * g) j = B (6 + 3 * g) j) (h : wf_G B g) : wf_G B' g := by
  obtain ⟨a, b, c, d⟩ := h
  refine ⟨by rw [h4 4 (by decide), h4 5 (by decide)]; exact a, by unfold wf_w at *; rw [h4 8 (by decide)]; exact b, wf_cE (h4 9 (by decide)) h6 c, ?_⟩
  unfold pz_tells at *
  rw [h4 5 (by decide), h4 7 (by decide), h4 8 (by decide), h4 9 (by decide)]
  exact d
theorem wf_HE {B B' : pz_Bt} {g : Nat} (h4 : ∀ i, i < 10 → B' (4 + 3 * g) i = B (4 + 3 * g) i) (h : wf_H B g) : wf_H B' g := by
  unfold wf_H at *
  rw [h4 5 (by decide), h4 7 (by decide), h4 8 (by decide), h4 9 (by decide)]
  exact h
theorem cn_lay {T : Nat → List Int32} : ∀ (r k : Nat) (lo : Int32) (j : Nat), j < pz_cn T k lo r → pz_lay (T (k + j)) ≠ -1 := by
  intro r
  induction r with
  | zero => intro k lo j h; rw [pz_cn] at h; omega
  | succ r ih =>
    intro k lo j h
    rw [pz_cn] at h
    by_cases q : pz_lay (T k) = -1
    · rw [if_pos q] at h; omega
    · rw [if_neg q] at h
      by_cases q2 : lo ≤ pz_hgt (pz_lay (T k))
      · rw [if_pos q2] at h
        cases j with
        | zero => exact q
        | succ j =>
          have := ih (k + 1) (pz_hgt (pz_lay (T k))) j (by omega)
          rw [show k + (j + 1) = k + 1 + j by omega]; exact this
      · rw [if_neg q2] at h; omega
theorem sp_clouds_o {T : Nat → List Int32} {k : Nat} {B : pz_Bt} {g i : Nat} (hi : i ≠ 9) : (sp_clouds T k B g).2.2 (4 + 3 * g) i = B (4 + 3 * g) i := by
  have n6 : ¬ 4 + 3 * g = 6 + 3 * g := by omega
  unfold sp_clouds
  refine pz_ife (P := fun r : pz_Rt => r.2.2 (4 + 3 * g) i = B (4 + 3 * g) i) (fun _ => by simp [jx_u2, hi]) (fun _ => pz_ife (P := fun r : pz_Rt => r.2.2 (4 + 3 * g) i = B (4 + 3 * g) i) (fun _ => by simp [pz_vvB, jx_u2, hi]) (fun _ => pz_ife (P := fun r : pz_Rt => r.2.2 (4 + 3 * g) i = B (4 + 3 * g) i) (fun _ => rfl) (fun _ => by simp [pz_cB, hi])))
theorem sp_clouds_c {cs : List Int32} (hV : pz_V cs) {k : Nat} {B : pz_Bt} {g : Nat} (h9 : B (4 + 3 * g) 9 = -1) : wf_c (sp_clouds (pz_tok cs) k B g).2.2 g := by
  unfold sp_clouds
  have n6 : ¬ 6 + 3 * g = 4 + 3 * g := by omega
  have n4 : ¬ 4 + 3 * g = 6 + 3 * g := by omega
  refine pz_ife (P := fun r : pz_Rt => wf_c r.2.2 g) (fun _ => ?_) (fun _ => pz_ife (P := fun r : pz_Rt => wf_c r.2.2 g) (fun q => ?_) (fun _ => pz_ife (P := fun r : pz_Rt => wf_c r.2.2 g) (fun _ => Or.inl h9) (fun q => ?_)))
  · exact Or.inr ⟨0, by omega, by simp [jx_u2]; rfl, fun j hj => absurd hj (by omega)⟩
  · refine Or.inr ⟨1, by omega, by simp [pz_vvB, jx_u2]; rfl, fun j hj => ?_⟩
    have j0 : j = 0 := by omega
    subst j0
    rcases pz_dig_q hV k 2 3 with e | ⟨u, hu, e⟩
    · exact absurd e q.2.2
    · refine ⟨5 + 8 * u, by omega, by omega, ?_⟩
      simp [pz_vvB, jx_u2]
      rw [e, show (8 : Int32) = nI 8 from rfl, show (5 : Int32) = nI 5 from rfl, pk_mul, nI_add]
  · have hle := pz_cn_le (T := pz_tok cs) 4 k 0
    refine Or.inr ⟨pz_cn (pz_tok cs) k 0 4, hle, by simp [pz_cB, q], fun j hj => ?_⟩
    have hl := cn_lay 4 k 0 j hj
    rcases pz_lay_q hV (k + j) with e | ⟨a, h, t, h1, h2, h3, h4, e⟩
    · exact absurd e hl
    · refine ⟨a + 8 * h + 8192 * t, by omega, by omega, ?_⟩
      simp [pz_cB, hj]
      exact e
theorem sp_sky_wf {cs : List Int32} (hV : pz_V cs) {k : Nat} {B : pz_Bt} {g : Nat} (h9 : B (4 + 3 * g) 9 = -1) (hs : (sp_sky (pz_tok cs) k B g).1 = true) : (sp_sky (pz_tok cs) k B g).2.2 (4 + 3 * g) 4 = B (4 + 3 * g) 4 ∧ (sp_sky (pz_tok cs) k B g).2.2 (4 + 3 * g) 5 = B (4 + 3 * g) 5 ∧ (sp_sky (pz_tok cs) k B g).2.2 (4 + 3 * g) 7 ≠ -1 ∧ (∃ n : Nat, n ≤ 3 ∧ (sp_sky (pz_tok cs) k B g).2.2 (4 + 3 * g) 8 = nI n) ∧ (sp_sky (pz_tok cs) k B g).2.2 (4 + 3 * g) 9 ≠ -1 ∧ wf_c (sp_sky (pz_tok cs) k B g).2.2 g := by
  unfold sp_sky at hs ⊢
  by_cases q : pz_tok cs k = W_CAVOK
  · rw [pz_ifp q]
    refine ⟨by simp [pz_cavB, jx_u2], by simp [pz_cavB, jx_u2], by simp [pz_cavB, jx_u2], ⟨0, by omega, by simp [pz_cavB, jx_u2]; rfl⟩, by simp [pz_cavB, jx_u2], Or.inr ⟨0, by omega, by simp [pz_cavB, jx_u2]; rfl, fun j hj => absurd hj (by omega)⟩⟩
  · rw [pz_ifn q] at hs ⊢
    by_cases q2 : pz_vis (pz_tok cs k)
    · rw [pz_ifp q2] at hs ⊢
      have hwn := pz_wn_le (T := pz_tok cs) 3 (k + 1)
      have n5 : ¬ 4 + 3 * g = 5 + 3 * g := by omega
      refine ⟨?_, ?_, ?_, ⟨pz_wn (pz_tok cs) (k + 1) 3, hwn, ?_⟩, sp_clouds_9 hs, sp_clouds_c hV ?_⟩
      · rw [sp_clouds_o (by decide), pz_wB_9 (by decide)]; simp [jx_u2]
      · rw [sp_clouds_o (by decide), pz_wB_9 (by decide)]; simp [jx_u2]
      · rw [sp_clouds_o (by decide), pz_wB_9 (by decide)]; simp [jx_u2]; exact q2.2
      · rw [sp_clouds_o (by decide)]
        by_cases z : pz_wn (pz_tok cs) (k + 1) 3 = 0
        · rw [z]; simp [pz_wB, jx_u2]; rfl
        · simp [pz_wB, z]
      · rw [pz_wB_9 (by decide)]; simp [jx_u2]; exact h9
    · rw [pz_ifn q2] at hs; exact absurd hs Bool.false_ne_true
theorem sp_whole_wf {cs : List Int32} (hV : pz_V cs) {k : Nat} {B : pz_Bt} {g : Nat} (h9 : B (4 + 3 * g) 9 = -1) (hs : (sp_whole (pz_tok cs) k B g).1 = true) : wf_G (sp_whole (pz_tok cs) k B g).2.2 g ∧ wf_H (sp_whole (pz_tok cs) k B g).2.2 g := by
  unfold sp_whole at hs ⊢
  by_cases q : pz_wnd (pz_tok cs k)
  · rw [pz_ifp q] at hs ⊢
    obtain ⟨a4, a5, a7, ⟨n, hn, a8⟩, a9, ac⟩ := sp_sky_wf hV (by rw [pz_wndB_9 (by omega)]; exact h9) hs
    rw [pz_wndB_5] at a5
    have e4 : pz_wndB B g (pz_tok cs k) (4 + 3 * g) 4 = pz_dir (pz_tok cs k) := by simp [pz_wndB, jx_u2]
    rw [e4] at a4
    have nd : pz_dir (pz_tok cs k) ≠ -1 := by
      unfold pz_dir
      by_cases z : pz_hold (pz_tok cs k) 0 [86, 82, 66] = true
      · rw [if_pos z]; decide
      · rw [if_neg z]
        rcases q.1 with y | y
        · exact absurd y z
        · exact y.1
    have n5 : (sp_sky (pz_tok cs) (k + 1) (pz_wndB B g (pz_tok cs k)) g).2.2 (4 + 3 * g) 5 ≠ -1 := by rw [a5]; exact q.2.1
    have n8 : (sp_sky (pz_tok cs) (k + 1) (pz_wndB B g (pz_tok cs k)) g).2.2 (4 + 3 * g) 8 ≠ -1 := by rw [a8]; exact pz_nm1 (by omega)
    refine ⟨⟨⟨fun z => absurd (a4.symm.trans z) nd, fun z => absurd z n5⟩, Or.inr ⟨n, hn, a8⟩, ac, Or.inl n5⟩, n5, a7, n8, a9⟩
  · rw [pz_ifn q] at hs; exact absurd hs Bool.false_ne_true
theorem sp_parts_wf {cs : List Int32} (hV : pz_V cs) {k : Nat} {B : pz_Bt} {g : Nat} (hb : ∀ i, 3 < i → i < 10 → B (4 + 3 * g) i = -1) (hs : (sp_parts (pz_tok cs) k B g).1 = true) : wf_G (sp_parts (pz_tok cs) k B g).2.2 g := by
  have n5 : ¬ 4 + 3 * g = 5 + 3 * g := by omega
  unfold sp_parts at hs ⊢
  have p1 : ((sp_p1 (pz_tok cs) k B g).2 (4 + 3 * g) 4 = -1 ↔ (sp_p1 (pz_tok cs) k B g).2 (4 + 3 * g) 5 = -1) ∧ (sp_p1 (pz_tok cs) k B g).2 (4 + 3 * g) 8 = -1 ∧ (sp_p1 (pz_tok cs) k B g).2 (4 + 3 * g) 9 = -1 := by
    unfold sp_p1
    by_cases q : pz_wnd (pz_tok cs k)
    · rw [pz_ifp q]
      have e4 : pz_wndB B g (pz_tok cs k) (4 + 3 * g) 4 = pz_dir (pz_tok cs k) := by simp [pz_wndB, jx_u2]
      have nd : pz_dir (pz_tok cs k) ≠ -1 := by
        unfold pz_dir
        by_cases z : pz_hold (pz_tok cs k) 0 [86, 82, 66] = true
        · rw [if_pos z]; decide
        · rw [if_neg z]
          rcases q.1 with y | y
          · exact absurd y z
          · exact y.1
      show (pz_wndB B g (pz_tok cs k) (4 + 3 * g) 4 = -1 ↔ pz_wndB B g (pz_tok cs k) (4 + 3 * g) 5 = -1) ∧ pz_wndB B g (pz_tok cs k) (4 + 3 * g) 8 = -1 ∧ pz_wndB B g (pz_tok cs k) (4 + 3 * g) 9 = -1
      rw [e4, pz_wndB_5, pz_wndB_9 (by omega), pz_wndB_9 (by omega)]
      exact ⟨⟨fun z => absurd z nd, fun z => absurd z q.2.1⟩, hb 8 (by decide) (by decide), hb 9 (by decide) (by decide)⟩
    · rw [pz_ifn q]
      exact ⟨⟨fun _ => hb 5 (by decide) (by decide), fun _ => hb 4 (by decide) (by decide)⟩, hb 8 (by decide) (by decide), hb 9 (by decide) (by decide)⟩
  generalize sp_p1 (pz_tok cs) k B g = P1 at hs p1 ⊢
  by_cases q : pz_tok cs P1.1 = W_CAVOK
  · rw [pz_ifp q]
    refine ⟨?_, Or.inr ⟨0, by omega, by simp [pz_cavB, jx_u2]; rfl⟩, Or.inr ⟨0, by omega, by simp [pz_cavB, jx_u2]; rfl, fun j hj => absurd hj (by omega)⟩, Or.inr (Or.inl (by simp [pz_cavB, jx_u2]))⟩
    have x4 : pz_cavB P1.2 g (4 + 3 * g) 4 = P1.2 (4 + 3 * g) 4 := by simp [pz_cavB, jx_u2]
    have x5 : pz_cavB P1.2 g (4 + 3 * g) 5 = P1.2 (4 + 3 * g) 5 := by simp [pz_cavB, jx_u2]
    show pz_cavB P1.2 g (4 + 3 * g) 4 = -1 ↔ pz_cavB P1.2 g (4 + 3 * g) 5 = -1
    rw [x4, x5]; exact p1.1
  · rw [pz_ifn q] at hs ⊢
    have p2 : ((sp_p2 (pz_tok cs) P1.1 P1.2 g).2 (4 + 3 * g) 4 = -1 ↔ (sp_p2 (pz_tok cs) P1.1 P1.2 g).2 (4 + 3 * g) 5 = -1) ∧ (sp_p2 (pz_tok cs) P1.1 P1.2 g).2 (4 + 3 * g) 8 = -1 ∧ (sp_p2 (pz_tok cs) P1.1 P1.2 g).2 (4 + 3 * g) 9 = -1 := by
      unfold sp_p2
      exact pz_ife (P := fun r : Nat × pz_Bt => (r.2 (4 + 3 * g) 4 = -1 ↔ r.2 (4 + 3 * g) 5 = -1) ∧ r.2 (4 + 3 * g) 8 = -1 ∧ r.2 (4 + 3 * g) 9 = -1) (fun _ => by simp [jx_u2]; exact p1) (fun _ => p1)
    generalize sp_p2 (pz_tok cs) P1.1 P1.2 g = P2 at hs p2 ⊢
    have p3 : ((sp_p3 (pz_tok cs) P2.1 P2.2 g).2 (4 + 3 * g) 4 = -1 ↔ (sp_p3 (pz_tok cs) P2.1 P2.2 g).2 (4 + 3 * g) 5 = -1) ∧ wf_w (sp_p3 (pz_tok cs) P2.1 P2.2 g).2 g ∧ (sp_p3 (pz_tok cs) P2.1 P2.2 g).2 (4 + 3 * g) 9 = -1 := by
      unfold sp_p3
      refine pz_ife (P := fun r : Nat × pz_Bt => (r.2 (4 + 3 * g) 4 = -1 ↔ r.2 (4 + 3 * g) 5 = -1) ∧ wf_w r.2 g ∧ r.2 (4 + 3 * g) 9 = -1) (fun _ => ⟨?_, Or.inr ⟨0, by omega, by simp [jx_u2]; rfl⟩, ?_⟩) (fun _ => ⟨?_, ?_, ?_⟩)
      · simp [jx_u2]; exact p2.1
      · simp [jx_u2]; exact p2.2.2
      · show (pz_wB P2.2 g (pz_tok cs) P2.1 _ (4 + 3 * g) 4 = -1 ↔ pz_wB P2.2 g (pz_tok cs) P2.1 _ (4 + 3 * g) 5 = -1)
        rw [pz_wB_9 (by decide), pz_wB_9 (by decide)]; exact p2.1
      · have hwn := pz_wn_le (T := pz_tok cs) 3 P2.1
        by_cases z : pz_wn (pz_tok cs) P2.1 3 = 0
        · left; rw [z]; simp [pz_wB]; exact p2.2.1
        · right; exact ⟨pz_wn (pz_tok cs) P2.1 3, hwn, by simp [pz_wB, z]⟩
      · show pz_wB P2.2 g (pz_tok cs) P2.1 _ (4 + 3 * g) 9 = -1
        rw [pz_wB_9 (by decide)]; exact p2.2.2
    generalize sp_p3 (pz_tok cs) P2.1 P2.2 g = P3 at hs p3 ⊢
    unfold sp_p4 at hs ⊢
    have ht : pz_tells (sp_clouds (pz_tok cs) P3.1 P3.2 g).2.2 g := by
      by_cases z : pz_tells (sp_clouds (pz_tok cs) P3.1 P3.2 g).2.2 g
      · exact z
      · rw [pz_ifn z] at hs; exact absurd hs Bool.false_ne_true
    refine ⟨?_, ?_, sp_clouds_c hV p3.2.2, ht⟩
    · show ((sp_clouds (pz_tok cs) P3.1 P3.2 g).2.2 (4 + 3 * g) 4 = -1 ↔ (sp_clouds (pz_tok cs) P3.1 P3.2 g).2.2 (4 + 3 * g) 5 = -1)
      rw [sp_clouds_o (by decide), sp_clouds_o (by decide)]; exact p3.1
    · show (sp_clouds (pz_tok cs) P3.1 P3.2 g).2.2 (4 + 3 * g) 8 = -1 ∨ _
      rw [sp_clouds_o (by decide)]; exact p3.2.1
theorem sp_change_wf {cs : List Int32} (hV : pz_V cs) {days : Int32} {k : Nat} {B : pz_Bt} {g : Nat} {lf : Int32} (hb : ∀ i, 1 < i → i < 10 → B (4 + 3 * g) i = -1) (hs : (sp_change (pz_tok cs) days k B g lf).1.1 = true) : wf_G (sp_change (pz_tok cs) days k B g lf).1.2.2 g ∧ ((sp_change (pz_tok cs) days k B g lf).1.2.2 (4 + 3 * g) 0 = 1 → wf_H (sp_change (pz_tok cs) days k B g lf).1.2.2 g) := by
  unfold sp_change at hs ⊢
  by_cases c1 : pz_fmo days (pz_tok cs k) (B 4 2) (B 4 3) lf
  · rw [pz_ifp c1] at hs ⊢
    have := sp_whole_wf hV (by rw [pz_fmB_9 (by decide)]; exact hb 9 (by decide) (by decide)) hs
    exact ⟨this.1, fun _ => this.2⟩
  · rw [pz_ifn c1] at hs ⊢
    by_cases c2 : (sp_name (pz_tok cs) k B g).1 = true
    · rw [pz_ifp c2] at hs ⊢
      dsimp only at hs ⊢
      have h0 : ∀ {i : Nat}, i < 2 → (sp_cper (pz_tok cs) days (sp_name (pz_tok cs) k B g).2.1 (sp_name (pz_tok cs) k B g).2.2 g).2.2 (4 + 3 * g) i = (sp_name (pz_tok cs) k B g).2.2 (4 + 3 * g) i := fun hi => sp_cper_0 hi
      have hn := sp_name_0 c2
      refine ⟨?_, fun z => ?_⟩
      · unfold sp_cper at hs ⊢
        by_cases c3 : pz_cpo days (pz_tok cs (sp_name (pz_tok cs) k B g).2.1) ((sp_name (pz_tok cs) k B g).2.2 4 2) ((sp_name (pz_tok cs) k B g).2.2 4 3)
        · rw [pz_ifp c3] at hs ⊢
          exact sp_parts_wf hV (fun i i1 i2 => by rw [pz_perB_9 i1, sp_name_9 (by omega)]; exact hb i (by omega) i2) hs
        · rw [pz_ifn c3] at hs; exact absurd hs Bool.false_ne_true
      · rw [h0 (by decide)] at z
        rw [z] at hn
        exact absurd hn (by decide)
    · rw [pz_ifn c2] at hs; exact absurd hs c2
/-- all groups ahead of the c-th -/
def wf_A (B : pz_Bt) (c : Nat) : Prop := ∀ g, g < c → wf_G B g ∧ ((g = 0 ∨ B (4 + 3 * g) 0 = 1) → wf_H B g)
theorem sp_fl_wf {cs : List Int32} (hV : pz_V cs) {days : Int32} : ∀ (r g k : Nat) (B : pz_Bt) (lf : Int32), g + r = 9 → 1 ≤ g → B 0 7 = nI g → wf_A B g → (sp_fl (pz_tok cs) days r g k B lf).1 = true → ∃ c, 1 ≤ c ∧ c ≤ 9 ∧ (sp_fl (pz_tok cs) days r g k B lf).2.2 0 7 = nI c ∧ wf_A (sp_fl (pz_tok cs) days r g k B lf).2.2 c ∧ ∀ i, (sp_fl (pz_tok cs) days r g k B lf).2.2 4 i = B 4 i := by
  intro r
  induction r with
  | zero =>
    intro g k B lf e1 e2 e3 hA hs
    unfold sp_fl
    exact ⟨g, e2, by omega, e3, hA, fun _ => rfl⟩
  | succ r ih =>
    intro g k B lf e1 e2 e3 hA hs
    unfold sp_fl at hs ⊢
    by_cases q : (pz_tok cs k).length = 0
    · rw [if_pos q]
      exact ⟨g, e2, by omega, e3, hA, fun _ => rfl⟩
    · rw [if_neg q] at hs ⊢
      by_cases q2 : (sp_change (pz_tok cs) days k (sp_add B g) g lf).1.1 = true
      · rw [pz_ifp q2] at hs ⊢
        have hw := sp_change_wf hV (fun i i1 i2 => sp_add_f (by omega) i2) q2
        have fr : ∀ rc i, rc ≠ 0 → rc ≠ 4 + 3 * g → rc ≠ 5 + 3 * g → rc ≠ 6 + 3 * g → (sp_change (pz_tok cs) days k (sp_add B g) g lf).1.2.2 rc i = B rc i := fun rc i r0 r4 r5 r6 => by
          rw [pz_fr_change rc i r4 r5 r6]
          unfold sp_add
          rw [if_neg (fun z => r0 z.1), if_neg (fun z => r4 z.1)]
        have h7 : (sp_change (pz_tok cs) days k (sp_add B g) g lf).1.2.2 0 7 = nI (g + 1) := by
          rw [pz_fr_change 0 7 (by omega) (by omega) (by omega)]
          unfold sp_add
          rw [if_pos ⟨rfl, rfl⟩]
        obtain ⟨c, c1, c2, c3, c4, c5⟩ := ih (g + 1) _ _ _ (by omega) (by omega) h7 (fun g' hg' => by
          by_cases z : g' = g
          · subst z
            exact ⟨hw.1, fun y => by
              rcases y with y | y
              · omega
              · exact hw.2 y⟩
          · have a4 : ∀ i, i < 10 → (sp_change (pz_tok cs) days k (sp_add B g) g lf).1.2.2 (4 + 3 * g') i = B (4 + 3 * g') i := fun i _ => fr _ i (by omega) (by omega) (by omega) (by omega)
            have a6 : ∀ i, i < 4 → (sp_change (pz_tok cs) days k (sp_add B g) g lf).1.2.2 (6 + 3 * g') i = B (6 + 3 * g') i := fun i _ => fr _ i (by omega) (by omega) (by omega) (by omega)
            have := hA g' (by omega)
            exact ⟨wf_GE a4 a6 this.1, fun y => wf_HE a4 (this.2 (by rw [a4 0 (by decide)] at y; exact y))⟩) hs
        exact ⟨c, c1, c2, c3, c4, fun i => by rw [c5 i]; exact fr 4 i (by omega) (by omega) (by omega) (by omega)⟩
      · rw [pz_ifn q2] at hs; exact absurd hs Bool.false_ne_true
/-- a text that was read, whole -/
def wf_R (cs : List Int32) (days : Int32) (B : pz_Bt) (c : Nat) : Prop := 1 ≤ c ∧ c ≤ 9 ∧ B 0 7 = nI c ∧ wf_A B c ∧ B 0 1 = days ∧ (B 0 0 = 1 ∨ (B 0 0 = 2 ∧ (∃ u v : Nat, u < v ∧ v < 1048576 ∧ B 4 2 = nI u ∧ B 4 3 = nI v) ∧ B 0 3 = -1001 ∧ B 0 4 = -1001 ∧ B 0 5 = -1001)) ∧ ∀ j, j < 4 → B 1 j = pz_ch (pz_tok cs 1) j
theorem pz_days {days : Int32} (h28 : ¬ days < 28) (h31 : days ≤ 31) : ∃ d : Nat, 28 ≤ d ∧ d ≤ 31 ∧ days = nI d := by
  have h0 : ¬ days < 0 := fun z => h28 (Int32.lt_trans z (by decide))
  obtain ⟨j, hj, e⟩ := nI_of2 (M := 31) (n := 31) (by decide) h0 h31
  refine ⟨j, ?_, hj, e⟩
  rcases Nat.lt_or_ge j 28 with z | z
  · rw [e] at h28; exact absurd (nI_lt (b := 28) z (by decide)) h28
  · exact z
theorem pz_hour_u {cs : List Int32} (hV : pz_V cs) (k f : Nat) (days lat : Int32) (h : pz_hour days (pz_tok cs k) f lat ≠ -1) : ∃ u : Nat, u < 150000 ∧ pz_hour days (pz_tok cs k) f lat = nI u := by
  obtain ⟨D, H, a1, a2, a3, a4, a5, a6⟩ := pz_hour_v hV k f days lat ((pz_hour_iff hV k f days lat).mp h)
  exact ⟨1440 * (D - 1) + 60 * H, by omega, a6⟩
theorem sp_read_wf {cs : List Int32} (hV : pz_V cs) {days : Int32} (h28 : ¬ days < 28) (h31 : days ≤ 31) {B0 : pz_Bt} (hs : (sp_read (pz_tok cs) days (sp_start B0 days)).1 = true) : ∃ c, wf_R cs days (sp_read (pz_tok cs) days (sp_start B0 days)).2.2 c := by
  have b9 : sp_start B0 days 4 9 = -1 := by rw [sp_start_4 9 (by decide)]; rfl
  have b7 : sp_start B0 days 0 7 = nI 1 := sp_start_07
  have bi : ∀ i, i ≠ 7 → sp_start B0 days 0 i = sp_start0 B0 days 0 i := fun i hi => by unfold sp_start sp_add; rw [if_neg (fun z => hi z.2), if_neg (by omega)]
  have b1 : sp_start B0 days 0 1 = days := by rw [bi 1 (by decide)]; simp [sp_start0, jx_u2]
  have b3 : sp_start B0 days 0 3 = -1001 := by rw [bi 3 (by decide)]; simp [sp_start0, jx_u2]
  have b4 : sp_start B0 days 0 4 = -1001 := by rw [bi 4 (by decide)]; simp [sp_start0, jx_u2]
  have b5 : sp_start B0 days 0 5 = -1001 := by rw [bi 5 (by decide)]; simp [sp_start0, jx_u2]
  generalize sp_start B0 days = B at hs b9 b7 b1 b3 b4 b5 ⊢
  have hr : (sp_all (pz_tok cs) days B).1 = true ∧ (pz_tok cs (sp_all (pz_tok cs) days B).2.1).length = 0 := by
    by_cases z : (sp_all (pz_tok cs) days B).1 = true ∧ (pz_tok cs (sp_all (pz_tok cs) days B).2.1).length = 0
    · exact z
    · rw [sp_read_f z] at hs; exact absurd hs Bool.false_ne_true
  rw [sp_read_t hr]
  obtain ⟨h1, h2⟩ := hr
  have key : ∀ v : Int32, ((pz_tok cs 0 = W_METAR ∧ v = 1) ∨ (pz_tok cs 0 = W_TAF ∧ v = 2)) → ∃ c, wf_R cs days (sp_all (pz_tok cs) days B).2.2 c := by
    intro v hv
    by_cases q1 : pz_sta (pz_tok cs 1)
    · by_cases q2 : pz_iss days (pz_tok cs 2)
      · rw [sp_all_y hv q1 q2] at h1 ⊢
        have v0 : sp_b2 (pz_tok cs) days B v 0 0 = v := by simp [sp_b2, jx_u2, pz_staB]
        have v7 : sp_b2 (pz_tok cs) days B v 0 7 = nI 1 := by simp [sp_b2, jx_u2, pz_staB, b7]
        have v1 : sp_b2 (pz_tok cs) days B v 0 1 = days := by simp [sp_b2, jx_u2, pz_staB, b1]
        have v3 : sp_b2 (pz_tok cs) days B v 0 3 = -1001 := by simp [sp_b2, jx_u2, pz_staB, b3]
        have v4 : sp_b2 (pz_tok cs) days B v 0 4 = -1001 := by simp [sp_b2, jx_u2, pz_staB, b4]
        have v5 : sp_b2 (pz_tok cs) days B v 0 5 = -1001 := by simp [sp_b2, jx_u2, pz_staB, b5]
        have vs : ∀ j, j < 4 → sp_b2 (pz_tok cs) days B v 1 j = pz_ch (pz_tok cs 1) j := fun j hj => by simp [sp_b2, jx_u2, pz_staB, hj]
        have v9 : sp_b2 (pz_tok cs) days B v 4 9 = -1 := by rw [sp_b2_o 4 9 (by decide)]; exact b9
        generalize sp_b2 (pz_tok cs) days B v = B2 at h1 v0 v7 v1 v3 v4 v5 vs v9 ⊢
        unfold sp_body at h1 ⊢
        rcases hv with ⟨_, rfl⟩ | ⟨_, rfl⟩
        · rw [pz_ifp v0] at h1 ⊢
          unfold sp_report at h1 ⊢
          by_cases q3 : (sp_whole (pz_tok cs) 3 B2 0).1 = true
          · rw [pz_ifp q3] at h1 ⊢
            have hw := sp_whole_wf hV (g := 0) v9 q3
            have fr : ∀ rc i, rc < 2 → (sp_whole (pz_tok cs) 3 B2 0).2.2 rc i = B2 rc i := fun rc i hr => pz_fr_whole rc i (by omega) (by omega) (by omega)
            generalize sp_whole (pz_tok cs) 3 B2 0 = W at h1 hw fr ⊢
            unfold sp_tem at h1 ⊢
            by_cases q4 : pz_tem (pz_tok cs W.2.1)
            · rw [pz_ifp q4] at h1 ⊢
              unfold sp_prs at h1 ⊢
              by_cases q5 : pz_prs (pz_tok cs (W.2.1 + 1))
              · rw [pz_ifp q5]
                refine ⟨1, by decide, by decide, ?_, fun g hg => ?_, ?_, Or.inl ?_, fun j hj => ?_⟩
                · simp [jx_u2]; rw [fr 0 7 (by decide)]; exact v7
                · have g0 : g = 0 := by omega
                  subst g0
                  refine ⟨wf_GE (B := W.2.2) (fun i _ => by simp [jx_u2]) (fun i _ => by simp [jx_u2]) hw.1, fun _ => wf_HE (B := W.2.2) (fun i _ => by simp [jx_u2]) hw.2⟩
                · simp [jx_u2]; rw [fr 0 1 (by decide)]; exact v1
                · simp [jx_u2]; rw [fr 0 0 (by decide)]; exact v0
                · simp [jx_u2]; rw [fr 1 j (by decide)]; exact vs j hj
              · rw [pz_ifn q5] at h1; exact absurd h1 Bool.false_ne_true
            · rw [pz_ifn q4] at h1; exact absurd h1 Bool.false_ne_true
          · rw [pz_ifn q3] at h1; exact absurd h1 q3
        · have n0 : ¬ B2 0 0 = 1 := by rw [v0]; decide
          rw [pz_ifn n0] at h1 ⊢
          unfold sp_forecast at h1 ⊢
          by_cases q3 : pz_fpo days (pz_tok cs 3) (pz_ed (B2 0 2))
          · rw [pz_ifp q3] at h1 ⊢
            have p2 : pz_perB B2 0 days (pz_tok cs 3) (pz_ed (B2 0 2)) 4 2 = pz_pb days (pz_tok cs 3) (pz_ed (B2 0 2)) := by simp [pz_perB, jx_u2]
            have p3 : pz_perB B2 0 days (pz_tok cs 3) (pz_ed (B2 0 2)) 4 3 = pz_pe days (pz_tok cs 3) (pz_ed (B2 0 2)) := by simp [pz_perB, jx_u2]
            have p9 : pz_perB B2 0 days (pz_tok cs 3) (pz_ed (B2 0 2)) 4 9 = -1 := by
              rw [show (4 : Nat) = 4 + 3 * 0 from rfl, pz_perB_9 (by decide)]; exact v9
            obtain ⟨d, d1, d2, ed⟩ := pz_days h28 h31
            obtain ⟨x, hx, ex⟩ := pz_hour_u hV 3 0 days 23 q3.1.2.2.1
            obtain ⟨y, hy, ey⟩ := pz_hour_u hV 3 5 days 24 q3.1.2.2.2
            have dm : days * 1440 = nI (d * 1440) := by rw [ed, show (1440 : Int32) = nI 1440 from rfl, pk_mul]
            obtain ⟨u, hu, eu⟩ : ∃ u : Nat, u < 200000 ∧ pz_pb days (pz_tok cs 3) (pz_ed (B2 0 2)) = nI u := by
              unfold pz_pb
              by_cases z : pz_ed (B2 0 2) ≤ pz_hour days (pz_tok cs 3) 0 23
              · rw [if_pos z]; exact ⟨x, by omega, ex⟩
              · rw [if_neg z, ex, dm, nI_add]; exact ⟨x + d * 1440, by omega, rfl⟩
            obtain ⟨w, hw, ew⟩ : ∃ w : Nat, w < 200000 ∧ pz_pe days (pz_tok cs 3) (pz_ed (B2 0 2)) = nI w := by
              unfold pz_pe
              by_cases z : pz_ed (B2 0 2) ≤ pz_hour days (pz_tok cs 3) 0 23 ∧ pz_hour days (pz_tok cs 3) 0 23 < pz_hour days (pz_tok cs 3) 5 24
              · rw [if_pos z]; exact ⟨y, by omega, ey⟩
              · rw [if_neg z, ey, dm, nI_add]; exact ⟨y + d * 1440, by omega, rfl⟩
            have uw : u < w := by
              have := q3.2.1
              rw [eu, ew, nI_leI (by omega) (by omega)] at this
              omega
            have frp : ∀ rc i, rc < 2 → pz_perB B2 0 days (pz_tok cs 3) (pz_ed (B2 0 2)) rc i = B2 rc i := fun rc i hr => pz_fr_per rc i (by omega) (by omega) (by omega)
            rw [eu] at p2
            rw [ew] at p3
            generalize pz_perB B2 0 days (pz_tok cs 3) (pz_ed (B2 0 2)) = B3 at h1 p2 p3 p9 frp ⊢
            by_cases q4 : (sp_whole (pz_tok cs) (3 + 1) B3 0).1 = true
            · rw [pz_ifp q4] at h1 ⊢
              have hw4 := sp_whole_wf hV (g := 0) p9 q4
              have fr : ∀ rc i, rc < 2 → (sp_whole (pz_tok cs) (3 + 1) B3 0).2.2 rc i = B2 rc i := fun rc i hr => (pz_fr_whole rc i (by omega) (by omega) (by omega)).trans (frp rc i hr)
              have f42 : (sp_whole (pz_tok cs) (3 + 1) B3 0).2.2 4 2 = nI u := (pz_f4_whole (g := 0) 2 (by decide)).trans p2
              have f43 : (sp_whole (pz_tok cs) (3 + 1) B3 0).2.2 4 3 = nI w := (pz_f4_whole (g := 0) 3 (by decide)).trans p3
              generalize sp_whole (pz_tok cs) (3 + 1) B3 0 = W at h1 hw4 fr f42 f43 ⊢
              obtain ⟨c, c1, c2, c3, c4, c5⟩ := sp_fl_wf hV 8 1 _ _ _ rfl (by decide) (by rw [fr 0 7 (by decide)]; exact v7) (fun g hg => by
                have g0 : g = 0 := by omega
                subst g0
                exact ⟨hw4.1, fun _ => hw4.2⟩) h1
              have fl : ∀ rc i, rc < 2 → ¬ (rc = 0 ∧ i = 7) → (sp_fl (pz_tok cs) days 8 1 W.2.1 W.2.2 (-1)).2.2 rc i = B2 rc i := fun rc i hr hi => (pz_fr_fl 8 1 _ _ _ rc i hr hi).trans (fr rc i hr)
              refine ⟨c, c1, c2, c3, c4, ?_, Or.inr ⟨?_, ⟨u, w, uw, by omega, ?_, ?_⟩, ?_, ?_, ?_⟩, fun j hj => ?_⟩
              · rw [fl 0 1 (by decide) (by decide)]; exact v1
              · rw [fl 0 0 (by decide) (by decide)]; exact v0
              · rw [c5 2]; exact f42
              · rw [c5 3]; exact f43
              · rw [fl 0 3 (by decide) (by decide)]; exact v3
              · rw [fl 0 4 (by decide) (by decide)]; exact v4
              · rw [fl 0 5 (by decide) (by decide)]; exact v5
              · rw [fl 1 j (by decide) (by omega)]; exact vs j hj
            · rw [pz_ifn q4] at h1; exact absurd h1 q4
          · rw [pz_ifn q3] at h1; exact absurd h1 Bool.false_ne_true
      · rw [sp_all_n2 hv q1 q2] at h1; exact absurd h1 Bool.false_ne_true
    · rw [sp_all_n1 hv q1] at h1; exact absurd h1 Bool.false_ne_true
  by_cases z1 : pz_tok cs 0 = W_METAR
  · exact key 1 (Or.inl ⟨z1, rfl⟩)
  · by_cases z2 : pz_tok cs 0 = W_TAF
    · exact key 2 (Or.inr ⟨z2, rfl⟩)
    · rw [sp_all_no z1 z2] at h1; exact absurd h1 Bool.false_ne_true
