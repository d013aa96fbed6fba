/-! ===== the whole reading of a text by the class ===== -/
def pz_DS (sI s : jx_St) (b : Nat) (B : pz_Bt) : Prop := s.2 = sI.2 ∧ (∀ rc i, rc < 31 → s.1 (b + rc) i = B rc i) ∧ ∀ c i, (c < b ∨ b + 31 ≤ c) → s.1 c i = sI.1 c i
theorem DS_set {sI s : jx_St} {b : Nat} {B : pz_Bt} (h : pz_DS sI s b B) {rc : Nat} (i : Nat) (v : Int32) (hr : rc < 31) : pz_DS sI (jx_sI s (b + rc) i v) b (jx_u2 B rc i v) := by
  refine ⟨h.1, fun rc' i' hr' => ?_, fun c i' hc => ?_⟩
  · rw [pz_s1]
    unfold jx_u2
    by_cases q : rc' = rc ∧ i' = i
    · rw [if_pos ⟨by omega, q.2⟩, if_pos q]
    · rw [if_neg (fun z => q ⟨by omega, z.2⟩), if_neg q]; exact h.2.1 rc' i' hr'
  · rw [pz_s1, if_neg (fun q => by omega)]; exact h.2.2 c i' hc
theorem DS_addGroup0 {sI s : jx_St} {b : Nat} {B : pz_Bt} {postv : jx_St → Prop} (hb : b = 3 ∨ b = 34) (h8 : sI.2 b 8 = b + 2) (hg0 : sI.2 (b + 2) 0 = b + 4) (h : pz_DS sI s b B) (hc : B 0 7 = 0) (hp : ∀ s' : jx_St, pz_DS sI s' b (sp_add B 0) → postv s') : wX0_addGroup postv b s := by
  have hk : jx_ok jx_LX 1 (b + 4) := ok_g hb (g := 0) (by decide)
  have e7 : s.1 b 7 = 0 := by have := h.2.1 0 7 (by decide); rw [Nat.add_zero] at this; rw [this]; exact hc
  unfold wX0_addGroup
  rw [h.1, e7, h8, show ((0 : Int32).toNatClampNeg) = 0 from rfl, hg0]
  refine ⟨ok_b hb, fun z => absurd z (by decide), fun _ => ⟨ix_gs hb (g := 0) (by decide), hk, ?_⟩⟩
  unfold wX1_clear
  refine ⟨hk, fun s1 e1 s2 e2 s3 e3 s4 e4 s5 e5 s6 e6 s7 e7 s8 e8 s9 e9 s10 e10 s11 e11 => hp s11 ?_⟩
  have h1 := DS_set h (rc := 4) 0 0 (by decide)
  rw [← e1] at h1
  have h2 := DS_set h1 (rc := 4) 1 0 (by decide)
  rw [← e2] at h2
  have h3 := DS_set h2 (rc := 4) 2 (-1) (by decide)
  rw [← e3] at h3
  have h4 := DS_set h3 (rc := 4) 3 (-1) (by decide)
  rw [← e4] at h4
  have h5 := DS_set h4 (rc := 4) 4 (-1) (by decide)
  rw [← e5] at h5
  have h6 := DS_set h5 (rc := 4) 5 (-1) (by decide)
  rw [← e6] at h6
  have h7 := DS_set h6 (rc := 4) 6 (-1) (by decide)
  rw [← e7] at h7
  have h8 := DS_set h7 (rc := 4) 7 (-1) (by decide)
  rw [← e8] at h8
  have h9 := DS_set h8 (rc := 4) 8 (-1) (by decide)
  rw [← e9] at h9
  have h10 := DS_set h9 (rc := 4) 9 (-1) (by decide)
  rw [← e10] at h10
  have hv : s10.1 b 7 + 1 = nI 1 := by
    have := h10.2.1 0 7 (by decide)
    rw [Nat.add_zero] at this
    rw [this]
    simp [jx_u2, hc]
    decide
  rw [hv] at e11
  have h11 := DS_set h10 (rc := 0) 7 (nI 1) (by decide)
  rw [Nat.add_zero, ← e11] at h11
  have eB : jx_u2 (jx_u2 (jx_u2 (jx_u2 (jx_u2 (jx_u2 (jx_u2 (jx_u2 (jx_u2 (jx_u2 (jx_u2 B 4 0 0) 4 1 0) 4 2 (-1)) 4 3 (-1)) 4 4 (-1)) 4 5 (-1)) 4 6 (-1)) 4 7 (-1)) 4 8 (-1)) 4 9 (-1)) 0 7 (nI 1) = sp_add B 0 := by
    funext rc i
    by_cases q0 : rc = 0
    · subst q0
      by_cases q7 : i = 7
      · subst q7; simp [jx_u2, sp_add]
      · simp [jx_u2, sp_add, q7]
    · by_cases qg : rc = 4
      · by_cases qi : i < 10
        · have : i = 0 ∨ i = 1 ∨ i = 2 ∨ i = 3 ∨ i = 4 ∨ i = 5 ∨ i = 6 ∨ i = 7 ∨ i = 8 ∨ i = 9 := by omega
          rcases this with rfl | rfl | rfl | rfl | rfl | rfl | rfl | rfl | rfl | rfl <;> simp [jx_u2, sp_add, qg]
        · have n0 : ¬ i = 0 := by omega
          have n1 : ¬ i = 1 := by omega
          have n2 : ¬ i = 2 := by omega
          have n3 : ¬ i = 3 := by omega
          have n4 : ¬ i = 4 := by omega
          have n5 : ¬ i = 5 := by omega
          have n6 : ¬ i = 6 := by omega
          have n7 : ¬ i = 7 := by omega
          have n8 : ¬ i = 8 := by omega
          have n9 : ¬ i = 9 := by omega
          simp only [jx_u2, sp_add, n0, n1, n2, n3, n4, n5, n6, n7, n8, n9, and_false, if_false, qi]
      · simp [jx_u2, sp_add, q0, qg]
  rw [← eB]
  exact h11
theorem DS_start {sI s : jx_St} {b : Nat} {B : pz_Bt} {days : Int32} {postv : jx_St → Prop} (hb : b = 3 ∨ b = 34) (h8 : sI.2 b 8 = b + 2) (hg0 : sI.2 (b + 2) 0 = b + 4) (h : pz_DS sI s b B) (hp : ∀ s' : jx_St, pz_DS sI s' b (sp_start B days) → postv s') : wX0_start postv b days s := by
  unfold wX0_start
  refine ⟨ok_b hb, fun s1 e1 s2 e2 s3 e3 s4 e4 s5 e5 s6 e6 s7 e7 s8 e8 => ?_⟩
  have h1 := DS_set h (rc := 0) 0 0 (by decide)
  rw [Nat.add_zero, ← e1] at h1
  have h2 := DS_set h1 (rc := 0) 1 days (by decide)
  rw [Nat.add_zero, ← e2] at h2
  have h3 := DS_set h2 (rc := 0) 2 (-1) (by decide)
  rw [Nat.add_zero, ← e3] at h3
  have h4 := DS_set h3 (rc := 0) 3 (-1001) (by decide)
  rw [Nat.add_zero, ← e4] at h4
  have h5 := DS_set h4 (rc := 0) 4 (-1001) (by decide)
  rw [Nat.add_zero, ← e5] at h5
  have h6 := DS_set h5 (rc := 0) 5 (-1001) (by decide)
  rw [Nat.add_zero, ← e6] at h6
  have h7 := DS_set h6 (rc := 0) 10 0 (by decide)
  rw [Nat.add_zero, ← e7] at h7
  have h8' := DS_set h7 (rc := 0) 7 0 (by decide)
  rw [Nat.add_zero, ← e8] at h8'
  exact DS_addGroup0 hb h8 hg0 h8' (by simp [jx_u2]) hp
/-- B' is B with the text t kept -/
def pz_KT (B B' : pz_Bt) (t : List Int32) : Prop := (∀ rc i, rc ≠ 3 → ¬ (rc = 0 ∧ i = 10) → B' rc i = B rc i) ∧ B' 0 10 = nI t.length ∧ (∀ i, i < t.length → B' 3 i = t.getD i 0) ∧ t.length ≤ 700
section PZX
variable {s0 : jx_St} {cs : List Int32} {src b : Nat} {days : Int32} {s : jx_St} {k : Nat} {B : Nat → Nat → Int32} {lf : Int32} {post : Int32 → jx_St → Prop} {postv : jx_St → Prop}
theorem ix_tx (hb : b = 3 ∨ b = 34) {i : Nat} (hi : i < 700) : jx_ix jx_LX 5 (b + 3) (nI i) := by
  rcases hb with rfl | rfl <;> exact ⟨⟨by decide, by decide⟩, vp_in_nI hi (by decide)⟩
theorem PS_push (h : pz_PS s0 cs src b days s k B lf) {B0 : pz_Bt} {acc : List Int32} {x : Int32} (hx : vp_nar .char x = x) (hl : acc.length < 700) (hK : pz_KT B0 B acc) (hp : ∀ s' B', pz_PS s0 cs src b days s' k B' lf → pz_KT B0 B' (acc ++ [x]) → postv s') :
    jx_ix jx_LX 5 (s.2 b 9) (s.1 b 10) ∧ (∀ s1 : jx_St, s1 = jx_sI s (s.2 b 9) ((s.1 b 10) : Int32).toNatClampNeg (vp_nar .char x) → ∀ s2 : jx_St, s2 = jx_sI s1 b 10 ((s1.1 b 10) + 1) → postv s2) := by
  have hb := PS_b h
  obtain ⟨k1, k2, k3, k4⟩ := hK
  have e10 : s.1 b 10 = nI acc.length := by rw [PS_B0 h 10, k2]
  rw [PS_9 h, e10, pz_cl (by omega), hx]
  refine ⟨ix_tx hb hl, fun s1 e1 s2 e2 => ?_⟩
  have h1 := PS_set h (rc := 3) acc.length x (by decide)
  rw [← e1] at h1
  have e3 : s1.1 b 10 = nI acc.length := by rw [PS_B0 h1 10]; simp [jx_u2]; exact k2
  rw [e3, nI_1] at e2
  have h2 := PS_set0 h1 10 (nI (acc.length + 1))
  rw [← e2] at h2
  refine hp s2 _ h2 ⟨fun rc i hr hi => ?_, by simp [jx_u2], fun i hi => ?_, by simp; omega⟩
  · unfold jx_u2
    rw [if_neg hi, if_neg (fun z => hr z.1)]
    exact k1 rc i hr hi
  · have n3 : ¬ ((3 : Nat) = 0 ∧ i = 10) := fun z => absurd z.1 (by decide)
    unfold jx_u2
    rw [if_neg n3]
    by_cases q : i = acc.length
    · subst q; rw [if_pos ⟨rfl, rfl⟩]; simp
    · have hi2 : i < acc.length := by simp at hi; omega
      rw [if_neg (fun z => q z.2), k3 i hi2]
      simp [List.getElem?_append_left hi2]
end PZX
