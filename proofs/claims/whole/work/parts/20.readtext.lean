/-! ===== the whole reading of a text by the class ===== -/
def pz_DS (sI s : jx_St) (b : Nat) (B : pz_Bt) : Prop := s.2 = sI.2 ∧ (∀ rc i, rc < 31 → s.1 (b + rc) i = B rc i) ∧ ∀ c i, (c < b ∨ b + 31 ≤ c) → s.1 c i = sI.1 c i
theorem DS_set {sI s : jx_St} {b : Nat} {B : pz_Bt} (h : pz_DS sI s b B) {rc : Nat} (i : Nat) (v : Int32) (hr : rc < 31) : pz_DS sI (jx_sI s (b + rc) i v) b (jx_u2 B rc i v) := by
  refine ⟨h.1, fun rc' i' hr' => ?_, fun c i' hc => ?_⟩
  · rw [pz_s1]
    unfold jx_u2
    by_cases q : rc' = rc ∧ i' = i
    · rw [if_pos ⟨by omega, q.2⟩, if_pos q]
    · rw [if_neg (fun z => q ⟨by omega, z.2⟩), if_neg q]; exact h.2.1 rc' i' hr'
  · rw [pz_s1, if_neg (fun q => by omega)]; exact h.2.2 c i' hc
theorem DS_addGroup0 {sI s : jx_St} {b : Nat} {B : pz_Bt} {postv : jx_St → Prop} (hb : b = 3 ∨ b = 34) (h8 : sI.2 b 8 = b + 2) (hg0 : sI.2 (b + 2) 0 = b + 4) (h : pz_DS sI s b B) (hc : B 0 7 = 0) (hp : ∀ s' : jx_St, pz_DS sI s' b (sp_add B 0) → postv s') : wX0_addGroup postv b s := by
  have hk : jx_ok jx_LX 1 (b + 4) := ok_g hb (g := 0) (by decide)
  have e7 : s.1 b 7 = 0 := by have := h.2.1 0 7 (by decide); rw [Nat.add_zero] at this; rw [this]; exact hc
  unfold wX0_addGroup
  rw [h.1, e7, h8, show ((0 : Int32).toNatClampNeg) = 0 from rfl, hg0]
  refine ⟨ok_b hb, fun z => absurd z (by decide), fun _ => ⟨ix_gs hb (g := 0) (by decide), hk, ?_⟩⟩
  unfold wX1_clear
  refine ⟨hk, fun s1 e1 s2 e2 s3 e3 s4 e4 s5 e5 s6 e6 s7 e7 s8 e8 s9 e9 s10 e10 s11 e11 => hp s11 ?_⟩
  have h1 := DS_set h (rc := 4) 0 0 (by decide)
  rw [← e1] at h1
  have h2 := DS_set h1 (rc := 4) 1 0 (by decide)
  rw [← e2] at h2
  have h3 := DS_set h2 (rc := 4) 2 (-1) (by decide)
  rw [← e3] at h3
  have h4 := DS_set h3 (rc := 4) 3 (-1) (by decide)
  rw [← e4] at h4
  have h5 := DS_set h4 (rc := 4) 4 (-1) (by decide)
  rw [← e5] at h5
  have h6 := DS_set h5 (rc := 4) 5 (-1) (by decide)
  rw [← e6] at h6
  have h7 := DS_set h6 (rc := 4) 6 (-1) (by decide)
  rw [← e7] at h7
  have h8 := DS_set h7 (rc := 4) 7 (-1) (by decide)
  rw [← e8] at h8
  have h9 := DS_set h8 (rc := 4) 8 (-1) (by decide)
  rw [← e9] at h9
  have h10 := DS_set h9 (rc := 4) 9 (-1) (by decide)
  rw [← e10] at h10
  have hv : s10.1 b 7 + 1 = nI 1 := by
    have := h10.2.1 0 7 (by decide)
    rw [Nat.add_zero] at this
    rw [this]
    simp [jx_u2, hc]
    decide
  rw [hv] at e11
  have h11 := DS_set h10 (rc := 0) 7 (nI 1) (by decide)
  rw [Nat.add_zero, ← e11] at h11
  have eB : jx_u2 (jx_u2 (jx_u2 (jx_u2 (jx_u2 (jx_u2 (jx_u2 (jx_u2 (jx_u2 (jx_u2 (jx_u2 B 4 0 0) 4 1 0) 4 2 (-1)) 4 3 (-1)) 4 4 (-1)) 4 5 (-1)) 4 6 (-1)) 4 7 (-1)) 4 8 (-1)) 4 9 (-1)) 0 7 (nI 1) = sp_add B 0 := by
    funext rc i
    by_cases q0 : rc = 0
    · subst q0
      by_cases q7 : i = 7
      · subst q7; simp [jx_u2, sp_add]
      · simp [jx_u2, sp_add, q7]
    · by_cases qg : rc = 4
      · by_cases qi : i < 10
        · have : i = 0 ∨ i = 1 ∨ i = 2 ∨ i = 3 ∨ i = 4 ∨ i = 5 ∨ i = 6 ∨ i = 7 ∨ i = 8 ∨ i = 9 := by omega
          rcases this with rfl | rfl | rfl | rfl | rfl | rfl | rfl | rfl | rfl | rfl <;> simp [jx_u2, sp_add, qg]
        · have n0 : ¬ i = 0 := by omega
          have n1 : ¬ i = 1 := by omega
          have n2 : ¬ i = 2 := by omega
          have n3 : ¬ i = 3 := by omega
          have n4 : ¬ i = 4 := by omega
          have n5 : ¬ i = 5 := by omega
          have n6 : ¬ i = 6 := by omega
          have n7 : ¬ i = 7 := by omega
          have n8 : ¬ i = 8 := by omega
          have n9 : ¬ i = 9 := by omega
          simp only [jx_u2, sp_add, n0, n1, n2, n3, n4, n5, n6, n7, n8, n9, and_false, if_false, qi]
      · simp [jx_u2, sp_add, q0, qg]
  rw [← eB]
  exact h11
theorem DS_start {sI s : jx_St} {b : Nat} {B : pz_Bt} {days : Int32} {postv : jx_St → Prop} (hb : b = 3 ∨ b = 34) (h8 : sI.2 b 8 = b + 2) (hg0 : sI.2 (b + 2) 0 = b + 4) (h : pz_DS sI s b B) (hp : ∀ s' : jx_St, pz_DS sI s' b (sp_start B days) → postv s') : wX0_start postv b days s := by
  unfold wX0_start
  refine ⟨ok_b hb, fun s1 e1 s2 e2 s3 e3 s4 e4 s5 e5 s6 e6 s7 e7 s8 e8 => ?_⟩
  have h1 := DS_set h (rc := 0) 0 0 (by decide)
  rw [Nat.add_zero, ← e1] at h1
  have h2 := DS_set h1 (rc := 0) 1 days (by decide)
  rw [Nat.add_zero, ← e2] at h2
  have h3 := DS_set h2 (rc := 0) 2 (-1) (by decide)
  rw [Nat.add_zero, ← e3] at h3
  have h4 := DS_set h3 (rc := 0) 3 (-1001) (by decide)
  rw [Nat.add_zero, ← e4] at h4
  have h5 := DS_set h4 (rc := 0) 4 (-1001) (by decide)
  rw [Nat.add_zero, ← e5] at h5
  have h6 := DS_set h5 (rc := 0) 5 (-1001) (by decide)
  rw [Nat.add_zero, ← e6] at h6
  have h7 := DS_set h6 (rc := 0) 10 0 (by decide)
  rw [Nat.add_zero, ← e7] at h7
  have h8' := DS_set h7 (rc := 0) 7 0 (by decide)
  rw [Nat.add_zero, ← e8] at h8'
  exact DS_addGroup0 hb h8 hg0 h8' (by simp [jx_u2]) hp
/-- B' is B with the text t kept -/
def pz_KT (B B' : pz_Bt) (t : List Int32) : Prop := (∀ rc i, rc ≠ 3 → ¬ (rc = 0 ∧ i = 10) → B' rc i = B rc i) ∧ B' 0 10 = nI t.length ∧ (∀ i, i < t.length → B' 3 i = t.getD i 0) ∧ t.length ≤ 700
section PZX
variable {s0 : jx_St} {cs : List Int32} {src b : Nat} {days : Int32} {s : jx_St} {k : Nat} {B : Nat → Nat → Int32} {lf : Int32} {post : Int32 → jx_St → Prop} {postv : jx_St → Prop}
theorem ix_tx (hb : b = 3 ∨ b = 34) {i : Nat} (hi : i < 700) : jx_ix jx_LX 5 (b + 3) (nI i) := by
  rcases hb with rfl | rfl <;> exact ⟨⟨by decide, by decide⟩, vp_in_nI hi (by decide)⟩
theorem PS_push (h : pz_PS s0 cs src b days s k B lf) {B0 : pz_Bt} {acc : List Int32} {x : Int32} (hx : vp_nar .char x = x) (hl : acc.length < 700) (hK : pz_KT B0 B acc) (hp : ∀ s' B', pz_PS s0 cs src b days s' k B' lf → pz_KT B0 B' (acc ++ [x]) → postv s') :
    jx_ix jx_LX 5 (s.2 b 9) (s.1 b 10) ∧ (∀ s1 : jx_St, s1 = jx_sI s (s.2 b 9) ((s.1 b 10) : Int32).toNatClampNeg (vp_nar .char x) → ∀ s2 : jx_St, s2 = jx_sI s1 b 10 ((s1.1 b 10) + 1) → postv s2) := by
  have hb := PS_b h
  obtain ⟨k1, k2, k3, k4⟩ := hK
  have e10 : s.1 b 10 = nI acc.length := by rw [PS_B0 h 10, k2]
  rw [PS_9 h, e10, pz_cl (by omega), hx]
  refine ⟨ix_tx hb hl, fun s1 e1 s2 e2 => ?_⟩
  have h1 := PS_set h (rc := 3) acc.length x (by decide)
  rw [← e1] at h1
  have e3 : s1.1 b 10 = nI acc.length := by rw [PS_B0 h1 10]; simp [jx_u2]; exact k2
  rw [e3, nI_1] at e2
  have h2 := PS_set0 h1 10 (nI (acc.length + 1))
  rw [← e2] at h2
  refine hp s2 _ h2 ⟨fun rc i hr hi => ?_, by simp [jx_u2], fun i hi => ?_, by simp; omega⟩
  · unfold jx_u2
    rw [if_neg hi, if_neg (fun z => hr z.1)]
    exact k1 rc i hr hi
  · have n3 : ¬ ((3 : Nat) = 0 ∧ i = 10) := fun z => absurd z.1 (by decide)
    unfold jx_u2
    rw [if_neg n3]
    by_cases q : i = acc.length
    · subst q; rw [if_pos ⟨rfl, rfl⟩]; simp
    · have hi2 : i < acc.length := by simp at hi; omega
      rw [if_neg (fun z => q z.2), k3 i hi2]
      simp [List.getElem?_append_left hi2]
theorem tX0_keep_l {B0 : pz_Bt} (hsrc : b + 3 ≠ src ∧ b ≠ src) :
    ∀ (r : List Int32) (i : Nat) (bb : Bool) (acc : List Int32) (s : jx_St) (B : pz_Bt), cs.drop i = r → i ≤ cs.length → acc.length ≤ i → (bb = true → acc.length + 1 ≤ i) → pz_PS s0 cs src b days s k B lf → pz_KT B0 B acc → (∀ s' B', pz_PS s0 cs src b days s' k B' lf → pz_KT B0 B' (pz_kt r bb acc) → postv s') → wX0_keepTokens_l10 postv (r.length + 1) b src (nI cs.length) (if bb = true then 1 else 0) (nI i) s := by
  intro r
  induction r with
  | nil =>
    intro i bb acc s B hd hi ha hbb h hK hp
    have hl : cs.length ≤ i := by simpa using hd
    have hV := h.2.1.2.2.2.2.2.1.1
    rw [wX0_keepTokens_l10]
    exact ⟨fun _ => hp s B h hK, fun z => absurd (nI_le hl (by omega)) z⟩
  | cons x r ih =>
    intro i bb acc s B hd hi ha hbb h hK hp
    obtain ⟨d1, d2, d3⟩ := pz_dropC hd
    have hb := PS_b h
    have hS := h.2.1
    obtain ⟨g1, g2, g3, g4, g5, ⟨g6, g6v⟩, g7, g8⟩ := hS
    have hxm : x ∈ cs := by
      rw [← d2]
      simp only [List.getD, List.getElem?_eq_getElem d1, Option.getD_some]
      exact List.getElem_mem _
    have hxv := g6v x hxm
    have hix : jx_ix jx_LX 5 src (nI i) := ⟨g3, by rw [g4]; exact vp_in_nI (by omega) (by decide)⟩
    rw [wX0_keepTokens_l10]
    refine ⟨fun z => absurd z (nI_ge d1 (by omega)), fun _ => ⟨g3, ?_⟩⟩
    rw [g4]
    refine ⟨fun z => absurd z (nI_ge (b := 700) (by omega) (by omega)), fun _ => ⟨fun z => absurd z (nI_ge (b := 700) (by omega) (by omega)), fun _ => ⟨hix, ?_⟩⟩⟩
    rw [pz_cl (by omega), g8 i d1, d2]
    rw [pz_kt] at hp
    refine ⟨fun q => ?_, fun q => ?_⟩
    · rw [if_neg q] at hp
      have put : ∀ (acc' : List Int32) (s' : jx_St) (B' : pz_Bt), acc'.length ≤ i → (∀ s' B', pz_PS s0 cs src b days s' k B' lf → pz_KT B0 B' (pz_kt r false (acc' ++ [x])) → postv s') → pz_PS s0 cs src b days s' k B' lf → pz_KT B0 B' acc' → wX0_keepTokens_b84 postv (fun z0 z1 z2 z3 z4 zs => wX0_keepTokens_l10 postv (r.length + 1) z0 z1 z2 z3 z4 zs) b src (nI cs.length) (nI i) 0 s' := by
        intro acc' s' B' hl hp' h' hK'
        have hc : s'.1 src ((nI i : Int32).toNatClampNeg) = x := by rw [pz_cl (by omega), h'.2.1.2.2.2.2.2.2.2 i d1, d2]
        unfold wX0_keepTokens_b84
        refine ⟨fun z => absurd rfl z, fun _ => ⟨ok_b hb, hix, ?_⟩⟩
        rw [hc]
        refine PS_push (postv := fun s2 => ∀ x23 : Int32, x23 = nI i + 1 → wX0_keepTokens_l10 postv (r.length + 1) b src (nI cs.length) 0 x23 s2) h' (pz_nar hxv) (by omega) hK' (fun s2 B2 h2 hK2 y hy => ?_)
        rw [hy, nI_1]
        exact ih (i + 1) false (acc' ++ [x]) s2 B2 d3 d1 (by simp; omega) (fun z => absurd z (by decide)) h2 hK2 hp'
      unfold wX0_keepTokens_b45
      have e10 : s.1 b 10 = nI acc.length := by rw [PS_B0 h 10, hK.2.1]
      refine ⟨fun z => absurd rfl z, fun _ => ⟨fun q2 => ?_, fun q2 => ⟨ok_b hb, fun q3 => ?_, fun q3 => ?_⟩⟩⟩
      · have hbf : ¬ (bb = true ∧ acc.length ≠ 0) := fun z => by rw [if_pos z.1] at q2; exact absurd q2 (by decide)
        rw [if_neg hbf] at hp
        exact put acc s B ha hp h hK
      · rw [e10] at q3
        have hz := pz_lew (b := 0) (by omega) q3
        have hbf : ¬ (bb = true ∧ acc.length ≠ 0) := fun z => z.2 (by omega)
        rw [if_neg hbf] at hp
        exact put acc s B ha hp h hK
      · rw [e10] at q3
        have hz : ¬ acc.length = 0 := fun z => q3 (by rw [z]; decide)
        have hbt : bb = true := by
          cases bb with
          | true => rfl
          | false => exact absurd rfl q2
        rw [if_pos ⟨hbt, hz⟩] at hp
        have hac := hbb hbt
        refine PS_push (postv := fun s2 => wX0_keepTokens_b84 postv (fun z0 z1 z2 z3 z4 zs => wX0_keepTokens_l10 postv (r.length + 1) z0 z1 z2 z3 z4 zs) b src (nI cs.length) (nI i) 0 s2) h (x := 32) (by decide) (by omega) hK (fun s2 B2 h2 hK2 => ?_)
        exact put (acc ++ [32]) s2 B2 (by simp; omega) (by rw [List.append_assoc]; exact hp) h2 hK2
    · rw [if_pos q] at hp
      unfold wX0_keepTokens_b45 wX0_keepTokens_b84
      refine ⟨fun _ => ⟨fun _ y hy => ?_, fun z => absurd z (by decide)⟩, fun z => absurd z (by decide)⟩
      rw [hy, nI_1]
      exact ih (i + 1) true acc s B d3 d1 (by omega) (fun _ => by omega) h hK hp
theorem tX0_keepTokens (h : pz_PS s0 cs src b days s k B lf) (hp : ∀ s' B', pz_PS s0 cs src b days s' k B' lf → pz_KT B B' (pz_can cs) → postv s') : wX0_keepTokens postv b src (nI cs.length) s := by
  have hb := PS_b h
  have hs := h.2.2.2.2.2.2.2.2.2.1
  unfold wX0_keepTokens
  refine ⟨ok_b hb, fun s1 e1 => ⟨cs.length + 1, ?_⟩⟩
  have h1 := PS_set0 h 10 0
  rw [← e1] at h1
  have := tX0_keep_l (B0 := B) (postv := postv) (k := k) (lf := lf) (s0 := s0) (days := days) (b := b) (src := src) (cs := cs) (by omega) cs 0 false [] s1 _ rfl (by omega) (by simp) (fun z => absurd z (by decide)) h1 ⟨fun rc i _ hi => by unfold jx_u2; rw [if_neg hi], by simp [jx_u2]; rfl, fun i hi => absurd hi (by simp), by simp⟩ hp
  exact this
theorem tX2_fin (h : pz_PS s0 cs src b days s k B lf) {ok : Bool} (hs : (pz_if (ok = true ∧ (pz_tok cs k).length = 0) true false) = true → ∀ s' B' lf', pz_PS s0 cs src b days s' k B' lf' → pz_KT B B' (pz_can cs) → post 0 s') (hf : (pz_if (ok = true ∧ (pz_tok cs k).length = 0) true false) = false → ∀ s' B' lf', pz_PS s0 cs src b days s' k B' lf' → post (nI (pz_pos cs k) + 1) s') {k0 : Int32} (hk : k0 = if ok = true then 1 else 0) : wX2_readText_b88 post 65 k0 s := by
  have hb := PS_b h
  have hlen := (PS_T h).2.2.1
  subst hk
  unfold wX2_readText_b88
  rw [h.2.2.2.1, PS_w h, PS_7 h, h.2.1.2.1, h.2.1.2.2.2.2.2.2.1]
  cases ok with
  | false =>
    rw [pz_ifn (fun z => absurd z.1 (by decide))] at hf
    exact ⟨fun _ => ⟨ok_rd, hf rfl s _ _ h⟩, fun z => absurd rfl z⟩
  | true =>
    refine ⟨fun z => absurd z (by decide), fun _ => ⟨ok_rd, fun q => ⟨ok_b hb, ?_⟩, fun q => ?_⟩⟩
    · have hz : (pz_tok cs k).length = 0 := by have := pz_lew (b := 0) (by omega) q; omega
      rw [pz_ifp ⟨rfl, hz⟩] at hs
      exact tX0_keepTokens h (fun s' B' h' hK => hs rfl s' B' lf h' hK)
    · rw [pz_ifn (fun z => q (by rw [z.2]; decide))] at hf
      exact hf rfl s _ _ h
/-- THE CLASS READS a text as sp_read says -/
theorem tX2_readText {u : jx_St} (hF : pz_F (jx_sR (jx_sR u 65 0 src) 65 7 b) src b) (h66 : u.2 65 4 = 66) (hd7 : u.2 65 7 = b) (hV : pz_V cs) (hc : ∀ i, i < cs.length → u.1 src i = cs.getD i 0)
    (hs : (sp_read (pz_tok cs) days (sp_start (fun rc i => u.1 (b + rc) i) days)).1 = true → ∀ s' B' lf', pz_PS (jx_sR (jx_sR u 65 0 src) 65 7 b) cs src b days s' (sp_read (pz_tok cs) days (sp_start (fun rc i => u.1 (b + rc) i) days)).2.1 B' lf' → pz_KT (sp_read (pz_tok cs) days (sp_start (fun rc i => u.1 (b + rc) i) days)).2.2 B' (pz_can cs) → post 0 s')
    (hf : (sp_read (pz_tok cs) days (sp_start (fun rc i => u.1 (b + rc) i) days)).1 = false → ∀ s' B' lf', pz_PS (jx_sR (jx_sR u 65 0 src) 65 7 b) cs src b days s' (sp_read (pz_tok cs) days (sp_start (fun rc i => u.1 (b + rc) i) days)).2.1 B' lf' → post (nI (pz_pos cs (sp_read (pz_tok cs) days (sp_start (fun rc i => u.1 (b + rc) i) days)).2.1) + 1) s') :
    wX2_readText post 65 src (nI cs.length) days u := by
  have hb := hF.1
  have hsr := hF.2.1
  have hok : jx_ok jx_LX 5 src ∧ (jx_LX.1 src).2 = 700 := by
    rcases hsr with rfl | ⟨rfl, _⟩ | ⟨rfl, _⟩ <;> exact ⟨⟨by decide, by decide⟩, by decide⟩
  have hlen := hV.1
  unfold wX2_readText
  refine ⟨ok_rd, fun s2 e2 => ⟨hok.1, fun s4 e4 s5 e5 s7 e6 => ?_⟩⟩
  rw [hok.2, if_neg (by rw [nI_ltI (by omega) (by omega)]; omega)] at e4
  have r7 : s7.2 = (jx_sR (jx_sR u 65 0 src) 65 7 b).2 := by
    have e : s7.2 = (jx_sR u 65 0 src).2 := by rw [e6, e5, e4, e2]; rfl
    rw [e]
    funext c i
    rw [pz_r2 (v := b)]
    by_cases q : c = 65 ∧ i = 7
    · rw [if_pos q, q.1, q.2, pz_r2, if_neg (by decide)]; exact hd7
    · rw [if_neg q]
  have o7 : ∀ c i, c ≠ 65 → s7.1 c i = u.1 c i := fun c i hne => by
    rw [e6, pz_s1, if_neg (fun z => hne z.1), e5, pz_s1, if_neg (fun z => hne z.1), e4, pz_s1, if_neg (fun z => hne z.1), e2, pz_r1]
  have o1 : s7.1 65 1 = nI cs.length := by rw [e6, pz_s1, if_neg (by decide), e5, pz_s1, if_neg (by decide), e4, pz_s1, if_pos ⟨rfl, rfl⟩]
  have o5 : s7.1 65 5 = days := by rw [e6, pz_s1, if_neg (by decide), e5, pz_s1, if_pos ⟨rfl, rfl⟩]
  have o6 : s7.1 65 6 = -1 := by rw [e6, pz_s1, if_pos ⟨rfl, rfl⟩]
  have b7 : s7.2 65 7 = b := by rw [r7]; exact hF.2.2.1
  rw [b7]
  have hF' := hF
  obtain ⟨-, -, -, -, f8, -, fg⟩ := hF'
  have hDS0 : pz_DS s7 s7 b (fun rc i => u.1 (b + rc) i) := ⟨rfl, fun rc i hr => o7 (b + rc) i (by omega), fun _ _ _ => rfl⟩
  refine ⟨ok_b hb, DS_start hb (by rw [r7]; exact f8) (by rw [r7]; exact (fg 0 (by decide)).1) hDS0 (fun s10 h10 s11 e11 s12 e12 => ?_)⟩
  obtain ⟨d1, d2, d3⟩ := h10
  have q1 : ∀ c i, c ≠ 65 → s12.1 c i = s10.1 c i := fun c i hne => by rw [e12, pz_s1, if_neg (fun z => hne z.1), e11, pz_s1, if_neg (fun z => hne z.1)]
  have q2 : ∀ i, i ≠ 2 → i ≠ 3 → s12.1 65 i = s10.1 65 i := fun i n2 n3 => by rw [e12, pz_s1, if_neg (fun z => n3 z.2), e11, pz_s1, if_neg (fun z => n2 z.2)]
  have q3 : s12.1 65 2 = 0 := by rw [e12, pz_s1, if_neg (by decide), e11, pz_s1, if_pos ⟨rfl, rfl⟩]
  have q4 : s12.1 65 3 = 0 := by rw [e12, pz_s1, if_pos ⟨rfl, rfl⟩]
  have r12 : s12.2 = (jx_sR (jx_sR u 65 0 src) 65 7 b).2 := by rw [e12, e11]; exact d1.trans r7
  have hS12 : pz_S s12 cs src := by
    refine ⟨?_, ?_, hok.1, hok.2, by omega, hV, ?_, fun i hi => ?_⟩
    · rw [r12, pz_r2, if_neg (by decide), pz_r2, if_neg (by decide)]; exact h66
    · rw [r12, pz_r2, if_neg (by decide), pz_r2, if_pos ⟨rfl, rfl⟩]
    · rw [q2 1 (by decide) (by decide), d3 65 1 (by omega)]; exact o1
    · rw [q1 src i (by omega), d3 src i (by omega), o7 src i (by omega)]; exact hc i hi
  refine sX2_takeToken0 hS12 (p := 0) (by rw [q3, q4]; decide) (Nat.zero_le _) (fun s14 hm _ => ?_)
  obtain ⟨m1, m2, m3, m4, m5, m6⟩ := hm
  have hPS : pz_PS (jx_sR (jx_sR u 65 0 src) 65 7 b) cs src b days s14 0 (sp_start (fun rc i => u.1 (b + rc) i) days) (-1) := by
    have htl := pz_tok_len cs 0
    have hsl := pz_sx_len cs 0
    refine ⟨m1.trans r12, ⟨by rw [m1]; exact hS12.1, by rw [m1]; exact hS12.2.1, hok.1, hok.2, by omega, hV, by rw [m3 1 (by decide) (by decide)]; exact hS12.2.2.2.2.2.2.1, fun i hi => by rw [m2 src i (by omega) (by omega)]; exact hS12.2.2.2.2.2.2.2 i hi⟩, ⟨by rw [m1]; exact hS12.1, m5, by show (pz_tok cs 0).length ≤ 700; omega, m6⟩, m4, ?_, ?_, fun rc i hr => ?_, fun c i c1 c2 c3 => ?_, hF⟩
    · rw [m3 5 (by decide) (by decide), q2 5 (by decide) (by decide), d3 65 5 (by omega)]; exact o5
    · rw [m3 6 (by decide) (by decide), q2 6 (by decide) (by decide), d3 65 6 (by omega)]; exact o6
    · rw [m2 (b + rc) i (by omega) (by omega), q1 (b + rc) i (by omega)]; exact d2 rc i hr
    · rw [m2 c i c1 c2, q1 c i c1, d3 c i c3]; exact o7 c i c1
  have st7 : sp_start (fun rc i => u.1 (b + rc) i) days 0 7 = nI 1 := by simp [sp_start, sp_add]
  have st9 : sp_start (fun rc i => u.1 (b + rc) i) days 4 9 = -1 := sp_add_f (g := 0) (by omega) (by omega)
  generalize sp_start (fun rc i => u.1 (b + rc) i) days = B0 at hs hf hPS st7 st9
  unfold sp_read sp_all at hs hf
  refine tX2_takeHead hPS (fun e s17 h17 _ => ⟨fun z => absurd z (by decide), fun _ => ?_⟩) (fun e s17 B17 lf17 h17 _ => ⟨fun _ => ?_, fun z => absurd rfl z⟩)
  · rw [pz_ifp e] at hs hf
    have hd8 : (sp_head (pz_tok cs) days 0 B0).2.2 0 7 = nI 1 := by
      unfold sp_head sp_head2
      refine pz_ife (P := fun r : pz_Rt => r.2.2 0 7 = nI 1) (fun _ => pz_ife (P := fun r : pz_Rt => r.2.2 0 7 = nI 1) (fun _ => pz_ife (P := fun r : pz_Rt => r.2.2 0 7 = nI 1) (fun _ => ?_) (fun _ => ?_)) (fun _ => ?_)) (fun _ => pz_ife (P := fun r : pz_Rt => r.2.2 0 7 = nI 1) (fun _ => pz_ife (P := fun r : pz_Rt => r.2.2 0 7 = nI 1) (fun _ => pz_ife (P := fun r : pz_Rt => r.2.2 0 7 = nI 1) (fun _ => ?_) (fun _ => ?_)) (fun _ => ?_)) (fun _ => ?_)) <;> simp [jx_u2, pz_staB, st7]
    have hd9 : (sp_head (pz_tok cs) days 0 B0).2.2 4 9 = -1 := by
      unfold sp_head sp_head2
      refine pz_ife (P := fun r : pz_Rt => r.2.2 4 9 = -1) (fun _ => pz_ife (P := fun r : pz_Rt => r.2.2 4 9 = -1) (fun _ => pz_ife (P := fun r : pz_Rt => r.2.2 4 9 = -1) (fun _ => ?_) (fun _ => ?_)) (fun _ => ?_)) (fun _ => pz_ife (P := fun r : pz_Rt => r.2.2 4 9 = -1) (fun _ => pz_ife (P := fun r : pz_Rt => r.2.2 4 9 = -1) (fun _ => pz_ife (P := fun r : pz_Rt => r.2.2 4 9 = -1) (fun _ => ?_) (fun _ => ?_)) (fun _ => ?_)) (fun _ => ?_)) <;> simp [jx_u2, pz_staB, st9]
    rw [PS_7 h17, PS_B0 h17 0]
    unfold sp_body at hs hf
    refine ⟨ok_b hb, fun q => ?_, fun q => ?_⟩
    · rw [pz_ifn q] at hs hf
      refine tX2_takeForecast h17 rfl hd8 hd9 (fun q2 s23 lf' h23 _ => ⟨fun z => absurd z (by decide), fun _ => ?_⟩) (fun q2 s23 B' lf' h23 _ => ⟨fun _ => ?_, fun z => absurd rfl z⟩)
      · exact tX2_fin h23 (ok := true) (by rw [q2] at hs; exact hs) (by rw [q2] at hf; exact hf) rfl
      · exact tX2_fin h23 (ok := false) (fun z => by rw [pz_ifn (fun y => absurd y.1 (by decide))] at z; exact absurd z (by decide)) (by rw [q2] at hf; exact hf) rfl
    · rw [pz_ifp q] at hs hf
      refine tX2_takeReport h17 hd9 (fun q2 s23 lf' h23 _ => ⟨fun z => absurd z (by decide), fun _ => ?_⟩) (fun q2 s23 B' lf' h23 _ => ⟨fun _ => ?_, fun z => absurd rfl z⟩)
      · exact tX2_fin h23 (ok := true) (by rw [q2] at hs; exact hs) (by rw [q2] at hf; exact hf) rfl
      · exact tX2_fin h23 (ok := false) (fun z => by rw [pz_ifn (fun y => absurd y.1 (by decide))] at z; exact absurd z (by decide)) (by rw [q2] at hf; exact hf) rfl
  · have hne : ¬ (sp_head (pz_tok cs) days 0 B0).1 = true := by rw [e]; decide
    rw [pz_ifn hne] at hf
    exact tX2_fin h17 (ok := false) (fun z => by rw [pz_ifn (fun y => absurd y.1 (by decide))] at z; exact absurd z (by decide)) (by rw [e] at hf; exact hf) rfl
end PZX
