/-! ===== clouds ===== -/
def pz_tr (x y z : Int32) : List Int32 → Nat → Int32
  | a :: b :: c :: r, j => if x = a then (if y = b then (if z = c then nI j else pz_tr x y z r (j + 1)) else pz_tr x y z r (j + 1)) else pz_tr x y z r (j + 1)
  | _, _ => -1
abbrev pz_AL : List Int32 := jx_sby.getD 11 []
def pz_am (w : List Int32) : Int32 := pz_tr (pz_ch w 0) (pz_ch w 1) (pz_ch w 2) pz_AL 0
def pz_stm (w : List Int32) : Prop := w.length = 8 ∧ pz_hold w 6 [67, 66] = true
def pz_tow (w : List Int32) : Prop := w.length = 9 ∧ pz_hold w 6 [84, 67, 85] = true
def pz_tail (w : List Int32) : Int32 := if w.length = 8 ∧ pz_hold w 6 [67, 66] = true then 1 else if w.length = 9 ∧ pz_hold w 6 [84, 67, 85] = true then 2 else 0
/-- the number of a layer's token; -1 for none -/
def pz_lay (w : List Int32) : Int32 :=
  if pz_dig w 3 3 = -1 then -1 else if ¬ w.length = 6 ∧ pz_tail w = 0 then -1 else if pz_am w = -1 then -1 else (((pz_am w + 1) + (8 * pz_dig w 3 3)) + (8192 * pz_tail w))
abbrev pz_hgt (n : Int32) : Int32 := ((n >>> (3 &&& 31)) &&& 1023)
/-- how many layers from token k on, at most r, none lower than lo -/
def pz_cn (T : Nat → List Int32) : Nat → Int32 → Nat → Nat
  | _, _, 0 => 0
  | k, lo, r + 1 => if pz_lay (T k) = -1 then 0 else if lo ≤ pz_hgt (pz_lay (T k)) then 1 + pz_cn T (k + 1) (pz_hgt (pz_lay (T k))) r else 0
def pz_cB (B : Nat → Nat → Int32) (g : Nat) (T : Nat → List Int32) (k n : Nat) : Nat → Nat → Int32 := fun rc i => if rc = 6 + 3 * g ∧ i < n then pz_lay (T (k + i)) else if rc = 4 + 3 * g ∧ i = 9 ∧ n ≠ 0 then nI n else B rc i
theorem pz_nm1 {j : Nat} (h : j < 2 ^ 31) : ¬ nI j = -1 := by
  intro e
  have := congrArg Int32.toInt e
  rw [nI_toInt h] at this
  simp at this
section PZT
variable {s0 : jx_St} {cs : List Int32} {src b : Nat} {days : Int32} {s : jx_St} {k : Nat} {B : Nat → Nat → Int32} {lf : Int32} {post : Int32 → jx_St → Prop} {g : Nat} {w : List Int32} {postv : jx_St → Prop}
theorem sX2_lay_l (h : pz_T s w) {a1 a4 : Int32} : ∀ (m : Nat) (r : List Int32) (j : Nat), r.length ≤ 3 * m → pz_AL.drop (3 * j) = r → 3 * j ≤ 12 → post (if pz_tr (pz_ch w 0) (pz_ch w 1) (pz_ch w 2) r j = -1 then -1 else (((pz_tr (pz_ch w 0) (pz_ch w 1) (pz_ch w 2) r j + 1) + (8 * a1)) + (8192 * a4))) s → wX2_layerNumber_l105 post (m + 1) 65 a1 a4 (nI (3 * j)) s := by
  have hAL : pz_AL.length = 12 := rfl
  have t0 : s.1 66 ((0 : Int32).toNatClampNeg) = pz_ch w 0 := h.2.2.2 0 (by omega)
  have t1 : s.1 66 ((1 : Int32).toNatClampNeg) = pz_ch w 1 := h.2.2.2 1 (by omega)
  have t2 : s.1 66 ((2 : Int32).toNatClampNeg) = pz_ch w 2 := h.2.2.2 2 (by omega)
  intro m
  induction m with
  | zero =>
    intro r j hr hd hj hp
    rw [wX2_layerNumber_l105]
    have e : r = [] := by cases r with | nil => rfl | cons _ _ => simp at hr
    subst e
    have hl : pz_AL.length ≤ 3 * j := by simpa using hd
    rw [show (nI (3 * j) + 2 : Int32) = nI (3 * j + 2) from nI_add _ 2, show nI (jx_sln.getD 11 0) = nI 12 from rfl]
    exact ⟨fun _ => hp, fun z => absurd (nI_le (by omega) (by omega)) z⟩
  | succ m ih =>
    intro r j hr hd hj hp
    rw [wX2_layerNumber_l105]
    rw [show (nI (3 * j) + 2 : Int32) = nI (3 * j + 2) from nI_add _ 2, show nI (jx_sln.getD 11 0) = nI 12 from rfl, nI_1]
    match r, hr, hd, hp with
    | [], hr, hd, hp =>
      have hl : pz_AL.length ≤ 3 * j := by simpa using hd
      exact ⟨fun _ => hp, fun z => absurd (nI_le (by omega) (by omega)) z⟩
    | [a], hr, hd, hp =>
      have hl : pz_AL.length - 3 * j = 1 := by rw [← List.length_drop, hd]; rfl
      exact ⟨fun _ => hp, fun z => absurd (nI_le (by omega) (by omega)) z⟩
    | [a, a'], hr, hd, hp =>
      have hl : pz_AL.length - 3 * j = 2 := by rw [← List.length_drop, hd]; rfl
      exact ⟨fun _ => hp, fun z => absurd (nI_le (by omega) (by omega)) z⟩
    | a :: c :: d :: r, hr, hd, hp =>
      have hl : pz_AL.length - 3 * j = r.length + 3 := by rw [← List.length_drop, hd]; rfl
      obtain ⟨d1, d2, d3⟩ := pz_dropC hd
      obtain ⟨d4, d5, d6⟩ := pz_dropC d3
      obtain ⟨d7, d8, d9⟩ := pz_dropC d6
      simp only [List.length_cons] at hr
      refine ⟨fun z => absurd z (nI_ge (by omega) (by omega)), fun _ => ⟨ok_rd, ?_⟩⟩
      rw [h.1, t0, t1, t2, pz_cl (by omega), pz_cl (by omega), pz_cl (by omega), pz_sch 11 (by decide) _ d1, pz_sch 11 (by decide) _ d4, pz_sch 11 (by decide) _ d7, d2, d5, d8]
      rw [pz_tr] at hp
      have next : post (if pz_tr (pz_ch w 0) (pz_ch w 1) (pz_ch w 2) r (j + 1) = -1 then -1 else (((pz_tr (pz_ch w 0) (pz_ch w 1) (pz_ch w 2) r (j + 1) + 1) + (8 * a1)) + (8192 * a4))) s → ∀ x : Int32, x = nI (3 * j) + 3 → wX2_layerNumber_l105 post (m + 1) 65 a1 a4 x s := by
        intro hp2 x hx
        rw [hx, show (nI (3 * j) + 3 : Int32) = nI (3 * (j + 1)) from nI_add _ 3]
        exact ih r (j + 1) (by omega) (by rw [← d9]; rfl) (by omega) hp2
      refine ⟨ix_tk (i := 0) (by omega), vp_in_nI (show 3 * j < 12 by omega) (by decide), fun q => ?_, fun q => ⟨ix_tk (i := 1) (by omega), vp_in_nI (show 3 * j + 1 < 12 by omega) (by decide), fun q2 => ?_, fun q2 => ⟨ix_tk (i := 2) (by omega), vp_in_nI (show 3 * j + 2 < 12 by omega) (by decide), fun q3 => ?_, fun q3 => ?_⟩⟩⟩
      · rw [if_neg q] at hp; exact next hp
      · rw [if_pos q, if_neg q2] at hp; exact next hp
      · rw [if_pos q, if_pos q2, if_neg q3] at hp; exact next hp
      · rw [if_pos q, if_pos q2, if_pos q3, if_neg (pz_nm1 (by omega))] at hp
        rw [show (nI (3 * j) / 3 : Int32) = nI (3 * j / 3) from pk_div (d := 3) (by omega) (by omega) (by omega), show 3 * j / 3 = j by omega]
        exact hp
theorem pz_tail_st {w : List Int32} : pz_stm w → pz_tail w = 1 := fun h => by unfold pz_tail; exact if_pos h
theorem pz_tail_tw {w : List Int32} : ¬ pz_stm w → pz_tow w → pz_tail w = 2 := fun h h2 => by unfold pz_tail; exact (if_neg h).trans (if_pos h2)
theorem pz_tail_no {w : List Int32} : ¬ pz_stm w → ¬ pz_tow w → pz_tail w = 0 := fun h h2 => by unfold pz_tail; exact (if_neg h).trans (if_neg h2)
theorem sX2_layerNumber (h : pz_T s w) (hp : post (pz_lay w) s) : wX2_layerNumber post 65 s := by
  have hlen := h.2.2.1
  have k83 : pz_dig w 3 3 ≠ -1 → ¬ (¬ w.length = 6 ∧ pz_tail w = 0) → ∀ a2 a3 : Int32, (a2 = 0 ↔ ¬ pz_stm w) → (a3 = 0 ↔ ¬ pz_tow w) → wX2_layerNumber_b83 post 65 (pz_dig w 3 3) a2 a3 s := by
    intro hd hl a2 a3 h2 h3
    unfold wX2_layerNumber_b83
    unfold pz_lay at hp
    rw [if_neg hd, if_neg hl] at hp
    have key := fun (a4 : Int32) (e : pz_tail w = a4) => sX2_lay_l (post := post) h (a1 := pz_dig w 3 3) (a4 := a4) 4 pz_AL 0 (by decide) rfl (by decide) (by rw [← e]; exact hp)
    refine ⟨fun q => ⟨fun q2 => ⟨5, key 0 (pz_tail_no (h2.mp q) (h3.mp q2))⟩, fun q2 => ⟨5, key 2 (pz_tail_tw (h2.mp q) ?_)⟩⟩, fun q => ⟨5, key 1 (pz_tail_st ?_)⟩⟩
    · by_cases z : pz_tow w
      · exact z
      · exact absurd (h3.mpr z) q2
    · by_cases z : pz_stm w
      · exact z
      · exact absurd (h2.mpr z) q
  have k58 : ∀ a2 a3 : Int32, (a2 = 0 ↔ ¬ pz_stm w) → (a3 = 0 ↔ ¬ pz_tow w) → wX2_layerNumber_b58 post 65 (pz_dig w 3 3) a2 a3 s := by
    intro a2 a3 h2 h3
    unfold wX2_layerNumber_b58
    have hp0 := hp
    unfold pz_lay at hp0
    rw [h.2.1]
    refine ⟨fun q => ?_, fun q => ⟨ok_rd, fun q2 => k83 q (fun z => z.1 ((nI_eq (b := 6) (by omega) (by omega)).mp q2)) a2 a3 h2 h3, fun q2 => ⟨fun q3 => k83 q (fun z => ?_) a2 a3 h2 h3, fun q3 => ⟨fun q4 => k83 q (fun z => ?_) a2 a3 h2 h3, fun q4 => ?_⟩⟩⟩⟩
    · rw [if_pos q] at hp0; exact hp0
    · have hst : pz_stm w := by
        by_cases y : pz_stm w
        · exact y
        · exact absurd (h2.mpr y) q3
      rw [pz_tail_st hst] at z; exact absurd z.2 (by decide)
    · have htw : pz_tow w := by
        by_cases y : pz_tow w
        · exact y
        · exact absurd (h3.mpr y) q4
      rw [pz_tail_tw (h2.mp q3) htw] at z; exact absurd z.2 (by decide)
    · rw [if_neg q, if_pos ⟨fun z => q2 (by rw [z]; rfl), pz_tail_no (h2.mp q3) (h3.mp q4)⟩] at hp0; exact hp0
  have k32 : ∀ a2 : Int32, (a2 = 0 ↔ ¬ pz_stm w) → wX2_layerNumber_b32 post 65 (pz_dig w 3 3) a2 s := by
    intro a2 h2
    unfold wX2_layerNumber_b32
    rw [h.2.1]
    refine ⟨ok_rd, fun q => k58 a2 0 h2 ⟨fun _ z => q (by rw [z.1]; rfl), fun _ => rfl⟩, fun q => sX2_holds h 6 rfl (by decide) (by decide) ?_⟩
    have e : w.length = 9 := (nI_eq (b := 9) (by omega) (by omega)).mp q
    intro _
    rw [show jx_sby.getD 10 [] = [84, 67, 85] from rfl]
    by_cases z : pz_hold w 6 [84, 67, 85] = true
    · rw [if_pos z]; exact ⟨fun y => absurd y (by decide), fun _ => k58 a2 1 h2 ⟨fun y => absurd y (by decide), fun y => absurd ⟨e, z⟩ y⟩⟩
    · rw [if_neg z]; exact ⟨fun _ => k58 a2 0 h2 ⟨fun _ y => z y.2, fun _ => rfl⟩, fun y => absurd rfl y⟩
  unfold wX2_layerNumber
  refine ⟨ok_rd, sX2_digits h 3 3 rfl rfl (by omega) ?_⟩
  rw [h.2.1]
  refine ⟨fun q => k32 0 ⟨fun _ z => q (by rw [z.1]; rfl), fun _ => rfl⟩, fun q => sX2_holds h 6 rfl (by decide) (by decide) ?_⟩
  have e : w.length = 8 := (nI_eq (b := 8) (by omega) (by omega)).mp q
  intro _
  rw [show jx_sby.getD 9 [] = [67, 66] from rfl]
  by_cases z : pz_hold w 6 [67, 66] = true
  · rw [if_pos z]; exact ⟨fun y => absurd y (by decide), fun _ => k32 1 ⟨fun y => absurd y (by decide), fun y => absurd ⟨e, z⟩ y⟩⟩
  · rw [if_neg z]; exact ⟨fun _ => k32 0 ⟨fun _ y => z y.2, fun _ => rfl⟩, fun y => absurd rfl y⟩
theorem sX1_addCloud (h : pz_PS s0 cs src b days s k B lf) (hg : g < 9) {n : Nat} (hn : n < 4) (hc : B (4 + 3 * g) 9 = nI n ∨ (n = 0 ∧ B (4 + 3 * g) 9 = -1)) {v : Int32} (hp : ∀ s' : jx_St, pz_PS s0 cs src b days s' k (jx_u2 (jx_u2 B (6 + 3 * g) n v) (4 + 3 * g) 9 (nI (n + 1))) lf → postv s') : wX1_addCloud postv (b + 4 + 3 * g) v s := by
  have hb := PS_b h
  unfold wX1_addCloud
  rw [PS_Bg h 9 hg, PS_11 h hg]
  refine ⟨ok_g hb hg, fun x ex => ?_⟩
  have e : x = nI n := by
    rw [ex]
    rcases hc with q | ⟨q1, q2⟩
    · rw [q, if_neg (nI_pos (by omega))]
    · rw [q2, q1]; rfl
  subst e
  refine ⟨fun z => absurd z (nI_ge (b := 4) (by omega) (by omega)), fun _ => ⟨⟨(ok_gc hb hg).1, by rw [(ok_gc hb hg).2]; exact vp_in_nI hn (by decide)⟩, fun s1 e1 s2 e2 => hp s2 ?_⟩⟩
  rw [pz_cl (by omega)] at e1
  have h1 := PS_set h (rc := 6 + 3 * g) n v (by omega)
  rw [← Nat.add_assoc, ← e1] at h1
  have h2 := PS_setg h1 9 (nI (n + 1)) hg
  rw [← nI_1, ← e2, nI_1] at h2
  exact h2
theorem sX2_takeClouds_l {N : Nat} (hg : g < 9) (hB0 : B (4 + 3 * g) 9 = -1) (hp : N ≠ 0 → ∀ s' : jx_St, pz_PS s0 cs src b days s' (k + N) (pz_cB B g (pz_tok cs) k N) lf → post 1 s') :
    ∀ (r i : Nat) (lo : Int32) (s : jx_St), i + r = 4 → N = i + pz_cn (pz_tok cs) (k + i) lo r → (N = 0 → post 0 s) → pz_PS s0 cs src b days s (k + i) (pz_cB B g (pz_tok cs) k i) lf → wX2_takeClouds_l66 post (r + 1) 65 (b + 4 + 3 * g) lo (nI i) s := by
  intro r
  induction r with
  | zero =>
    intro i lo s hi hn hz h
    rw [wX2_takeClouds_l66]
    rw [pz_cn, Nat.add_zero] at hn
    rw [hn] at hp
    exact ⟨fun _ => hp (by omega) s h, fun z => absurd (nI_le (a := 4) (by omega) (by omega)) z⟩
  | succ r ih =>
    intro i lo s hi hn hz h
    have hb := PS_b h
    have stop : N = i → ((nI i ≤ 0 → post 0 s) ∧ (¬ nI i ≤ 0 → post 1 s)) := by
      intro e
      rw [e] at hp hz
      refine ⟨fun q => hz ?_, fun q => hp (fun z => q (by rw [z]; decide)) s h⟩
      have := pz_lew (a := i) (b := 0) (by omega) q
      omega
    rw [wX2_takeClouds_l66]
    refine ⟨fun z => absurd z (nI_ge (b := 4) (by omega) (by omega)), fun _ => ⟨ok_rd, sX2_layerNumber (PS_T h) ⟨fun q => ?_, fun q => ?_⟩⟩⟩
    · rw [pz_cn, if_pos q, Nat.add_zero] at hn
      exact stop hn
    · unfold wX1_heightOf
      refine ⟨fun q2 => ⟨ok_g hb hg, ?_⟩, fun q2 => ?_⟩
      · rw [pz_cn, if_neg q, if_pos q2] at hn
        refine sX1_addCloud h hg (n := i) (by omega) ?_ (fun s1 h1 => sX2_takeToken h1 (fun s2 h2 _ x ex => ?_))
        · by_cases qi : i = 0
          · subst qi
            right; simp [pz_cB]; exact hB0
          · left; simp [pz_cB, qi]
        · rw [ex, nI_1]
          refine ih (i + 1) _ s2 (by omega) (by rw [hn, Nat.add_assoc, Nat.add_assoc]) (fun z => by omega) ?_
          have e : jx_u2 (jx_u2 (pz_cB B g (pz_tok cs) k i) (6 + 3 * g) i (pz_lay (pz_tok cs (k + i)))) (4 + 3 * g) 9 (nI (i + 1)) = pz_cB B g (pz_tok cs) k (i + 1) := by
            funext rc x
            unfold jx_u2 pz_cB
            by_cases q1 : rc = 6 + 3 * g
            · have q1' : ¬ rc = 4 + 3 * g := by omega
              by_cases q2 : x = i
              · subst q2; simp [q1, q1']
              · have : x < i ↔ x < i + 1 := by omega
                simp [q1, q1', q2, this]
            · by_cases q3 : rc = 4 + 3 * g
              · by_cases q4 : x = 9
                · simp [q3, q4]
                · simp [q1, q3, q4]
              · simp [q1, q3]
          rw [← e]
          exact h2
      · rw [pz_cn, if_neg q, if_neg q2, Nat.add_zero] at hn
        exact stop hn
/-- VVddd -/
def pz_vv (w : List Int32) : Prop := pz_hold w 0 [86, 86] = true ∧ w.length = 5 ∧ pz_dig w 2 3 ≠ -1
def pz_vvB (B : Nat → Nat → Int32) (g : Nat) (w : List Int32) : Nat → Nat → Int32 := jx_u2 (jx_u2 B (6 + 3 * g) 0 (5 + (8 * pz_dig w 2 3))) (4 + 3 * g) 9 1
theorem sX2_takeClouds (h : pz_PS s0 cs src b days s k B lf) (hg : g < 9) (hB0 : B (4 + 3 * g) 9 = -1)
    (h1 : (pz_tok cs k) = [78, 83, 67] → ∀ s' : jx_St, pz_PS s0 cs src b days s' (k + 1) (jx_u2 B (4 + 3 * g) 9 0) lf → post 1 s')
    (h2 : (pz_tok cs k) ≠ [78, 83, 67] → pz_vv (pz_tok cs k) → ∀ s' : jx_St, pz_PS s0 cs src b days s' (k + 1) (pz_vvB B g (pz_tok cs k)) lf → post 1 s')
    (h3 : (pz_tok cs k) ≠ [78, 83, 67] → ¬ pz_vv (pz_tok cs k) → pz_cn (pz_tok cs) k 0 4 ≠ 0 → ∀ s' : jx_St, pz_PS s0 cs src b days s' (k + pz_cn (pz_tok cs) k 0 4) (pz_cB B g (pz_tok cs) k (pz_cn (pz_tok cs) k 0 4)) lf → post 1 s')
    (h4 : (pz_tok cs k) ≠ [78, 83, 67] → ¬ pz_vv (pz_tok cs k) → pz_cn (pz_tok cs) k 0 4 = 0 → post 0 s) : wX2_takeClouds post 65 (b + 4 + 3 * g) s := by
  have hb := PS_b h
  have hlen := (PS_T h).2.2.1
  unfold wX2_takeClouds
  refine ⟨ok_rd, sX2_takeWord h (by decide) (by decide) (fun e s1 g1 _ => ⟨fun z => absurd z (by decide), fun _ => ⟨ok_g hb hg, fun s2 e2 => ?_⟩⟩) (fun e _ => ⟨fun _ => ?_, fun z => absurd rfl z⟩)⟩
  · have g2 := PS_setg g1 9 0 hg
    rw [← e2] at g2
    exact h1 e s2 g2
  · have e : (pz_tok cs k) ≠ [78, 83, 67] := e
    refine sX2_digits (PS_T h) 2 3 rfl rfl (by omega) (sX2_holds (PS_T h) 0 rfl (by decide) (by decide) ?_)
    intro _
    rw [show jx_sby.getD 8 [] = [86, 86] from rfl, PS_w h]
    have loop : ¬ pz_vv (pz_tok cs k) → ∃ n_ : Nat, wX2_takeClouds_l66 post n_ 65 (b + 4 + 3 * g) 0 0 s := by
      intro hv
      refine ⟨5, sX2_takeClouds_l (B := B) (N := pz_cn (pz_tok cs) k 0 4) hg hB0 (fun z => h3 e hv z) 4 0 0 s (by omega) (by rw [Nat.zero_add, Nat.add_zero]) (fun z => h4 e hv z) ?_⟩
      have eB : pz_cB B g (pz_tok cs) k 0 = B := by funext rc x; simp [pz_cB]
      rw [eB]; exact h
    by_cases hh : pz_hold (pz_tok cs k) 0 [86, 86] = true
    · rw [if_pos hh]
      refine ⟨fun z => absurd z (by decide), fun _ => ⟨fun q => loop (fun z => q (by rw [z.2.1]; rfl)), fun q => ⟨fun q2 => loop (fun z => z.2.2 q2), fun q2 => ⟨ok_g hb hg, ?_⟩⟩⟩⟩
      have el : (pz_tok cs k).length = 5 := (nI_eq (b := 5) (by omega) (by omega)).mp q
      exact sX1_addCloud h hg (n := 0) (by omega) (Or.inr ⟨rfl, hB0⟩) (fun s1 g1 => sX2_takeToken g1 (fun s2 g2 _ => h2 e ⟨hh, el, q2⟩ s2 g2))
    · rw [if_neg hh]
      exact ⟨fun _ => loop (fun z => hh z.1), fun z => absurd rfl z⟩
end PZT
