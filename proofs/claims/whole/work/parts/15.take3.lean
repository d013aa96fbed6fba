/-! ===== the Reader's takers: weather and clouds ===== -/
/-- the number of the pair x y in a row of pairs, from j on; -1 when it isn't there -/
def pz_pr (x y : Int32) : List Int32 → Nat → Int32
  | a :: b :: r, j => if x = a then (if y = b then nI j else pz_pr x y r (j + 1)) else pz_pr x y r (j + 1)
  | _, _ => -1
def pz_pair (w : List Int32) (f : Nat) (l : List Int32) : Int32 := pz_pr (pz_ch w f) (pz_ch w (f + 1)) l 0
abbrev pz_FP : List Int32 := jx_sby.getD 5 []
abbrev pz_OP : List Int32 := jx_sby.getD 6 []
def pz_sgn (w : List Int32) : Int32 := if pz_ch w 0 = 45 then 1 else if pz_ch w 0 = 43 then 2 else if pz_ch w 0 = 86 ∧ pz_ch w 1 = 67 then 3 else 0
def pz_at0 (w : List Int32) : Nat := if pz_sgn w = 0 then 0 else if pz_sgn w = 3 then 2 else 1
def pz_wfin (w : List Int32) (v : Int32) (p : Nat) (fi : Int32) (o : Nat) : Int32 := if (0 < o ∨ fi = 6) ∧ p = w.length then v else -1
def pz_wl (w : List Int32) (fi : Int32) : Nat → Int32 → Nat → Nat → Int32 → Int32
  | 0, v, p, o, _ => pz_wfin w v p fi o
  | r + 1, v, p, o, un => if w.length ≤ p then pz_wfin w v p fi o else if pz_pair w p pz_OP = -1 then -1 else pz_wl w fi r (v + (un * (pz_pair w p pz_OP + 1))) (p + 2) (o + 1) (un * 32)
/-- the number of a weather's token; -1 for none -/
def pz_wno (w : List Int32) : Int32 :=
  if pz_pair w (pz_at0 w) pz_FP = -1 then pz_wl w (-1) 3 (pz_sgn w) (pz_at0 w) 0 64
  else pz_wl w (pz_pair w (pz_at0 w) pz_FP) 3 (pz_sgn w + (4 * (pz_pair w (pz_at0 w) pz_FP + 1))) (pz_at0 w + 2) 0 64
/-- how many weather's tokens from k on, at most r -/
def pz_wn (T : Nat → List Int32) : Nat → Nat → Nat
  | _, 0 => 0
  | k, r + 1 => if pz_wno (T k) = -1 then 0 else 1 + pz_wn T (k + 1) r
def pz_wB (B : Nat → Nat → Int32) (g : Nat) (T : Nat → List Int32) (k n : Nat) : Nat → Nat → Int32 := fun rc i => if rc = 5 + 3 * g ∧ i < n then pz_wno (T (k + i)) else if rc = 4 + 3 * g ∧ i = 8 ∧ n ≠ 0 then nI n else B rc i
section PZS
variable {s0 : jx_St} {cs : List Int32} {src b : Nat} {days : Int32} {s : jx_St} {k : Nat} {B : Nat → Nat → Int32} {lf : Int32} {post : Int32 → jx_St → Prop} {g : Nat} {w : List Int32}
theorem sX2_pairAt_l (h : pz_T s w) {f t : Nat} (ht : t < 19) (hf : f + 2 ≤ 16) : ∀ (m : Nat) (r : List Int32) (j : Nat), r.length ≤ 2 * m → (jx_sby.getD t []).drop (2 * j) = r → 2 * j ≤ (jx_sby.getD t []).length → post (pz_pr (pz_ch w f) (pz_ch w (f + 1)) r j) s → wX2_pairAt_l16 post (m + 1) 65 (nI f) t (nI (2 * j)) s := by
  have hB := jx_slnB t ht
  rw [pz_slen t ht] at hB
  intro m
  induction m with
  | zero =>
    intro r j hr hd hj hp
    rw [wX2_pairAt_l16]
    have e : r = [] := by cases r with | nil => rfl | cons _ _ => simp at hr
    subst e
    have hl : (jx_sby.getD t []).length ≤ 2 * j := by simpa using hd
    refine ⟨ht, ?_⟩
    rw [pz_slen t ht, nI_1]
    exact ⟨fun _ => hp, fun z => absurd (nI_le (by omega) (by omega)) z⟩
  | succ m ih =>
    intro r j hr hd hj hp
    rw [wX2_pairAt_l16]
    refine ⟨ht, ?_⟩
    rw [pz_slen t ht, nI_1]
    match r, hr, hd, hp with
    | [], hr, hd, hp =>
      have hl : (jx_sby.getD t []).length ≤ 2 * j := by simpa using hd
      exact ⟨fun _ => hp, fun z => absurd (nI_le (by omega) (by omega)) z⟩
    | [a], hr, hd, hp =>
      have hl : (jx_sby.getD t []).length - 2 * j = 1 := by rw [← List.length_drop, hd]; rfl
      exact ⟨fun _ => hp, fun z => absurd (nI_le (by omega) (by omega)) z⟩
    | a :: c :: r, hr, hd, hp =>
      have hl : (jx_sby.getD t []).length - 2 * j = r.length + 2 := by rw [← List.length_drop, hd]; rfl
      obtain ⟨d1, d2, d3⟩ := pz_dropC hd
      obtain ⟨d4, d5, d6⟩ := pz_dropC d3
      simp only [List.length_cons] at hr
      refine ⟨fun z => absurd z (nI_ge (by omega) (by omega)), fun _ => ⟨ok_rd, ?_⟩⟩
      rw [nI_1 f, h.1, pz_cl (by omega), pz_cl (by omega), pz_cl (by omega), pz_cl (by omega), h.2.2.2 f (by omega), h.2.2.2 (f + 1) (by omega), pz_sch t ht _ d1, pz_sch t ht _ d4, d2, d5]
      rw [pz_pr] at hp
      have next : post (pz_pr (pz_ch w f) (pz_ch w (f + 1)) r (j + 1)) s → ∀ x : Int32, x = nI (2 * j) + 2 → wX2_pairAt_l16 post (m + 1) 65 (nI f) t x s := by
        intro hp2 x hx
        rw [hx, show (nI (2 * j) + 2 : Int32) = nI (2 * (j + 1)) from nI_add _ 2]
        exact ih r (j + 1) (by omega) (by rw [← d6]; rfl) (by omega) hp2
      refine ⟨ix_tk (by omega), vp_in_nI (by omega) (by omega), fun q => ?_, fun q => ⟨ix_tk (by omega), vp_in_nI (by omega) (by omega), fun q2 => ?_, fun q2 => ?_⟩⟩
      · rw [if_neg q] at hp; exact next hp
      · rw [if_pos q, if_neg q2] at hp; exact next hp
      · rw [if_pos q, if_pos q2] at hp
        rw [show (nI (2 * j) / 2 : Int32) = nI (2 * j / 2) from pk_div (d := 2) (by omega) (by omega) (by omega), show 2 * j / 2 = j by omega]
        exact hp
theorem sX2_pairAt (h : pz_T s w) (f : Nat) {a1 : Int32} {t : Nat} (e1 : a1 = nI f) (ht : t < 19) (hf : f + 2 ≤ 16) (hp : post (pz_pair w f (jx_sby.getD t [])) s) : wX2_pairAt post 65 a1 t s := by
  subst e1
  unfold wX2_pairAt
  rw [show (nI f + 2 : Int32) = nI (f + 2) from nI_add _ 2]
  exact ⟨fun q => absurd q (nI_pos (by omega)), fun _ => ⟨fun _ => ⟨(jx_sby.getD t []).length + 1, sX2_pairAt_l h ht hf _ _ 0 (by simp; omega) rfl (by omega) hp⟩, fun q => absurd (nI_le (b := 16) hf (by decide)) q⟩⟩
theorem sX2_signNumber (h : pz_T s w) (hp : post (pz_sgn w) s) : wX2_signNumber post 65 s := by
  unfold wX2_signNumber
  have e0 : s.1 66 ((0 : Int32).toNatClampNeg) = pz_ch w 0 := h.2.2.2 0 (by omega)
  have e1 : s.1 66 ((1 : Int32).toNatClampNeg) = pz_ch w 1 := h.2.2.2 1 (by omega)
  rw [h.1, e0, e1]
  unfold pz_sgn at hp
  refine ⟨ok_rd, ix_tk (i := 0) (by omega), fun q => ⟨fun q2 => ⟨fun q3 => ?_, fun q3 => ⟨ix_tk (i := 1) (by omega), fun q4 => ?_, fun q4 => ?_⟩⟩, fun q2 => ?_⟩, fun q => ?_⟩
  · rw [if_neg q, if_neg q2, if_neg (fun z => q3 z.1)] at hp; exact hp
  · rw [if_neg q, if_neg q2, if_neg (fun z => q4 z.2)] at hp; exact hp
  · rw [if_neg q, if_neg q2, if_pos ⟨q3, q4⟩] at hp; exact hp
  · rw [if_neg q, if_pos q2] at hp; exact hp
  · rw [if_pos q] at hp; exact hp
theorem pz_sgn_in (w : List Int32) : pz_sgn w = 0 ∨ pz_sgn w = 1 ∨ pz_sgn w = 2 ∨ pz_sgn w = 3 := by
  unfold pz_sgn
  by_cases h1 : pz_ch w 0 = 45
  · rw [if_pos h1]; exact Or.inr (Or.inl rfl)
  · rw [if_neg h1]
    by_cases h2 : pz_ch w 0 = 43
    · rw [if_pos h2]; exact Or.inr (Or.inr (Or.inl rfl))
    · rw [if_neg h2]
      by_cases h3 : pz_ch w 0 = 86 ∧ pz_ch w 1 = 67
      · rw [if_pos h3]; exact Or.inr (Or.inr (Or.inr rfl))
      · rw [if_neg h3]; exact Or.inl rfl
theorem sX2_wl (h : pz_T s w) {fi : Int32} : ∀ (r : Nat) (v : Int32) (p o : Nat) (un : Int32), o + r = 3 → p ≤ 4 + 2 * o → post (pz_wl w fi r v p o un) s → wX2_weatherNumber_l55 post (r + 1) 65 v (nI p) fi (nI o) un s := by
  have hlen := h.2.2.1
  have k128 : ∀ (v : Int32) (p : Nat) (k0 : Int32) (o : Nat), p < 1000 → (k0 = 0 ↔ ¬ (0 < o ∨ fi = 6)) → post (pz_wfin w v p fi o) s → wX2_weatherNumber_b128 post 65 v (nI p) k0 s := by
    intro v p k0 o hp0 hk hp
    unfold wX2_weatherNumber_b128
    unfold pz_wfin at hp
    rw [h.2.1]
    refine ⟨fun q => ?_, fun q => ⟨ok_rd, fun q2 => ?_, fun q2 => ?_⟩⟩
    · rw [if_neg (fun z => hk.mp q z.1)] at hp; exact hp
    · rw [if_neg (fun z => q2 (by rw [z.2]))] at hp; exact hp
    · rw [if_pos ⟨by by_cases z : 0 < o ∨ fi = 6; exact z; exact absurd (hk.mpr z) q, (nI_eq (by omega) (by omega)).mp q2⟩] at hp; exact hp
  have k112 : ∀ (v : Int32) (p o : Nat), p < 1000 → o < 1000 → post (pz_wfin w v p fi o) s → wX2_weatherNumber_b112 post 65 v (nI p) fi (nI o) s := by
    intro v p o hp0 ho hp
    unfold wX2_weatherNumber_b112
    refine ⟨fun q => k128 v p 1 o hp0 ⟨fun z => absurd z (by decide), fun z => absurd (Or.inl ((nI_ltI (a := 0) (by omega) (by omega)).mp q)) z⟩ hp, fun q => ⟨fun q2 => k128 v p 0 o hp0 ⟨fun _ z => z.elim (fun y => q (nI_lt (a := 0) y (by omega))) q2, fun _ => rfl⟩ hp, fun q2 => k128 v p 1 o hp0 ⟨fun z => absurd z (by decide), fun z => absurd (Or.inr q2) z⟩ hp⟩⟩
  intro r
  induction r with
  | zero =>
    intro v p o un ho hpo hp
    rw [wX2_weatherNumber_l55]
    exact ⟨fun _ => k112 v p o (by omega) (by omega) hp, fun z => absurd (nI_le (a := 3) (by omega) (by omega)) z⟩
  | succ r ih =>
    intro v p o un ho hpo hp
    rw [wX2_weatherNumber_l55]
    rw [pz_wl] at hp
    rw [h.2.1]
    refine ⟨fun z => absurd z (nI_ge (b := 3) (by omega) (by omega)), fun _ => ⟨ok_rd, fun q => ?_, fun q => sX2_pairAt h p rfl (by decide) (by omega) ⟨fun q2 x1 e1 x2 e2 x3 e3 x4 e4 => ?_, fun q2 => ?_⟩⟩⟩
    · rw [if_pos (pz_lew (by omega) q)] at hp; exact k112 v p o (by omega) (by omega) hp
    · rw [if_neg (fun z => q (nI_le z (by omega))), if_neg q2] at hp
      rw [e1, e2, e3, e4, nI_1, show (nI p + 2 : Int32) = nI (p + 2) from nI_add _ 2]
      exact ih _ _ _ _ (by omega) (by omega) hp
    · rw [if_neg (fun z => q (nI_le z (by omega))), if_pos q2] at hp; exact hp
theorem sX2_weatherNumber (h : pz_T s w) (hp : post (pz_wno w) s) : wX2_weatherNumber post 65 s := by
  have k23 : ∀ a0 : Int32, a0 = nI (pz_at0 w) → wX2_weatherNumber_b23 post 65 (pz_sgn w) a0 s := by
    intro a0 e0
    subst e0
    have hat : pz_at0 w ≤ 2 := by unfold pz_at0; split <;> (try split) <;> omega
    unfold wX2_weatherNumber_b23
    refine ⟨ok_rd, sX2_pairAt h (pz_at0 w) rfl (by decide) (by omega) ?_⟩
    unfold pz_wno at hp
    refine ⟨fun q => ⟨4, ?_⟩, fun q x1 e1 x2 e2 => ⟨4, ?_⟩⟩
    · rw [if_pos q] at hp
      rw [q]
      exact sX2_wl h 3 _ _ 0 _ (by omega) (by omega) hp
    · rw [if_neg q] at hp
      rw [e1, e2, show (nI (pz_at0 w) + 2 : Int32) = nI (pz_at0 w + 2) from nI_add _ 2]
      exact sX2_wl h 3 _ _ 0 _ (by omega) (by omega) hp
  unfold wX2_weatherNumber
  refine ⟨ok_rd, sX2_signNumber h ⟨fun q => ⟨fun q2 => k23 1 ?_, fun q2 => k23 2 ?_⟩, fun q => k23 0 ?_⟩⟩
  · unfold pz_at0; rw [if_neg q, if_neg q2]; rfl
  · unfold pz_at0; rw [if_neg q, if_pos q2]; rfl
  · unfold pz_at0; rw [if_pos q]; rfl
theorem PS_10 (h : pz_PS s0 cs src b days s k B lf) (hg : g < 9) : s.2 (b + 4 + 3 * g) 10 = b + 5 + 3 * g := by rw [h.1]; exact (h.2.2.2.2.2.2.2.2.2.2.2.2.2.2 g hg).2.1
theorem PS_11 (h : pz_PS s0 cs src b days s k B lf) (hg : g < 9) : s.2 (b + 4 + 3 * g) 11 = b + 6 + 3 * g := by rw [h.1]; exact (h.2.2.2.2.2.2.2.2.2.2.2.2.2.2 g hg).2.2
variable {postv : jx_St → Prop}
theorem sX1_addWeather (h : pz_PS s0 cs src b days s k B lf) (hg : g < 9) {n : Nat} (hn : n < 3) (hc : B (4 + 3 * g) 8 = nI n ∨ (n = 0 ∧ B (4 + 3 * g) 8 = -1)) {v : Int32} (hp : ∀ s' : jx_St, pz_PS s0 cs src b days s' k (jx_u2 (jx_u2 B (5 + 3 * g) n v) (4 + 3 * g) 8 (nI (n + 1))) lf → postv s') : wX1_addWeather postv (b + 4 + 3 * g) v s := by
  have hb := PS_b h
  unfold wX1_addWeather
  rw [PS_Bg h 8 hg, PS_10 h hg]
  refine ⟨ok_g hb hg, fun x ex => ?_⟩
  have e : x = nI n := by
    rw [ex]
    rcases hc with q | ⟨q1, q2⟩
    · rw [q, if_neg (nI_pos (by omega))]
    · rw [q2, q1]; rfl
  subst e
  refine ⟨fun z => absurd z (nI_ge (b := 3) (by omega) (by omega)), fun _ => ⟨⟨(ok_gw hb hg).1, by rw [(ok_gw hb hg).2]; exact vp_in_nI hn (by decide)⟩, fun s1 e1 s2 e2 => hp s2 ?_⟩⟩
  rw [pz_cl (by omega)] at e1
  have h1 := PS_set h (rc := 5 + 3 * g) n v (by omega)
  rw [← Nat.add_assoc, ← e1] at h1
  have h2 := PS_setg h1 8 (nI (n + 1)) hg
  rw [← nI_1, ← e2, nI_1] at h2
  exact h2
theorem sX2_takeWeathers_l {N : Nat} (hg : g < 9) (hB0 : B (4 + 3 * g) 8 = 0 ∨ B (4 + 3 * g) 8 = -1) (hp : ∀ s' : jx_St, pz_PS s0 cs src b days s' (k + N) (pz_wB B g (pz_tok cs) k (N)) lf → postv s') :
    ∀ (r i : Nat) (s : jx_St), i + r = 3 → N = i + pz_wn (pz_tok cs) (k + i) r → pz_PS s0 cs src b days s (k + i) (pz_wB B g (pz_tok cs) k i) lf → wX2_takeWeathers_l2 postv (r + 1) 65 (b + 4 + 3 * g) (nI i) s := by
  intro r
  induction r with
  | zero =>
    intro i s hi hn h
    rw [wX2_takeWeathers_l2]
    rw [pz_wn, Nat.add_zero] at hn
    rw [hn] at hp
    exact ⟨fun _ => hp s h, fun z => absurd (nI_le (a := 3) (by omega) (by omega)) z⟩
  | succ r ih =>
    intro i s hi hn h
    have hb := PS_b h
    rw [wX2_takeWeathers_l2]
    refine ⟨fun z => absurd z (nI_ge (b := 3) (by omega) (by omega)), fun _ => ⟨ok_rd, sX2_weatherNumber (PS_T h) ⟨fun q => ⟨ok_g hb hg, ?_⟩, fun q => ?_⟩⟩⟩
    · rw [pz_wn, if_neg q] at hn
      refine sX1_addWeather h hg (n := i) (by omega) ?_ (fun s1 h1 => sX2_takeToken h1 (fun s2 h2 _ x ex => ?_))
      · by_cases qi : i = 0
        · subst qi
          rcases hB0 with z | z
          · left; simp [pz_wB]; rw [z]; rfl
          · right; simp [pz_wB]; exact z
        · left; simp [pz_wB, qi]
      · rw [ex, nI_1]
        refine ih (i + 1) s2 (by omega) (by rw [hn, Nat.add_assoc, Nat.add_assoc]) ?_
        have e : jx_u2 (jx_u2 (pz_wB B g (pz_tok cs) k i) (5 + 3 * g) i (pz_wno (pz_tok cs (k + i)))) (4 + 3 * g) 8 (nI (i + 1)) = pz_wB B g (pz_tok cs) k (i + 1) := by
          funext rc x
          unfold jx_u2 pz_wB
          by_cases q1 : rc = 5 + 3 * g
          · have q1' : ¬ rc = 4 + 3 * g := by omega
            by_cases q2 : x = i
            · subst q2; simp [q1, q1']
            · have : x < i ↔ x < i + 1 := by omega
              simp [q1, q1', q2, this]
          · by_cases q3 : rc = 4 + 3 * g
            · by_cases q4 : x = 8
              · simp [q3, q4]
              · simp [q1, q3, q4]
            · simp [q1, q3]
        rw [← e]
        exact h2
    · rw [pz_wn, if_pos q, Nat.add_zero] at hn
      rw [hn] at hp
      exact hp s h
theorem sX2_takeWeathers (h : pz_PS s0 cs src b days s k B lf) (hg : g < 9) (hB0 : B (4 + 3 * g) 8 = 0 ∨ B (4 + 3 * g) 8 = -1) (hp : ∀ s' : jx_St, pz_PS s0 cs src b days s' (k + pz_wn (pz_tok cs) k 3) (pz_wB B g (pz_tok cs) k (pz_wn (pz_tok cs) k 3)) lf → postv s') : wX2_takeWeathers postv 65 (b + 4 + 3 * g) s := by
  unfold wX2_takeWeathers
  refine ⟨4, sX2_takeWeathers_l hg hB0 hp 3 0 s (by omega) (by rw [Nat.zero_add, Nat.add_zero]) ?_⟩
  have e : pz_wB B g (pz_tok cs) k 0 = B := by funext rc x; simp [pz_wB]
  rw [e]; exact h
end PZS
