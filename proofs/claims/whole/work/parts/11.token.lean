/-! ===== tokens of a text, and the Reader's way from one to the next ===== -/
def pz_bl (x : Int32) : Bool := decide (x = 32)
def pz_nb (x : Int32) : Bool := !decide (x = 32)
/-- what is left of the text from its k-th token on -/
def pz_sx (cs : List Int32) : Nat → List Int32
  | 0 => cs.dropWhile pz_bl
  | k + 1 => ((pz_sx cs k).dropWhile pz_nb).dropWhile pz_bl
def pz_tok (cs : List Int32) (k : Nat) : List Int32 := (pz_sx cs k).takeWhile pz_nb
def pz_pos (cs : List Int32) (k : Nat) : Nat := cs.length - (pz_sx cs k).length
def pz_V (cs : List Int32) : Prop := cs.length ≤ 700 ∧ ∀ x ∈ cs, (32 : Int32) ≤ x ∧ x ≤ 126
theorem pz_nar {x : Int32} (h : (32 : Int32) ≤ x ∧ x ≤ 126) : vp_nar .char x = x := by
  obtain ⟨j, hj, rfl⟩ := nI_of2 (M := 126) (n := 126) (by decide) (x := x) (by
    intro h0
    have h1 := Int32.lt_of_lt_of_le h0 (Int32.le_trans (show (0 : Int32) ≤ 32 by decide) h.1)
    exact absurd h1 (Int32.lt_irrefl)) h.2
  have e := (pk_charN (q := j) (by omega)).1
  unfold vp_nar
  rw [e]
theorem pz_nar0 : vp_nar .char 0 = 0 := by decide
/-- the Reader's source is cell src and holds cs -/
def pz_S (s : jx_St) (cs : List Int32) (src : Nat) : Prop := s.2 65 4 = 66 ∧ s.2 65 0 = src ∧ jx_ok jx_LX 5 src ∧ (jx_LX.1 src).2 = 700 ∧ src ≠ 66 ∧ pz_V cs ∧ s.1 65 1 = nI cs.length ∧ ∀ i, i < cs.length → s.1 src i = cs.getD i 0
theorem pz_nle {a b : Nat} (hb : b < 2 ^ 31) (h : ¬ nI a ≤ nI b) : b < a := by
  rcases Nat.lt_or_ge b a with q | q
  · exact q
  · exact absurd (nI_le q hb) h
theorem pz_lew {a b : Nat} (ha : a < 2 ^ 31) (h : nI a ≤ nI b) : a ≤ b := by
  rcases Nat.lt_or_ge b a with q | q
  · exact absurd h (nI_ge q ha)
  · exact q
theorem pz_dropC {cs r : List Int32} {x : Int32} {p : Nat} (e : cs.drop p = x :: r) : p < cs.length ∧ cs.getD p 0 = x ∧ cs.drop (p + 1) = r := by
  have hp : p < cs.length := by
    rcases Nat.lt_or_ge p cs.length with q | q
    · exact q
    · rw [List.drop_eq_nil_of_le q] at e; cases e
  rw [List.drop_eq_getElem_cons hp] at e
  injection e with e1 e2
  exact ⟨hp, by simp [List.getD, hp, e1], e2⟩
theorem sX2_tk_l76 {post : Int32 → jx_St → Prop} {s : jx_St} {cs : List Int32} {src b0 : Nat} {w : List Int32} (h : pz_S s cs src) (hw : s.1 65 3 = nI w.length) (hb : b0 + w.length ≤ cs.length) (hc : ∀ i, i < w.length → cs.getD (b0 + i) 0 = pz_ch w i)
    (hp : ∀ s' : jx_St, s'.2 = s.2 → (∀ c i, c ≠ 66 → s'.1 c i = s.1 c i) → (∀ i, i < 16 → s'.1 66 i = pz_ch w i) → post 1 s') :
    ∀ (j i : Nat) (s' : jx_St), i + j = 16 → s'.2 = s.2 → (∀ c x, c ≠ 66 → s'.1 c x = s.1 c x) → (∀ x, x < i → s'.1 66 x = pz_ch w x) → wX2_takeToken_l76 post (j + 1) 65 (nI b0) (nI i) s' := by
  obtain ⟨h1, h2, h3, h4, h5, ⟨h6, h6v⟩, h7, h8⟩ := h
  intro j
  induction j with
  | zero =>
    intro i s' hi e2 e1 e3
    rw [wX2_takeToken_l76]
    refine ⟨fun _ => hp s' e2 e1 (fun x hx => e3 x (by omega)), fun hn => absurd (nI_le (a := 16) (by omega) (by omega)) hn⟩
  | succ j ih =>
    intro i s' hi e2 e1 e3
    rw [wX2_takeToken_l76]
    refine ⟨fun hn => absurd hn (nI_ge (b := 16) (by omega) (by omega)), fun _ => ⟨ok_rd, ?_⟩⟩
    rw [e1 65 3 (by decide), hw, e2, h1, h2, nI_add, pz_cl (by omega), pz_cl (by omega)]
    refine ⟨fun hn => ⟨ix_tk (by omega), ?_⟩, fun hn => ⟨⟨h3, by rw [h4]; exact vp_in_nI (by have := pz_nle (by omega) hn; omega) (by decide)⟩, ix_tk (by omega), ?_⟩⟩
    · intro s2 hs2 x hx
      rw [hx, nI_1]
      have hle : w.length ≤ i := by
        rcases Nat.lt_or_ge i w.length with q | q
        · exact absurd hn (nI_ge q (by omega))
        · exact q
      refine ih (i + 1) s2 (by omega) (by rw [hs2]; exact e2) (fun c x hc2 => ?_) (fun x hx2 => ?_)
      · rw [hs2, pz_s1, if_neg (fun q => hc2 q.1)]; exact e1 c x hc2
      · rw [hs2, pz_s1, pz_nar0]
        by_cases q : x = i
        · subst q
          rw [if_pos ⟨rfl, rfl⟩]
          simp [pz_ch, hle]
        · rw [if_neg (fun z => q z.2)]; exact e3 x (by omega)
    · intro s2 hs2 x hx
      rw [hx, nI_1]
      have hlt : i < w.length := by
        rcases Nat.lt_or_ge i w.length with q | q
        · exact q
        · exact absurd (nI_le q (by omega)) hn
      have hval : vp_nar .char (s'.1 src (b0 + i)) = pz_ch w i := by
        rw [e1 src _ h5, h8 _ (by omega), pz_nar]
        · exact hc i hlt
        · have hm : cs.getD (b0 + i) 0 ∈ cs := by
            simp only [List.getD, List.getElem?_eq_getElem (show b0 + i < cs.length by omega), Option.getD_some]
            exact List.getElem_mem _
          exact h6v _ hm
      rw [hval] at hs2
      refine ih (i + 1) s2 (by omega) (by rw [hs2]; exact e2) (fun c x hc2 => ?_) (fun x hx2 => ?_)
      · rw [hs2, pz_s1, if_neg (fun q => hc2 q.1)]; exact e1 c x hc2
      · rw [hs2, pz_s1]
        by_cases q : x = i
        · subst q
          rw [if_pos ⟨rfl, rfl⟩]
        · rw [if_neg (fun z => q z.2)]; exact e3 x (by omega)
/-- what a move of the Reader to the token w at place b0 leaves -/
def pz_Mv (s s' : jx_St) (b0 : Nat) (w : List Int32) : Prop := s'.2 = s.2 ∧ (∀ c i, c ≠ 65 → c ≠ 66 → s'.1 c i = s.1 c i) ∧ (∀ i, i ≠ 2 → i ≠ 3 → s'.1 65 i = s.1 65 i) ∧ s'.1 65 2 = nI b0 ∧ s'.1 65 3 = nI w.length ∧ ∀ i, i < 16 → s'.1 66 i = pz_ch w i
theorem sX2_tk_l37 {post : Int32 → jx_St → Prop} {s : jx_St} {cs : List Int32} {src b0 : Nat} (h : pz_S s cs src) (hp : ∀ s' : jx_St, pz_Mv s s' b0 ((cs.drop b0).takeWhile pz_nb) → post 1 s') :
    ∀ (r : List Int32) (w : List Int32) (p : Nat), cs.drop p = r → p ≤ cs.length → p = b0 + w.length → (∀ i, i < w.length → cs.getD (b0 + i) 0 = pz_ch w i) → (cs.drop b0).takeWhile pz_nb = w ++ r.takeWhile pz_nb → wX2_takeToken_l37 post (r.length + 1) 65 (nI b0) (nI p) s := by
  have h0 := h
  obtain ⟨h1, h2, h3, h4, h5, ⟨h6, h6v⟩, h7, h8⟩ := h
  have hend : ∀ (w : List Int32) (p : Nat), p ≤ cs.length → p = b0 + w.length → (∀ i, i < w.length → cs.getD (b0 + i) 0 = pz_ch w i) → (cs.drop b0).takeWhile pz_nb = w → wX2_takeToken_b62 post 65 (nI b0) (nI p) s := by
    intro w p hpl hpw hc he
    unfold wX2_takeToken_b62
    refine ⟨ok_rd, fun s1 hs1 s2 hs2 => ⟨17, ?_⟩⟩
    have hsub : nI p - nI b0 = nI w.length := by rw [pk_sub (by omega)]; congr 1; omega
    rw [hsub] at hs2
    have f1 : ∀ c i, c ≠ 65 → s2.1 c i = s.1 c i := fun c i hc1 => by rw [hs2, pz_s1, if_neg (fun q => hc1 q.1), hs1, pz_s1, if_neg (fun q => hc1 q.1)]
    have f2 : s2.2 = s.2 := by rw [hs2, hs1]; rfl
    have f3 : ∀ i, i ≠ 2 → i ≠ 3 → s2.1 65 i = s.1 65 i := fun i g1 g2 => by rw [hs2, pz_s1, if_neg (fun q => g2 q.2), hs1, pz_s1, if_neg (fun q => g1 q.2)]
    have f4 : s2.1 65 2 = nI b0 := by rw [hs2, pz_s1, if_neg (by decide), hs1, pz_s1, if_pos ⟨rfl, rfl⟩]
    have f5 : s2.1 65 3 = nI w.length := by rw [hs2, pz_s1, if_pos ⟨rfl, rfl⟩]
    have hsrc : src ≠ 65 := by intro q; rw [q] at h3; exact absurd h3.2 (by decide)
    have hS2 : pz_S s2 cs src := ⟨by rw [f2]; exact h1, by rw [f2]; exact h2, h3, h4, h5, ⟨h6, h6v⟩, by rw [f3 1 (by decide) (by decide)]; exact h7, fun i hi => by rw [f1 src i hsrc]; exact h8 i hi⟩
    refine sX2_tk_l76 hS2 f5 (by omega) hc (fun s' g2 g1 g3 => hp s' ?_) 16 0 s2 (by omega) rfl (fun _ _ _ => rfl) (fun x hx => absurd hx (by omega))
    refine ⟨g2.trans f2, fun c i k1 k2 => (g1 c i k2).trans (f1 c i k1), fun i k1 k2 => (g1 65 i (by decide)).trans (f3 i k1 k2), (g1 65 2 (by decide)).trans f4, ?_, ?_⟩
    · rw [g1 65 3 (by decide), f5, he]
    · rw [he]; exact g3
  intro r
  induction r with
  | nil =>
    intro w p hr hpl hpw hc he
    rw [wX2_takeToken_l37]
    refine ⟨ok_rd, ?_⟩
    have hpn : cs.length ≤ p := by simpa using hr
    rw [h7]
    refine ⟨fun _ => hend w p hpl hpw hc (by simpa using he), fun hn => absurd (nI_le hpn (by omega)) hn⟩
  | cons x r ih =>
    intro w p hr hpl hpw hc he
    rw [wX2_takeToken_l37]
    obtain ⟨q1, q2, q3⟩ := pz_dropC hr
    refine ⟨ok_rd, ?_⟩
    rw [h7]
    refine ⟨fun hn => absurd hn (nI_ge q1 (by omega)), fun _ => ?_⟩
    rw [h2, pz_cl (by omega), h8 p q1, q2]
    refine ⟨⟨h3, by rw [h4]; exact vp_in_nI (by omega) (by decide)⟩, fun hx => hend w p hpl hpw hc ?_, fun hx y hy => ?_⟩
    · rw [he, List.takeWhile_cons, if_neg (by simp [pz_nb, hx]), List.append_nil]
    · rw [hy, nI_1]
      refine ih (w ++ [x]) (p + 1) q3 q1 (by simp; omega) (fun i hi => ?_) ?_
      · by_cases hiw : i < w.length
        · rw [hc i hiw]; simp [pz_ch, hiw, List.getElem?_append_left hiw]
        · have : i = w.length := by simp at hi; omega
          subst this
          rw [← hpw, q2]; simp [pz_ch]
      · rw [he, List.takeWhile_cons, if_pos (by simp [pz_nb, hx])]; simp
theorem sX2_tk_l10 {post : Int32 → jx_St → Prop} {s : jx_St} {cs : List Int32} {src : Nat} (h : pz_S s cs src) :
    ∀ (r : List Int32) (p : Nat), cs.drop p = r → p ≤ cs.length → (∀ s' : jx_St, pz_Mv s s' (cs.length - (r.dropWhile pz_bl).length) ((r.dropWhile pz_bl).takeWhile pz_nb) → post 1 s') → wX2_takeToken_l10 post (r.length + 1) 65 (nI p) s := by
  have h0 := h
  obtain ⟨h1, h2, h3, h4, h5, ⟨h6, h6v⟩, h7, h8⟩ := h
  intro r
  induction r with
  | nil =>
    intro p hr hpl hp
    have hpn : cs.length ≤ p := by simpa using hr
    have hpe : p = cs.length := by omega
    rw [wX2_takeToken_l10]
    refine ⟨ok_rd, ?_⟩
    rw [h7]
    refine ⟨fun _ => ⟨1, ?_⟩, fun hn => absurd (nI_le hpn (by omega)) hn⟩
    refine sX2_tk_l37 h0 (b0 := p) (fun s' hs' => hp s' ?_) [] [] p hr hpl (by simp) (fun i hi => absurd hi (by simp)) (by simp [hr])
    rw [hr] at hs'
    have e1 : cs.length - (List.dropWhile pz_bl ([] : List Int32)).length = p := by simp; omega
    rw [e1]
    exact hs'
  | cons x r ih =>
    intro p hr hpl hp
    obtain ⟨q1, q2, q3⟩ := pz_dropC hr
    rw [wX2_takeToken_l10]
    refine ⟨ok_rd, ?_⟩
    rw [h7]
    refine ⟨fun hn => absurd hn (nI_ge q1 (by omega)), fun _ => ?_⟩
    rw [h2, pz_cl (by omega), h8 p q1, q2]
    refine ⟨⟨h3, by rw [h4]; exact vp_in_nI (by omega) (by decide)⟩, fun hx => ⟨(x :: r).length + 1, ?_⟩, fun hx y hy => ?_⟩
    · have ed : List.dropWhile pz_bl (x :: r) = x :: r := by rw [List.dropWhile_cons, if_neg (by simp [pz_bl, hx])]
      rw [ed] at hp
      have el : cs.length - (x :: r).length = p := by rw [← hr, List.length_drop]; omega
      rw [el, ← hr] at hp
      rw [← hr]
      exact sX2_tk_l37 h0 (b0 := p) hp (cs.drop p) [] p rfl hpl (by simp) (fun i hi => absurd hi (by simp)) (by simp)
    · rw [hy, nI_1]
      have ed : List.dropWhile pz_bl (x :: r) = List.dropWhile pz_bl r := by rw [List.dropWhile_cons, if_pos (by simp [pz_bl, hx])]
      rw [ed] at hp
      exact ih (p + 1) q3 q1 hp
theorem sX2_takeToken0 {post : Int32 → jx_St → Prop} {s : jx_St} {cs : List Int32} {src p : Nat} (h : pz_S s cs src) (hpos : s.1 65 2 + s.1 65 3 = nI p) (hpl : p ≤ cs.length) (hp : ∀ s' : jx_St, pz_Mv s s' (cs.length - ((cs.drop p).dropWhile pz_bl).length) (((cs.drop p).dropWhile pz_bl).takeWhile pz_nb) → post 1 s') : wX2_takeToken post 65 s := by
  unfold wX2_takeToken
  refine ⟨ok_rd, fun x hx => ⟨(cs.drop p).length + 1, ?_⟩⟩
  rw [hx, hpos]
  exact sX2_tk_l10 h (cs.drop p) p rfl hpl hp
