/-! ===== the Reader's state at the k-th token of a text, with a draft B ===== -/
theorem pz_dw (f : Int32 → Bool) : ∀ l : List Int32, l.dropWhile f = l.drop (l.takeWhile f).length := by
  intro l
  induction l with
  | nil => rfl
  | cons x l ih =>
    by_cases h : f x = true
    · rw [List.dropWhile_cons, if_pos h, List.takeWhile_cons, if_pos h, List.length_cons, List.drop_succ_cons]; exact ih
    · rw [List.dropWhile_cons, if_neg h, List.takeWhile_cons, if_neg h]; rfl
theorem pz_sx_suf (cs : List Int32) : ∀ k, pz_sx cs k <:+ cs := by
  intro k
  induction k with
  | zero => exact List.dropWhile_suffix _
  | succ k ih => exact (List.dropWhile_suffix _).trans ((List.dropWhile_suffix _).trans ih)
theorem pz_sx_drop (cs : List Int32) (k : Nat) : cs.drop (pz_pos cs k) = pz_sx cs k := (List.suffix_iff_eq_drop.mp (pz_sx_suf cs k)).symm
theorem pz_sx_len (cs : List Int32) (k : Nat) : (pz_sx cs k).length ≤ cs.length := (pz_sx_suf cs k).length_le
theorem pz_tok_len (cs : List Int32) (k : Nat) : (pz_tok cs k).length ≤ (pz_sx cs k).length := (List.takeWhile_prefix _).length_le
theorem pz_end_le (cs : List Int32) (k : Nat) : pz_pos cs k + (pz_tok cs k).length ≤ cs.length := by
  have h1 := pz_sx_len cs k
  have h2 := pz_tok_len cs k
  unfold pz_pos
  omega
theorem pz_end_drop (cs : List Int32) (k : Nat) : (cs.drop (pz_pos cs k + (pz_tok cs k).length)).dropWhile pz_bl = pz_sx cs (k + 1) := by
  rw [← List.drop_drop, pz_sx_drop, pz_tok, ← pz_dw, pz_sx]
/-- what stays fixed: the refs of the Reader, of the draft b and its groups -/
def pz_F (s0 : jx_St) (src b : Nat) : Prop := (b = 3 ∨ b = 34) ∧ (src = 1 ∨ src = 6 ∧ b = 34 ∨ src = 37 ∧ b = 3) ∧ s0.2 65 7 = b ∧ s0.2 b 6 = b + 1 ∧ s0.2 b 8 = b + 2 ∧ s0.2 b 9 = b + 3 ∧ ∀ g, g < 9 → s0.2 (b + 2) g = b + 4 + 3 * g ∧ s0.2 (b + 4 + 3 * g) 10 = b + 5 + 3 * g ∧ s0.2 (b + 4 + 3 * g) 11 = b + 6 + 3 * g
def pz_PS (s0 : jx_St) (cs : List Int32) (src b : Nat) (days : Int32) (s : jx_St) (k : Nat) (B : Nat → Nat → Int32) (lf : Int32) : Prop :=
  s.2 = s0.2 ∧ pz_S s cs src ∧ pz_T s (pz_tok cs k) ∧ s.1 65 2 = nI (pz_pos cs k) ∧ s.1 65 5 = days ∧ s.1 65 6 = lf ∧ (∀ rc i, rc < 31 → s.1 (b + rc) i = B rc i) ∧ (∀ c i, c ≠ 65 → c ≠ 66 → (c < b ∨ b + 31 ≤ c) → s.1 c i = s0.1 c i) ∧ pz_F s0 src b
section PZP
variable {s0 : jx_St} {cs : List Int32} {src b : Nat} {days : Int32} {s : jx_St} {k : Nat} {B : Nat → Nat → Int32} {lf : Int32}
theorem PS_b (h : pz_PS s0 cs src b days s k B lf) : b = 3 ∨ b = 34 := h.2.2.2.2.2.2.2.2.1
theorem PS_T (h : pz_PS s0 cs src b days s k B lf) : pz_T s (pz_tok cs k) := h.2.2.1
theorem PS_7 (h : pz_PS s0 cs src b days s k B lf) : s.2 65 7 = b := by rw [h.1]; exact h.2.2.2.2.2.2.2.2.2.2.1
theorem PS_w (h : pz_PS s0 cs src b days s k B lf) : s.1 65 3 = nI (pz_tok cs k).length := h.2.2.1.2.1
theorem PS_B (h : pz_PS s0 cs src b days s k B lf) {rc : Nat} (i : Nat) (hr : rc < 31) : s.1 (b + rc) i = B rc i := h.2.2.2.2.2.2.1 rc i hr
theorem PS_g0 (h : pz_PS s0 cs src b days s k B lf) {g : Nat} (hg : g < 9) : s.2 (b + 2) g = b + 4 + 3 * g := by rw [h.1]; exact (h.2.2.2.2.2.2.2.2.2.2.2.2.2.2 g hg).1
theorem PS_ch (h : pz_PS s0 cs src b days s k B lf) {i : Nat} (hi : i < 16) : s.1 66 i = pz_ch (pz_tok cs k) i := h.2.2.1.2.2.2 i hi
theorem PS_66 (h : pz_PS s0 cs src b days s k B lf) : s.2 65 4 = 66 := h.2.2.1.1
theorem ok_b (hb : b = 3 ∨ b = 34) : jx_ok jx_LX 0 b := by rcases hb with rfl | rfl <;> exact ⟨by decide, by decide⟩
theorem ok_g (hb : b = 3 ∨ b = 34) {g : Nat} (hg : g < 9) : jx_ok jx_LX 1 (b + 4 + 3 * g) := by
  have h1 : ∀ g, g < 9 → jx_ok jx_LX 1 (3 + 4 + 3 * g) := fun g hg => ⟨by show _ < 68; omega, by revert hg; revert g; decide⟩
  have h2 : ∀ g, g < 9 → jx_ok jx_LX 1 (34 + 4 + 3 * g) := fun g hg => ⟨by show _ < 68; omega, by revert hg; revert g; decide⟩
  rcases hb with rfl | rfl
  · exact h1 g hg
  · exact h2 g hg
theorem ok_gw (hb : b = 3 ∨ b = 34) {g : Nat} (hg : g < 9) : jx_ok jx_LX 6 (b + 5 + 3 * g) ∧ (jx_LX.1 (b + 5 + 3 * g)).2 = 3 := by
  have h1 : ∀ g, g < 9 → jx_ok jx_LX 6 (3 + 5 + 3 * g) ∧ (jx_LX.1 (3 + 5 + 3 * g)).2 = 3 := fun g hg => ⟨⟨by show _ < 68; omega, by revert hg; revert g; decide⟩, by revert hg; revert g; decide⟩
  have h2 : ∀ g, g < 9 → jx_ok jx_LX 6 (34 + 5 + 3 * g) ∧ (jx_LX.1 (34 + 5 + 3 * g)).2 = 3 := fun g hg => ⟨⟨by show _ < 68; omega, by revert hg; revert g; decide⟩, by revert hg; revert g; decide⟩
  rcases hb with rfl | rfl
  · exact h1 g hg
  · exact h2 g hg
theorem ok_gc (hb : b = 3 ∨ b = 34) {g : Nat} (hg : g < 9) : jx_ok jx_LX 6 (b + 6 + 3 * g) ∧ (jx_LX.1 (b + 6 + 3 * g)).2 = 4 := by
  have h1 : ∀ g, g < 9 → jx_ok jx_LX 6 (3 + 6 + 3 * g) ∧ (jx_LX.1 (3 + 6 + 3 * g)).2 = 4 := fun g hg => ⟨⟨by show _ < 68; omega, by revert hg; revert g; decide⟩, by revert hg; revert g; decide⟩
  have h2 : ∀ g, g < 9 → jx_ok jx_LX 6 (34 + 6 + 3 * g) ∧ (jx_LX.1 (34 + 6 + 3 * g)).2 = 4 := fun g hg => ⟨⟨by show _ < 68; omega, by revert hg; revert g; decide⟩, by revert hg; revert g; decide⟩
  rcases hb with rfl | rfl
  · exact h1 g hg
  · exact h2 g hg
theorem ix_st (hb : b = 3 ∨ b = 34) {i : Nat} (hi : i < 4) : jx_ix jx_LX 6 (b + 1) (nI i) := by
  rcases hb with rfl | rfl <;> exact ⟨⟨by decide, by decide⟩, vp_in_nI hi (by decide)⟩
theorem ix_gs (hb : b = 3 ∨ b = 34) {g : Nat} (hg : g < 9) : jx_ix jx_LX 7 (b + 2) (nI g) := by
  rcases hb with rfl | rfl <;> exact ⟨⟨by decide, by decide⟩, vp_in_nI hg (by decide)⟩
/-- a write into the draft -/
theorem PS_set (h : pz_PS s0 cs src b days s k B lf) {rc : Nat} (i : Nat) (v : Int32) (hr : rc < 31) : pz_PS s0 cs src b days (jx_sI s (b + rc) i v) k (jx_u2 B rc i v) lf := by
  obtain ⟨h1, ⟨g1, g2, g3, g4, g5, g6, g7, g8⟩, ⟨t1, t2, t3, t4⟩, h4, h5, h6, h7, h8, hF⟩ := h
  have hb := hF.1
  have hsb : src < b ∨ b + 31 ≤ src := by
    have := hF.2.1
    omega
  have f : ∀ c i', c = 65 ∨ c = 66 ∨ c < b ∨ b + 31 ≤ c → (jx_sI s (b + rc) i v).1 c i' = s.1 c i' := fun c i' hc => by
    rw [pz_s1, if_neg (fun q => by omega)]
  refine ⟨h1, ⟨g1, g2, g3, g4, g5, g6, by rw [f 65 1 (by omega)]; exact g7, fun j hj => by rw [f src j (by omega)]; exact g8 j hj⟩, ⟨t1, by rw [f 65 3 (by omega)]; exact t2, t3, fun j hj => by rw [f 66 j (by omega)]; exact t4 j hj⟩, by rw [f 65 2 (by omega)]; exact h4, by rw [f 65 5 (by omega)]; exact h5, by rw [f 65 6 (by omega)]; exact h6, fun rc' i' hr' => ?_, fun c i' c1 c2 c3 => ?_, hF⟩
  · rw [pz_s1]
    unfold jx_u2
    by_cases q : rc' = rc ∧ i' = i
    · rw [if_pos ⟨by omega, q.2⟩, if_pos q]
    · rw [if_neg (fun z => q ⟨by omega, z.2⟩), if_neg q]; exact h7 rc' i' hr'
  · rw [f c i' (by omega)]; exact h8 c i' c1 c2 c3
theorem PS_lf (h : pz_PS s0 cs src b days s k B lf) (v : Int32) : pz_PS s0 cs src b days (jx_sI s 65 6 v) k B v := by
  obtain ⟨h1, ⟨g1, g2, g3, g4, g5, g6, g7, g8⟩, ⟨t1, t2, t3, t4⟩, h4, h5, h6, h7, h8, hF⟩ := h
  have hb := hF.1
  have hsb : src ≠ 65 := by
    have := hF.2.1
    omega
  have f : ∀ c i', c ≠ 65 ∨ i' ≠ 6 → (jx_sI s 65 6 v).1 c i' = s.1 c i' := fun c i' hc => by
    rw [pz_s1, if_neg (fun q => by omega)]
  refine ⟨h1, ⟨g1, g2, g3, g4, g5, g6, by rw [f 65 1 (by omega)]; exact g7, fun j hj => by rw [f src j (by omega)]; exact g8 j hj⟩, ⟨t1, by rw [f 65 3 (by omega)]; exact t2, t3, fun j hj => by rw [f 66 j (by omega)]; exact t4 j hj⟩, by rw [f 65 2 (by omega)]; exact h4, by rw [f 65 5 (by omega)]; exact h5, by rw [pz_s1, if_pos ⟨rfl, rfl⟩], fun rc' i' hr' => by rw [f (b + rc') i' (by omega)]; exact h7 rc' i' hr', fun c i' c1 c2 c3 => by rw [f c i' (by omega)]; exact h8 c i' c1 c2 c3, hF⟩
variable {post : Int32 → jx_St → Prop}
theorem sX2_takeToken (h : pz_PS s0 cs src b days s k B lf) (hp : ∀ s' : jx_St, pz_PS s0 cs src b days s' (k + 1) B lf → post 1 s') : wX2_takeToken post 65 s := by
  obtain ⟨h1, h2, h3, h4, h5, h6, h7, h8, hF⟩ := h
  have hb := hF.1
  have hs := hF.2.1
  have hend := pz_end_le cs k
  refine sX2_takeToken0 h2 (p := pz_pos cs k + (pz_tok cs k).length) (by rw [h4, h3.2.1, nI_add]) hend (fun s' hm => hp s' ?_)
  rw [pz_end_drop] at hm
  obtain ⟨m1, m2, m3, m4, m5, m6⟩ := hm
  obtain ⟨g1, g2, g3, g4, g5, g6, g7, g8⟩ := h2
  have htl := pz_tok_len cs (k + 1)
  have hsl := pz_sx_len cs (k + 1)
  exact ⟨m1.trans h1, ⟨by rw [m1]; exact g1, by rw [m1]; exact g2, g3, g4, g5, g6, by rw [m3 1 (by decide) (by decide)]; exact g7, fun i hi => by rw [m2 src i (by omega) g5]; exact g8 i hi⟩,
    ⟨by rw [m1]; exact g1, m5, by have := g6.1; omega, m6⟩, m4, by rw [m3 5 (by decide) (by decide)]; exact h5, by rw [m3 6 (by decide) (by decide)]; exact h6, fun rc i hr => by rw [m2 (b + rc) i (by omega) (by omega)]; exact h7 rc i hr, fun c i c1 c2 c3 => by rw [m2 c i c1 c2]; exact h8 c i c1 c2 c3, hF⟩
theorem pz_hold_eq : ∀ (l w : List Int32) (i : Nat), i + l.length = w.length → (pz_hold w i l = true ↔ w.drop i = l) := by
  intro l
  induction l with
  | nil => intro w i h; simp at h; simp [pz_hold, ← h]
  | cons x l ih =>
    intro w i h
    simp at h
    have hi : i < w.length := by omega
    rw [pz_hold, List.drop_eq_getElem_cons hi]
    have e : pz_ch w i = w[i] := by simp [pz_ch, hi]
    rw [e]
    by_cases q : w[i] = x
    · rw [if_pos q, ih w (i + 1) (by omega), q]; simp
    · rw [if_neg q]; exact ⟨fun z => absurd z (by decide), fun z => by injection z with z1 z2; exact absurd z1 q⟩
theorem sX2_takeWord (h : pz_PS s0 cs src b days s k B lf) {t : Nat} (ht : t < 19) (hl : (jx_sby.getD t []).length ≤ 16) (hy : pz_tok cs k = jx_sby.getD t [] → ∀ s' : jx_St, pz_PS s0 cs src b days s' (k + 1) B lf → post 1 s') (hn : pz_tok cs k ≠ jx_sby.getD t [] → post 0 s) : wX2_takeWord post 65 t s := by
  unfold wX2_takeWord
  refine ⟨ok_rd, ht, ?_⟩
  rw [PS_w h, pz_slen t ht]
  have hlen := (PS_T h).2.2.1
  refine ⟨fun q => hn (fun e => q (by rw [e])), fun q => ?_⟩
  have q' : (pz_tok cs k).length = (jx_sby.getD t []).length := (nI_eq (by omega) (by omega)).mp q
  refine sX2_holds (PS_T h) 0 rfl ht (by omega) ?_
  by_cases hh : pz_hold (pz_tok cs k) 0 (jx_sby.getD t []) = true
  · rw [if_pos hh]
    refine fun _ => ⟨fun z => absurd z (by decide), fun _ => ?_⟩
    have e : pz_tok cs k = jx_sby.getD t [] := by
      have := (pz_hold_eq (jx_sby.getD t []) (pz_tok cs k) 0 (by omega)).mp hh
      simpa using this
    exact sX2_takeToken h (fun s' hs' _ => ⟨fun z => absurd z (by decide), fun _ => hy e s' hs'⟩)
  · rw [if_neg hh]
    refine fun _ => ⟨fun _ => hn (fun e => hh ((pz_hold_eq (jx_sby.getD t []) (pz_tok cs k) 0 (by omega)).mpr (by simpa using e))), fun z => absurd rfl z⟩
end PZP
