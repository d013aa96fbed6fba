/-! ===== the Reader's takers: station, issue, temperatures, pressure, periods ===== -/
def pz_hour (days : Int32) (w : List Int32) (f : Nat) (lat : Int32) : Int32 :=
  if pz_dig w f 2 < 1 then -1 else if days < pz_dig w f 2 then -1 else if pz_dig w (f + 2) 2 = -1 then -1 else if pz_dig w (f + 2) 2 ≤ lat then ((pz_dig w f 2 - 1) * 1440) + (pz_dig w (f + 2) 2 * 60) else -1
def pz_time (days : Int32) (w : List Int32) (f : Nat) : Int32 :=
  if pz_hour days w f 23 = -1 then -1 else if pz_dig w (f + 4) 2 = -1 then -1 else if pz_dig w (f + 4) 2 ≤ 59 then pz_hour days w f 23 + pz_dig w (f + 4) 2 else -1
def pz_deg (w : List Int32) (f : Nat) : Int32 :=
  if pz_ch w f = 77 then (if pz_dig w (f + 1) 2 = -1 then -1001 else -(pz_dig w (f + 1) 2)) else (if pz_dig w f 2 = -1 then -1001 else pz_dig w f 2)
section PZQ
variable {s0 : jx_St} {cs : List Int32} {src b : Nat} {days : Int32} {s : jx_St} {k : Nat} {B : Nat → Nat → Int32} {lf : Int32} {post : Int32 → jx_St → Prop} {w : List Int32}
theorem sX2_hourAt (h : pz_T s w) (hd : s.1 65 5 = days) (f : Nat) {a1 lat : Int32} (e1 : a1 = nI f) (hf : f + 4 ≤ 16) (hp : post (pz_hour days w f lat) s) : wX2_hourAt post 65 a1 lat s := by
  unfold wX2_hourAt
  refine ⟨ok_rd, sX2_digits h f 2 e1 rfl (by omega) ?_⟩
  refine sX2_digits h (f + 2) 2 (by rw [e1]; exact nI_add f 2) rfl (by omega) ?_
  rw [hd]
  unfold pz_hour at hp
  refine ⟨fun q => ?_, fun q => ⟨fun q2 => ?_, fun q2 => ⟨fun q3 => ?_, fun q3 => ⟨fun q4 => ?_, fun q4 => ?_⟩⟩⟩⟩
  · rw [if_pos q] at hp; exact hp
  · rw [if_neg q, if_pos q2] at hp; exact hp
  · rw [if_neg q, if_neg q2, if_pos q3] at hp; exact hp
  · rw [if_neg q, if_neg q2, if_neg q3, if_pos q4] at hp; exact hp
  · rw [if_neg q, if_neg q2, if_neg q3, if_neg q4] at hp; exact hp
theorem sX2_timeAt (h : pz_T s w) (hd : s.1 65 5 = days) (f : Nat) {a1 : Int32} (e1 : a1 = nI f) (hf : f + 6 ≤ 16) (hp : post (pz_time days w f) s) : wX2_timeAt post 65 a1 s := by
  unfold wX2_timeAt
  refine ⟨ok_rd, sX2_hourAt h hd f e1 (by omega) ?_⟩
  refine sX2_digits h (f + 4) 2 (by rw [e1]; exact nI_add f 4) rfl (by omega) ?_
  unfold pz_time at hp
  refine ⟨fun q => ?_, fun q => ⟨fun q2 => ?_, fun q2 => ⟨fun q3 => ?_, fun q3 => ?_⟩⟩⟩
  · rw [if_pos q] at hp; exact hp
  · rw [if_neg q, if_pos q2] at hp; exact hp
  · rw [if_neg q, if_neg q2, if_pos q3] at hp; exact hp
  · rw [if_neg q, if_neg q2, if_neg q3] at hp; exact hp
theorem sX2_degreesAt (h : pz_T s w) (f : Nat) {a1 : Int32} (e1 : a1 = nI f) (hf : f + 3 ≤ 16) (hp : post (pz_deg w f) s) : wX2_degreesAt post 65 a1 s := by
  unfold wX2_degreesAt
  refine ⟨ok_rd, sX2_holds h f e1 (by decide) (show f + 1 ≤ 16 by omega) ?_⟩
  have eh : pz_hold w f (jx_sby.getD 12 []) = decide (pz_ch w f = 77) := by
    show pz_hold w f [77] = _
    rw [pz_hold]
    by_cases q : pz_ch w f = 77
    · rw [if_pos q, decide_eq_true q]; rfl
    · rw [if_neg q, decide_eq_false q]
  rw [eh]
  unfold pz_deg at hp
  intro _
  by_cases q : pz_ch w f = 77
  · rw [if_pos q] at hp
    rw [decide_eq_true q, if_pos rfl]
    refine ⟨fun z => absurd z (by decide), fun _ => ?_⟩
    unfold wX2_degreesAt_b21
    refine ⟨ok_rd, sX2_digits h (f + 1) 2 (by rw [e1]; exact nI_add f 1) rfl (by omega) ⟨fun q2 => ⟨fun z => absurd z (by decide), fun _ => ?_⟩, fun q2 => ?_⟩⟩
    · rw [if_neg q2] at hp; exact hp
    · rw [if_pos q2] at hp; exact hp
  · rw [if_neg q] at hp
    rw [decide_eq_false q, if_neg (by decide)]
    refine ⟨fun _ => ?_, fun z => absurd rfl z⟩
    unfold wX2_degreesAt_b21
    refine ⟨ok_rd, sX2_digits h f 2 e1 rfl (by omega) ⟨fun q2 => ⟨fun _ => ?_, fun z => absurd rfl z⟩, fun q2 => ?_⟩⟩
    · rw [if_neg q2] at hp; exact hp
    · rw [if_pos q2] at hp; exact hp
/-- a station's token -/
def pz_sta (w : List Int32) : Prop := w.length = 4 ∧ ∀ i, i < 4 → ¬ pz_ch w i < 65 ∧ pz_ch w i ≤ 90
def pz_staB (B : Nat → Nat → Int32) (w : List Int32) (n : Nat) : Nat → Nat → Int32 := fun rc i => if rc = 1 ∧ i < n then pz_ch w i else B rc i
theorem sX2_takeStation_l (hs : (∀ i, i < 4 → ¬ pz_ch (pz_tok cs k) i < 65 ∧ pz_ch (pz_tok cs k) i ≤ 90) → ∀ s' : jx_St, pz_PS s0 cs src b days s' (k + 1) (pz_staB B (pz_tok cs k) 4) lf → post 1 s') (hf : ¬ (∀ i, i < 4 → ¬ pz_ch (pz_tok cs k) i < 65 ∧ pz_ch (pz_tok cs k) i ≤ 90) → ∀ s' B' lf', pz_PS s0 cs src b days s' k B' lf' → post 0 s') :
    ∀ (j i : Nat) (s : jx_St), i + j = 4 → pz_PS s0 cs src b days s k (pz_staB B (pz_tok cs k) i) lf → (∀ x, x < i → ¬ pz_ch (pz_tok cs k) x < 65 ∧ pz_ch (pz_tok cs k) x ≤ 90) → wX2_takeStation_l12 post (j + 1) 65 (nI i) s := by
  intro j
  induction j with
  | zero =>
    intro i s hi h hx
    rw [wX2_takeStation_l12]
    have e : i = 4 := by omega
    subst e
    exact ⟨fun _ => ⟨ok_rd, sX2_takeToken h (fun s' hs' _ => hs hx s' hs')⟩, fun z => absurd (nI_le (a := 4) (b := 4) (by omega) (by omega)) z⟩
  | succ j ih =>
    intro i s hi h hx
    rw [wX2_takeStation_l12]
    have hb := PS_b h
    refine ⟨fun z => absurd z (nI_ge (b := 4) (by omega) (by omega)), fun _ => ⟨ok_rd, ?_⟩⟩
    rw [PS_66 h, pz_cl (by omega), PS_ch h (by omega), PS_7 h, h.1, h.2.2.2.2.2.2.2.2.2.2.2.1]
    refine ⟨ix_tk (by omega), fun q => hf (fun z => (z i (by omega)).1 q) s _ _ h, fun q => ⟨fun q2 => ⟨ok_b hb, ix_st hb (by omega), fun s2 hs2 x hx2 => ?_⟩, fun q2 => hf (fun z => q2 (z i (by omega)).2) s _ _ h⟩⟩
    rw [hx2, nI_1]
    have h2 := PS_set h (rc := 1) i (pz_ch (pz_tok cs k) i) (by decide)
    rw [← hs2] at h2
    refine ih (i + 1) s2 (by omega) ?_ (fun x hx3 => ?_)
    · have e : jx_u2 (pz_staB B (pz_tok cs k) i) 1 i (pz_ch (pz_tok cs k) i) = pz_staB B (pz_tok cs k) (i + 1) := by
        funext rc x
        unfold jx_u2 pz_staB
        by_cases q3 : rc = 1
        · subst q3
          by_cases q4 : x = i
          · subst q4; simp
          · have : (x < i) ↔ (x < i + 1) := by omega
            simp [q4, this]
        · simp [q3]
      rw [← e]; exact h2
    · by_cases q3 : x = i
      · subst q3; exact ⟨q, q2⟩
      · exact hx x (by omega)
theorem sX2_takeStation (h : pz_PS s0 cs src b days s k B lf) (hs : pz_sta (pz_tok cs k) → ∀ s' : jx_St, pz_PS s0 cs src b days s' (k + 1) (pz_staB B (pz_tok cs k) 4) lf → post 1 s') (hf : ¬ pz_sta (pz_tok cs k) → ∀ s' B' lf', pz_PS s0 cs src b days s' k B' lf' → post 0 s') : wX2_takeStation post 65 s := by
  unfold wX2_takeStation
  have hlen := (PS_T h).2.2.1
  refine ⟨ok_rd, ?_⟩
  rw [PS_w h]
  refine ⟨fun q => ⟨5, ?_⟩, fun q => hf (fun z => q (by rw [z.1]; rfl)) s _ _ h⟩
  have e : (pz_tok cs k).length = 4 := (nI_eq (b := 4) (by omega) (by omega)).mp q
  refine sX2_takeStation_l (B := B) (fun z => hs ⟨e, z⟩) (fun z => hf (fun y => z y.2)) 4 0 s (by omega) ?_ (fun x hx => absurd hx (by omega))
  have e2 : pz_staB B (pz_tok cs k) 0 = B := by funext rc x; simp [pz_staB]
  rw [e2]; exact h
/-- an issue's token -/
def pz_iss (days : Int32) (w : List Int32) : Prop := w.length = 7 ∧ pz_ch w 6 = 90 ∧ pz_time days w 0 ≠ -1
theorem sX2_takeIssue (h : pz_PS s0 cs src b days s k B lf) (hs : pz_iss days (pz_tok cs k) → ∀ s' : jx_St, pz_PS s0 cs src b days s' (k + 1) (jx_u2 B 0 2 (pz_time days (pz_tok cs k) 0)) lf → post 1 s') (hf : ¬ pz_iss days (pz_tok cs k) → ∀ s' B' lf', pz_PS s0 cs src b days s' k B' lf' → post 0 s') : wX2_takeIssue post 65 s := by
  unfold wX2_takeIssue
  have hlen := (PS_T h).2.2.1
  have hb := PS_b h
  refine ⟨ok_rd, sX2_timeAt (PS_T h) h.2.2.2.2.1 0 rfl (by omega) ?_⟩
  rw [PS_7 h]
  refine ⟨ok_b hb, fun s2 hs2 => ?_⟩
  have h2 := PS_set h (rc := 0) 2 (pz_time days (pz_tok cs k) 0) (by decide)
  rw [Nat.add_zero, ← hs2] at h2
  rw [PS_w h2, PS_66 h2, PS_7 h2]
  have e2 : s2.1 b 2 = pz_time days (pz_tok cs k) 0 := by have := PS_B h2 (rc := 0) 2 (by decide); rw [Nat.add_zero] at this; rw [this]; simp [jx_u2]
  rw [e2]
  have e6 : s2.1 66 ((6 : Int32).toNatClampNeg) = pz_ch (pz_tok cs k) 6 := PS_ch h2 (i := 6) (by omega)
  rw [e6]
  refine ⟨fun q => hf (fun z => q (by rw [z.1]; rfl)) s2 _ _ h2, fun q => ⟨ix_tk (i := 6) (by omega), fun q2 => hf (fun z => q2 z.2.1) s2 _ _ h2, fun q2 => ⟨ok_b hb, fun q3 => hf (fun z => z.2.2 q3) s2 _ _ h2, fun q3 => ?_⟩⟩⟩
  have e : (pz_tok cs k).length = 7 := (nI_eq (b := 7) (by omega) (by omega)).mp q
  exact sX2_takeToken h2 (fun s' hs' _ => ⟨fun z => absurd z (by decide), fun _ => hs ⟨e, q2, q3⟩ s' hs'⟩)
/-- a pressure's token -/
def pz_prs (w : List Int32) : Prop := w.length = 5 ∧ pz_ch w 0 = 81 ∧ pz_dig w 1 4 ≠ -1
theorem sX2_takePressure (h : pz_PS s0 cs src b days s k B lf) (hs : pz_prs (pz_tok cs k) → ∀ s' : jx_St, pz_PS s0 cs src b days s' (k + 1) (jx_u2 B 0 5 (pz_dig (pz_tok cs k) 1 4)) lf → post 1 s') (hf : ¬ pz_prs (pz_tok cs k) → ∀ s' B' lf', pz_PS s0 cs src b days s' k B' lf' → post 0 s') : wX2_takePressure post 65 s := by
  unfold wX2_takePressure
  have hlen := (PS_T h).2.2.1
  have hb := PS_b h
  refine ⟨ok_rd, sX2_digits (PS_T h) 1 4 rfl rfl (by omega) ?_⟩
  rw [PS_7 h]
  refine ⟨ok_b hb, fun s2 hs2 => ?_⟩
  have h2 := PS_set h (rc := 0) 5 (pz_dig (pz_tok cs k) 1 4) (by decide)
  rw [Nat.add_zero, ← hs2] at h2
  rw [PS_w h2, PS_66 h2, PS_7 h2]
  have e2 : s2.1 b 5 = pz_dig (pz_tok cs k) 1 4 := by have := PS_B h2 (rc := 0) 5 (by decide); rw [Nat.add_zero] at this; rw [this]; simp [jx_u2]
  rw [e2]
  have e6 : s2.1 66 ((0 : Int32).toNatClampNeg) = pz_ch (pz_tok cs k) 0 := PS_ch h2 (i := 0) (by omega)
  rw [e6]
  refine ⟨fun q => hf (fun z => q (by rw [z.1]; rfl)) s2 _ _ h2, fun q => ⟨ix_tk (i := 0) (by omega), fun q2 => hf (fun z => q2 z.2.1) s2 _ _ h2, fun q2 => ⟨ok_b hb, fun q3 => hf (fun z => z.2.2 q3) s2 _ _ h2, fun q3 => ?_⟩⟩⟩
  have e : (pz_tok cs k).length = 5 := (nI_eq (b := 5) (by omega) (by omega)).mp q
  exact sX2_takeToken h2 (fun s' hs' _ => ⟨fun z => absurd z (by decide), fun _ => hs ⟨e, q2, q3⟩ s' hs'⟩)
/-- a temperatures' token -/
def pz_cut (w : List Int32) : Nat := if pz_ch w 0 = 77 then 3 else 2
def pz_ten (w : List Int32) : Nat := if pz_ch w (pz_cut w + 1) = 77 then pz_cut w + 4 else pz_cut w + 3
def pz_tem (w : List Int32) : Prop := w.length = pz_ten w ∧ pz_ch w (pz_cut w) = 47 ∧ pz_deg w 0 ≠ -1001 ∧ pz_deg w (pz_cut w + 1) ≠ -1001
theorem sX2_takeTemperatures (h : pz_PS s0 cs src b days s k B lf) (hs : pz_tem (pz_tok cs k) → ∀ s' : jx_St, pz_PS s0 cs src b days s' (k + 1) (jx_u2 (jx_u2 B 0 3 (pz_deg (pz_tok cs k) 0)) 0 4 (pz_deg (pz_tok cs k) (pz_cut (pz_tok cs k) + 1))) lf → post 1 s') (hf : ¬ pz_tem (pz_tok cs k) → ∀ s' B' lf', pz_PS s0 cs src b days s' k B' lf' → post 0 s') : wX2_takeTemperatures post 65 s := by
  unfold wX2_takeTemperatures
  have hlen := (PS_T h).2.2.1
  have hb := PS_b h
  have hcut : pz_cut (pz_tok cs k) = 2 ∨ pz_cut (pz_tok cs k) = 3 := by unfold pz_cut; split <;> simp
  have hten : pz_ten (pz_tok cs k) ≤ 7 := by unfold pz_ten; split <;> omega
  have key : ∀ (a1 k0 : Int32), a1 = nI (pz_cut (pz_tok cs k)) → k0 = nI (pz_ten (pz_tok cs k)) → wX2_takeTemperatures_b39 post 65 a1 k0 s := by
    intro a1 k0 e1 e0
    subst e1; subst e0
    unfold wX2_takeTemperatures_b39
    refine ⟨ok_rd, sX2_degreesAt (PS_T h) 0 rfl (by omega) ?_⟩
    rw [PS_7 h]
    refine ⟨ok_b hb, fun s2 hs2 => ?_⟩
    have h2 := PS_set h (rc := 0) 3 (pz_deg (pz_tok cs k) 0) (by decide)
    rw [Nat.add_zero, ← hs2] at h2
    refine sX2_degreesAt (PS_T h2) (pz_cut (pz_tok cs k) + 1) (nI_1 _) (by omega) ?_
    rw [PS_7 h2]
    refine ⟨ok_b hb, fun s3 hs3 => ?_⟩
    have h3 := PS_set h2 (rc := 0) 4 (pz_deg (pz_tok cs k) (pz_cut (pz_tok cs k) + 1)) (by decide)
    rw [Nat.add_zero, ← hs3] at h3
    rw [PS_w h3, PS_66 h3, PS_7 h3, pz_cl (by omega), PS_ch h3 (i := pz_cut (pz_tok cs k)) (by omega)]
    have e3 : s3.1 b 3 = pz_deg (pz_tok cs k) 0 := by have := PS_B h3 (rc := 0) 3 (by decide); rw [Nat.add_zero] at this; rw [this]; simp [jx_u2]
    have e4 : s3.1 b 4 = pz_deg (pz_tok cs k) (pz_cut (pz_tok cs k) + 1) := by have := PS_B h3 (rc := 0) 4 (by decide); rw [Nat.add_zero] at this; rw [this]; simp [jx_u2]
    rw [e3, e4]
    refine ⟨fun q => hf (fun z => q (by rw [z.1])) s3 _ _ h3, fun q => ⟨ix_tk (by omega), fun q2 => hf (fun z => q2 z.2.1) s3 _ _ h3, fun q2 => ⟨ok_b hb, fun q3 => hf (fun z => z.2.2.1 q3) s3 _ _ h3, fun q3 => ⟨fun q4 => hf (fun z => z.2.2.2 q4) s3 _ _ h3, fun q4 => ?_⟩⟩⟩⟩
    have e : (pz_tok cs k).length = pz_ten (pz_tok cs k) := (nI_eq (by omega) (by omega)).mp q
    exact sX2_takeToken h3 (fun s' hs' _ => ⟨fun z => absurd z (by decide), fun _ => hs ⟨e, q2, q3, q4⟩ s' hs'⟩)
  have mid : ∀ (a1 : Int32), a1 = nI (pz_cut (pz_tok cs k)) → wX2_takeTemperatures_b16 post 65 a1 s := by
    intro a1 e1
    subst e1
    unfold wX2_takeTemperatures_b16
    rw [PS_66 h, nI_1, pz_cl (by omega), PS_ch h (i := pz_cut (pz_tok cs k) + 1) (by omega)]
    refine ⟨ok_rd, ix_tk (by omega), fun q => key _ _ rfl ?_, fun q => key _ _ rfl ?_⟩
    · unfold pz_ten; rw [if_neg q]; exact nI_add _ 3
    · unfold pz_ten; rw [if_pos q]; exact nI_add _ 4
  have e0 : s.1 66 ((0 : Int32).toNatClampNeg) = pz_ch (pz_tok cs k) 0 := PS_ch h (i := 0) (by omega)
  rw [PS_66 h, e0]
  refine ⟨ok_rd, ix_tk (i := 0) (by omega), fun q => mid _ ?_, fun q => mid _ ?_⟩
  · unfold pz_cut; rw [if_neg q]; rfl
  · unfold pz_cut; rw [if_pos q]; rfl
end PZQ
