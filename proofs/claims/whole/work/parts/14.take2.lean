/-! ===== the Reader's takers: wind, sky's beginnings, periods, FM ===== -/
def pz_var (w : List Int32) : Prop := pz_hold w 0 [86, 82, 66] = true
def pz_std (w : List Int32) : Prop := pz_dig w 0 3 ≠ -1 ∧ ¬ 360 < pz_dig w 0 3 ∧ (pz_dig w 0 3 - pz_dig w 0 3 / 10 * 10) = 0
def pz_gu (w : List Int32) : Prop := pz_ch w 5 = 71
def pz_gst (w : List Int32) : Int32 := if pz_ch w 5 = 71 then pz_dig w 6 2 else 0
def pz_unt (w : List Int32) : Nat := if pz_ch w 5 = 71 then 8 else 5
def pz_dir (w : List Int32) : Int32 := if pz_hold w 0 [86, 82, 66] = true then -2 else pz_dig w 0 3
def pz_wnd (w : List Int32) : Prop := (pz_var w ∨ pz_std w) ∧ pz_dig w 3 2 ≠ -1 ∧ (pz_gu w → pz_dig w 3 2 < pz_gst w) ∧ pz_hold w (pz_unt w) [75, 84] = true ∧ w.length = pz_unt w + 2
def pz_wndB (B : Nat → Nat → Int32) (g : Nat) (w : List Int32) : Nat → Nat → Int32 := jx_u2 (jx_u2 (jx_u2 B (4 + 3 * g) 4 (pz_dir w)) (4 + 3 * g) 5 (pz_dig w 3 2)) (4 + 3 * g) 6 (pz_gst w)
section PZR
variable {s0 : jx_St} {cs : List Int32} {src b : Nat} {days : Int32} {s : jx_St} {k : Nat} {B : Nat → Nat → Int32} {lf : Int32} {post : Int32 → jx_St → Prop} {g : Nat}
theorem PS_setg (h : pz_PS s0 cs src b days s k B lf) (i : Nat) (v : Int32) (hg : g < 9) : pz_PS s0 cs src b days (jx_sI s (b + 4 + 3 * g) i v) k (jx_u2 B (4 + 3 * g) i v) lf := by
  have := PS_set h (rc := 4 + 3 * g) i v (by omega)
  rwa [← Nat.add_assoc] at this
theorem PS_Bg (h : pz_PS s0 cs src b days s k B lf) (i : Nat) (hg : g < 9) : s.1 (b + 4 + 3 * g) i = B (4 + 3 * g) i := by
  have := PS_B h (rc := 4 + 3 * g) i (by omega)
  rwa [← Nat.add_assoc] at this
theorem sX2_takeWind (h : pz_PS s0 cs src b days s k B lf) (hg : g < 9) (hs : pz_wnd (pz_tok cs k) → ∀ s' : jx_St, pz_PS s0 cs src b days s' (k + 1) (pz_wndB B g (pz_tok cs k)) lf → post 1 s') (hn : ¬ pz_wnd (pz_tok cs k) → post 0 s) : wX2_takeWind post 65 (b + 4 + 3 * g) s := by
  have hb := PS_b h
  have hT := PS_T h
  have hlen := hT.2.2.1
  have hun : pz_unt (pz_tok cs k) = 5 ∨ pz_unt (pz_tok cs k) = 8 := by unfold pz_unt; split <;> simp
  have k162 : pz_wnd (pz_tok cs k) → ∀ v, v = pz_dir (pz_tok cs k) → wX2_takeWind_b162 post 65 (b + 4 + 3 * g) (pz_dig (pz_tok cs k) 3 2) (pz_gst (pz_tok cs k)) (b + 4 + 3 * g) v s := by
    intro hw v hv
    subst hv
    unfold wX2_takeWind_b162
    refine ⟨ok_g hb hg, fun s1 e1 => ⟨ok_g hb hg, fun s2 e2 s3 e3 => ⟨ok_rd, ?_⟩⟩⟩
    have h1 := PS_setg h 4 (pz_dir (pz_tok cs k)) hg
    rw [← e1] at h1
    have h2 := PS_setg h1 5 (pz_dig (pz_tok cs k) 3 2) hg
    rw [← e2] at h2
    have h3 := PS_setg h2 6 (pz_gst (pz_tok cs k)) hg
    rw [← e3] at h3
    exact sX2_takeToken h3 (fun s' hs' _ => hs hw s' hs')
  have k127 : ∀ a2 : Int32, (a2 = 0 ↔ ¬ pz_var (pz_tok cs k)) → (pz_var (pz_tok cs k) ∨ pz_std (pz_tok cs k)) → pz_dig (pz_tok cs k) 3 2 ≠ -1 → (pz_gu (pz_tok cs k) → pz_dig (pz_tok cs k) 3 2 < pz_gst (pz_tok cs k)) → wX2_takeWind_b127 post 65 (b + 4 + 3 * g) a2 (pz_dig (pz_tok cs k) 0 3) (pz_dig (pz_tok cs k) 3 2) (pz_gst (pz_tok cs k)) (nI (pz_unt (pz_tok cs k))) s := by
    intro a2 h2 hv hsp hgu
    unfold wX2_takeWind_b127
    refine ⟨ok_rd, sX2_holds hT (pz_unt (pz_tok cs k)) rfl (by decide) (show pz_unt (pz_tok cs k) + 2 ≤ 16 by omega) ?_⟩
    intro _
    rw [PS_w h, show (nI (pz_unt (pz_tok cs k)) + 2 : Int32) = nI (pz_unt (pz_tok cs k) + 2) from nI_add _ 2]
    by_cases hh : pz_hold (pz_tok cs k) (pz_unt (pz_tok cs k)) [75, 84] = true
    · rw [show jx_sby.getD 3 [] = [75, 84] from rfl, if_pos hh]
      refine ⟨fun z => absurd z (by decide), fun _ => ⟨fun q => ?_, fun q => hn (fun z => q (by rw [z.2.2.2.2]))⟩⟩
      have e : (pz_tok cs k).length = pz_unt (pz_tok cs k) + 2 := (nI_eq (by omega) (by omega)).mp q
      have hw : pz_wnd (pz_tok cs k) := ⟨hv, hsp, hgu, hh, e⟩
      refine ⟨fun q2 => k162 hw _ ?_, fun q2 => k162 hw _ ?_⟩
      · unfold pz_dir; rw [if_neg (show ¬ pz_hold (pz_tok cs k) 0 [86, 82, 66] = true from h2.mp q2)]
      · unfold pz_dir; rw [if_pos (by by_cases z : pz_var (pz_tok cs k); exact z; exact absurd (h2.mpr z) q2)]
    · rw [show jx_sby.getD 3 [] = [75, 84] from rfl, if_neg hh]
      exact ⟨fun _ => hn (fun z => hh z.2.2.2.1), fun z => absurd rfl z⟩
  have k107 : ∀ a2 a6 : Int32, (a2 = 0 ↔ ¬ pz_var (pz_tok cs k)) → (a6 = 0 ↔ ¬ pz_gu (pz_tok cs k)) → (pz_var (pz_tok cs k) ∨ pz_std (pz_tok cs k)) → wX2_takeWind_b107 post 65 (b + 4 + 3 * g) a2 (pz_dig (pz_tok cs k) 0 3) (pz_dig (pz_tok cs k) 3 2) a6 (pz_gst (pz_tok cs k)) (nI (pz_unt (pz_tok cs k))) s := by
    intro a2 a6 h2 h6 hv
    unfold wX2_takeWind_b107
    refine ⟨fun q => hn (fun z => z.2.1 q), fun q => ⟨fun q2 => k127 a2 h2 hv q (fun z => absurd z (h6.mp q2)), fun q2 => ⟨fun q3 => k127 a2 h2 hv q (fun _ => q3), fun q3 => hn (fun z => q3 (z.2.2.1 ?_))⟩⟩⟩
    by_cases y : pz_gu (pz_tok cs k)
    · exact y
    · exact absurd (h6.mpr y) q2
  have k83 : ∀ a2 a4 a6 : Int32, (a2 = 0 ↔ ¬ pz_var (pz_tok cs k)) → (a4 = 0 ↔ ¬ pz_std (pz_tok cs k)) → (a6 = 0 ↔ ¬ pz_gu (pz_tok cs k)) → wX2_takeWind_b83 post 65 (b + 4 + 3 * g) a2 (pz_dig (pz_tok cs k) 0 3) a4 (pz_dig (pz_tok cs k) 3 2) a6 (pz_gst (pz_tok cs k)) s := by
    intro a2 a4 a6 h2 h4 h6
    unfold wX2_takeWind_b83
    have hv : ¬ a2 = 0 → pz_var (pz_tok cs k) := fun q => by by_cases z : pz_var (pz_tok cs k); exact z; exact absurd (h2.mpr z) q
    have hst : ¬ a4 = 0 → pz_std (pz_tok cs k) := fun q => by by_cases z : pz_std (pz_tok cs k); exact z; exact absurd (h4.mpr z) q
    refine ⟨fun q => ?_, fun q => ?_⟩
    · have e : pz_unt (pz_tok cs k) = 5 := by unfold pz_unt; rw [if_neg (show ¬ pz_ch (pz_tok cs k) 5 = 71 from h6.mp q)]
      rw [show (5 : Int32) = nI (pz_unt (pz_tok cs k)) by rw [e]; rfl]
      exact ⟨fun q2 => k107 a2 a6 h2 h6 (Or.inl (hv q2)), fun q2 => ⟨fun q3 => hn (fun z => z.1.elim (h2.mp q2) (h4.mp q3)), fun q3 => k107 a2 a6 h2 h6 (Or.inr (hst q3))⟩⟩
    · have e : pz_unt (pz_tok cs k) = 8 := by unfold pz_unt; rw [if_pos (by by_cases z : pz_gu (pz_tok cs k); exact z; exact absurd (h6.mpr z) q)]
      rw [show (8 : Int32) = nI (pz_unt (pz_tok cs k)) by rw [e]; rfl]
      exact ⟨fun q2 => k107 a2 a6 h2 h6 (Or.inl (hv q2)), fun q2 => ⟨fun q3 => hn (fun z => z.1.elim (h2.mp q2) (h4.mp q3)), fun q3 => k107 a2 a6 h2 h6 (Or.inr (hst q3))⟩⟩
  have k65 : ∀ a2 a4 a6 : Int32, (a2 = 0 ↔ ¬ pz_var (pz_tok cs k)) → (a4 = 0 ↔ ¬ pz_std (pz_tok cs k)) → (a6 = 0 ↔ ¬ pz_gu (pz_tok cs k)) → wX2_takeWind_b65 post 65 (b + 4 + 3 * g) a2 (pz_dig (pz_tok cs k) 0 3) a4 (pz_dig (pz_tok cs k) 3 2) a6 s := by
    intro a2 a4 a6 h2 h4 h6
    unfold wX2_takeWind_b65
    have key := k83 a2 a4 a6 h2 h4 h6
    refine ⟨fun q => ?_, fun q => ⟨ok_rd, sX2_digits hT 6 2 rfl rfl (by omega) ?_⟩⟩
    · have e : pz_gst (pz_tok cs k) = 0 := by unfold pz_gst; rw [if_neg (show ¬ pz_ch (pz_tok cs k) 5 = 71 from h6.mp q)]
      rw [e] at key; exact key
    · have e : pz_gst (pz_tok cs k) = pz_dig (pz_tok cs k) 6 2 := by unfold pz_gst; rw [if_pos (by by_cases z : pz_gu (pz_tok cs k); exact z; exact absurd (h6.mpr z) q)]
      rw [e] at key; exact key
  have k39 : ∀ a2 a4 : Int32, (a2 = 0 ↔ ¬ pz_var (pz_tok cs k)) → (a4 = 0 ↔ ¬ pz_std (pz_tok cs k)) → wX2_takeWind_b39 post 65 (b + 4 + 3 * g) a2 (pz_dig (pz_tok cs k) 0 3) a4 s := by
    intro a2 a4 h2 h4
    unfold wX2_takeWind_b39
    refine ⟨ok_rd, sX2_digits hT 3 2 rfl rfl (by omega) ?_⟩
    have e5 : s.1 66 ((5 : Int32).toNatClampNeg) = pz_ch (pz_tok cs k) 5 := PS_ch h (i := 5) (by omega)
    rw [PS_66 h, e5]
    exact ⟨ix_tk (i := 5) (by omega), fun q => k65 a2 a4 0 h2 h4 ⟨fun _ => q, fun _ => rfl⟩, fun q => k65 a2 a4 1 h2 h4 ⟨fun z => absurd z (by decide), fun z => absurd q z⟩⟩
  unfold wX2_takeWind
  refine ⟨ok_rd, sX2_holds hT 0 rfl (by decide) (by decide) ?_⟩
  intro _
  refine sX2_digits hT 0 3 rfl rfl (by omega) ?_
  have h2 : (if pz_hold (pz_tok cs k) 0 (jx_sby.getD 2 []) = true then (1 : Int32) else 0) = 0 ↔ ¬ pz_var (pz_tok cs k) := by
    by_cases z : pz_hold (pz_tok cs k) 0 [86, 82, 66] = true
    · rw [show jx_sby.getD 2 [] = [86, 82, 66] from rfl, if_pos z]; exact ⟨fun y => absurd y (by decide), fun y => absurd z y⟩
    · rw [show jx_sby.getD 2 [] = [86, 82, 66] from rfl, if_neg z]; exact ⟨fun _ => z, fun _ => rfl⟩
  refine ⟨fun q => k39 _ 0 h2 ⟨fun _ z => z.1 q, fun _ => rfl⟩, fun q => ⟨fun q2 => k39 _ 0 h2 ⟨fun _ z => z.2.1 q2, fun _ => rfl⟩, fun q2 => ⟨fun q3 => k39 _ 0 h2 ⟨fun _ z => q3 z.2.2, fun _ => rfl⟩, fun q3 => k39 _ 1 h2 ⟨fun z => absurd z (by decide), fun z => absurd ⟨q, q2, q3⟩ z⟩⟩⟩⟩
def pz_cavB (B : Nat → Nat → Int32) (g : Nat) : Nat → Nat → Int32 := jx_u2 (jx_u2 (jx_u2 B (4 + 3 * g) 7 10000) (4 + 3 * g) 8 0) (4 + 3 * g) 9 0
theorem sX2_takeCavok (h : pz_PS s0 cs src b days s k B lf) (hg : g < 9) (hs : (pz_tok cs k) = [67, 65, 86, 79, 75] → ∀ s' : jx_St, pz_PS s0 cs src b days s' (k + 1) (pz_cavB B g) lf → post 1 s') (hn : (pz_tok cs k) ≠ [67, 65, 86, 79, 75] → post 0 s) : wX2_takeCavok post 65 (b + 4 + 3 * g) s := by
  have hb := PS_b h
  unfold wX2_takeCavok
  refine ⟨ok_rd, sX2_takeWord h (by decide) (by decide) (fun e s1 h1 _ => ⟨fun _ => ⟨ok_g hb hg, fun s2 e2 s3 e3 s4 e4 => ?_⟩, fun z => absurd z (by decide)⟩) (fun e _ => ⟨fun z => absurd rfl z, fun _ => hn e⟩)⟩
  have h2 := PS_setg h1 7 10000 hg
  rw [← e2] at h2
  have h3 := PS_setg h2 8 0 hg
  rw [← e3] at h3
  have h4 := PS_setg h3 9 0 hg
  rw [← e4] at h4
  exact hs e s4 h4
def pz_vis (w : List Int32) : Prop := w.length = 4 ∧ pz_dig w 0 4 ≠ -1
theorem sX2_takeVisibility (h : pz_PS s0 cs src b days s k B lf) (hg : g < 9) (hs : pz_vis (pz_tok cs k) → ∀ s' : jx_St, pz_PS s0 cs src b days s' (k + 1) (jx_u2 B (4 + 3 * g) 7 (pz_dig (pz_tok cs k) 0 4)) lf → post 1 s') (hn : ¬ pz_vis (pz_tok cs k) → post 0 s) : wX2_takeVisibility post 65 (b + 4 + 3 * g) s := by
  have hb := PS_b h
  have hlen := (PS_T h).2.2.1
  unfold wX2_takeVisibility
  refine ⟨ok_rd, sX2_digits (PS_T h) 0 4 rfl rfl (by omega) ?_⟩
  rw [PS_w h]
  refine ⟨fun q => hn (fun z => q (by rw [z.1]; rfl)), fun q => ⟨fun q2 => ⟨ok_g hb hg, fun s2 e2 => ?_⟩, fun q2 => hn (fun z => z.2 q2)⟩⟩
  have e : (pz_tok cs k).length = 4 := (nI_eq (b := 4) (by omega) (by omega)).mp q
  have h2 := PS_setg h 7 (pz_dig (pz_tok cs k) 0 4) hg
  rw [← e2] at h2
  exact sX2_takeToken h2 (fun s' hs' _ => hs ⟨e, q2⟩ s' hs')
/-- a period's token, and its minutes behind the earliest -/
def pz_per (days : Int32) (w : List Int32) : Prop := w.length = 9 ∧ pz_ch w 4 = 47 ∧ pz_hour days w 0 23 ≠ -1 ∧ pz_hour days w 5 24 ≠ -1
def pz_pb (days : Int32) (w : List Int32) (ea : Int32) : Int32 := if ea ≤ pz_hour days w 0 23 then pz_hour days w 0 23 else pz_hour days w 0 23 + days * 1440
def pz_pe (days : Int32) (w : List Int32) (ea : Int32) : Int32 := if ea ≤ pz_hour days w 0 23 ∧ pz_hour days w 0 23 < pz_hour days w 5 24 then pz_hour days w 5 24 else pz_hour days w 5 24 + days * 1440
def pz_perB (B : Nat → Nat → Int32) (g : Nat) (days : Int32) (w : List Int32) (ea : Int32) : Nat → Nat → Int32 := jx_u2 (jx_u2 B (4 + 3 * g) 2 (pz_pb days w ea)) (4 + 3 * g) 3 (pz_pe days w ea)
theorem sX2_findPeriod (h : pz_PS s0 cs src b days s k B lf) (hg : g < 9) {ea : Int32} (hs : pz_per days (pz_tok cs k) → ¬ pz_pe days (pz_tok cs k) ea ≤ pz_pb days (pz_tok cs k) ea → ∀ s' : jx_St, pz_PS s0 cs src b days s' k (pz_perB B g days (pz_tok cs k) ea) lf → post 1 s') (hf : ¬ (pz_per days (pz_tok cs k) ∧ ¬ pz_pe days (pz_tok cs k) ea ≤ pz_pb days (pz_tok cs k) ea) → ∀ s' B' lf', pz_PS s0 cs src b days s' k B' lf' → post 0 s') : wX2_findPeriod post 65 (b + 4 + 3 * g) ea s := by
  have hb := PS_b h
  have hT := PS_T h
  have hlen := hT.2.2.1
  have hd : s.1 65 5 = days := h.2.2.2.2.1
  have k113 : pz_per days (pz_tok cs k) → ∀ (s1 : jx_St) (v : Int32), v = pz_pe days (pz_tok cs k) ea → pz_PS s0 cs src b days s1 k (jx_u2 B (4 + 3 * g) 2 (pz_pb days (pz_tok cs k) ea)) lf → wX2_findPeriod_b113 post (b + 4 + 3 * g) (b + 4 + 3 * g) v s1 := by
    intro hw s1 v hv h1
    subst hv
    unfold wX2_findPeriod_b113
    refine ⟨ok_g hb hg, fun s2 e2 => ⟨ok_g hb hg, ?_⟩⟩
    have h2 := PS_setg h1 3 (pz_pe days (pz_tok cs k) ea) hg
    rw [← e2] at h2
    have e3 : s2.1 (b + 4 + 3 * g) 3 = pz_pe days (pz_tok cs k) ea := by rw [PS_Bg h2 3 hg]; simp [jx_u2]
    have e4 : s2.1 (b + 4 + 3 * g) 2 = pz_pb days (pz_tok cs k) ea := by rw [PS_Bg h2 2 hg]; simp [jx_u2]
    rw [e3, e4]
    exact ⟨fun q => hf (fun z => z.2 q) s2 _ _ h2, fun q => hs hw q s2 h2⟩
  have k82 : pz_per days (pz_tok cs k) → ∀ (a5 v : Int32), (a5 = 0 ↔ ea ≤ pz_hour days (pz_tok cs k) 0 23) → v = pz_pb days (pz_tok cs k) ea → wX2_findPeriod_b82 post 65 (b + 4 + 3 * g) (pz_hour days (pz_tok cs k) 0 23) (pz_hour days (pz_tok cs k) 5 24) a5 (b + 4 + 3 * g) v s := by
    intro hw a5 v h5 hv
    subst hv
    unfold wX2_findPeriod_b82
    refine ⟨ok_g hb hg, fun s1 e1 => ?_⟩
    have h1 := PS_setg h 2 (pz_pb days (pz_tok cs k) ea) hg
    rw [← e1] at h1
    have hd1 : s1.1 65 5 = days := h1.2.2.2.2.1
    rw [hd1]
    refine ⟨fun q => ⟨ok_rd, k113 hw s1 _ ?_ h1⟩, fun q => ⟨fun q2 => k113 hw s1 _ ?_ h1, fun q2 => ⟨ok_rd, k113 hw s1 _ ?_ h1⟩⟩⟩
    · unfold pz_pe; rw [if_neg (fun z => q (h5.mpr z.1))]
    · unfold pz_pe; rw [if_pos ⟨h5.mp q, q2⟩]
    · unfold pz_pe; rw [if_neg (fun z => q2 z.2)]
  have k60 : pz_per days (pz_tok cs k) → ∀ (k0 : Int32), (k0 = 0 ↔ ea ≤ pz_hour days (pz_tok cs k) 0 23) → wX2_findPeriod_b60 post 65 (b + 4 + 3 * g) (pz_hour days (pz_tok cs k) 0 23) (pz_hour days (pz_tok cs k) 5 24) k0 s := by
    intro hw k0 h5
    unfold wX2_findPeriod_b60
    rw [hd]
    refine ⟨fun q => k82 hw k0 _ h5 ?_, fun q => ⟨ok_rd, k82 hw k0 _ h5 ?_⟩⟩
    · unfold pz_pb; rw [if_pos (h5.mp q)]
    · unfold pz_pb; rw [if_neg (fun z => q (h5.mpr z))]
  unfold wX2_findPeriod
  refine ⟨ok_rd, sX2_hourAt hT hd 0 rfl (by omega) ?_⟩
  refine sX2_hourAt hT hd 5 rfl (by omega) ?_
  have e4 : s.1 66 ((4 : Int32).toNatClampNeg) = pz_ch (pz_tok cs k) 4 := PS_ch h (i := 4) (by omega)
  rw [PS_w h, PS_66 h, e4]
  refine ⟨fun q => hf (fun z => q (by rw [z.1.1]; rfl)) s _ _ h, fun q => ⟨ix_tk (i := 4) (by omega), fun q2 => hf (fun z => q2 z.1.2.1) s _ _ h, fun q2 => ⟨fun q3 => hf (fun z => z.1.2.2.1 q3) s _ _ h, fun q3 => ⟨fun q4 => ?_, fun q4 => hf (fun z => z.1.2.2.2 q4) s _ _ h⟩⟩⟩⟩
  have e : (pz_tok cs k).length = 9 := (nI_eq (b := 9) (by omega) (by omega)).mp q
  have hw : pz_per days (pz_tok cs k) := ⟨e, q2, q3, q4⟩
  exact ⟨fun q5 => k60 hw 0 ⟨fun _ => q5, fun _ => rfl⟩, fun q5 => k60 hw 1 ⟨fun z => absurd z (by decide), fun z => absurd z q5⟩⟩
/-- the issue's day's first minute -/
def pz_ed (iss : Int32) : Int32 := iss - (iss - iss / 1440 * 1440)
def pz_fpo (days : Int32) (w : List Int32) (ea : Int32) : Prop := pz_per days w ∧ ¬ pz_pe days w ea ≤ pz_pb days w ea ∧ ¬ 1800 < pz_pe days w ea - pz_pb days w ea
theorem sX2_takeForecastPeriod (h : pz_PS s0 cs src b days s k B lf) (hs : pz_fpo days (pz_tok cs k) (pz_ed (B 0 2)) → ∀ s' : jx_St, pz_PS s0 cs src b days s' (k + 1) (pz_perB B 0 days (pz_tok cs k) (pz_ed (B 0 2))) lf → post 1 s') (hf : ¬ pz_fpo days (pz_tok cs k) (pz_ed (B 0 2)) → ∀ s' B' lf', pz_PS s0 cs src b days s' k B' lf' → post 0 s') : wX2_takeForecastPeriod post 65 (b + 4 + 3 * 0) s := by
  have hb := PS_b h
  unfold wX2_takeForecastPeriod
  have e2 : s.1 b 2 = B 0 2 := PS_B h (rc := 0) 2 (by decide)
  rw [PS_7 h, e2]
  refine ⟨ok_rd, ok_b hb, fun x ex => ?_⟩
  have ex : x = pz_ed (B 0 2) := ex
  subst ex
  refine sX2_findPeriod h (by decide) (fun hw q s1 h1 _ => ⟨fun z => absurd z (by decide), fun _ => ⟨ok_g hb (by decide), ?_⟩⟩) (fun q s' B' lf' h' _ => ⟨fun _ => hf (fun z => q ⟨z.1, z.2.1⟩) s' B' lf' h', fun z => absurd rfl z⟩)
  have e3 : s1.1 (b + 4 + 3 * 0) 3 = pz_pe days (pz_tok cs k) (pz_ed (B 0 2)) := by rw [PS_Bg h1 3 (by decide)]; simp [pz_perB, jx_u2]
  have e4 : s1.1 (b + 4 + 3 * 0) 2 = pz_pb days (pz_tok cs k) (pz_ed (B 0 2)) := by rw [PS_Bg h1 2 (by decide)]; simp [pz_perB, jx_u2]
  rw [e3, e4]
  exact ⟨fun q2 => hf (fun z => z.2.2 q2) s1 _ _ h1, fun q2 => sX2_takeToken h1 (fun s' hs' _ => ⟨fun z => absurd z (by decide), fun _ => hs ⟨hw, q, q2⟩ s' hs'⟩)⟩
def pz_cpo (days : Int32) (w : List Int32) (bg en : Int32) : Prop := pz_per days w ∧ ¬ pz_pe days w bg ≤ pz_pb days w bg ∧ ¬ pz_pb days w bg < bg ∧ ¬ en < pz_pe days w bg
theorem sX2_takeChangePeriod (h : pz_PS s0 cs src b days s k B lf) (hg : g < 9) (hg0 : g ≠ 0) (hs : pz_cpo days (pz_tok cs k) (B 4 2) (B 4 3) → ∀ s' : jx_St, pz_PS s0 cs src b days s' (k + 1) (pz_perB B g days (pz_tok cs k) (B 4 2)) lf → post 1 s') (hf : ¬ pz_cpo days (pz_tok cs k) (B 4 2) (B 4 3) → ∀ s' B' lf', pz_PS s0 cs src b days s' k B' lf' → post 0 s') : wX2_takeChangePeriod post 65 (b + 4 + 3 * g) s := by
  have hb := PS_b h
  unfold wX2_takeChangePeriod
  have e8 : s.2 b 8 = b + 2 := by rw [h.1]; exact h.2.2.2.2.2.2.2.2.2.2.2.2.1
  rw [PS_7 h, e8, show ((0 : Int32).toNatClampNeg) = 0 from rfl, PS_g0 h (g := 0) (by decide)]
  refine ⟨ok_rd, ok_b hb, ix_gs hb (g := 0) (by decide), fun x ex => ?_⟩
  subst ex
  have e2 : s.1 (b + 4 + 3 * 0) 2 = B 4 2 := PS_Bg h 2 (by decide)
  rw [e2]
  refine ⟨ok_g hb (by decide), sX2_findPeriod h hg (fun hw q s1 h1 _ => ⟨fun z => absurd z (by decide), fun _ => ⟨ok_g hb hg, ?_⟩⟩) (fun q s' B' lf' h' _ => ⟨fun _ => hf (fun z => q ⟨z.1, z.2.1⟩) s' B' lf' h', fun z => absurd rfl z⟩)⟩
  have e3 : s1.1 (b + 4 + 3 * g) 3 = pz_pe days (pz_tok cs k) (B 4 2) := by rw [PS_Bg h1 3 hg]; simp [pz_perB, jx_u2]
  have e4 : s1.1 (b + 4 + 3 * g) 2 = pz_pb days (pz_tok cs k) (B 4 2) := by rw [PS_Bg h1 2 hg]; simp [pz_perB, jx_u2]
  have hne : ¬ (4 : Nat) = 4 + 3 * g := by omega
  have e5 : s1.1 (b + 4 + 3 * 0) 2 = B 4 2 := by rw [PS_Bg h1 2 (by decide)]; simp [pz_perB, jx_u2]; intro z; omega
  have e6 : s1.1 (b + 4 + 3 * 0) 3 = B 4 3 := by rw [PS_Bg h1 3 (by decide)]; simp [pz_perB, jx_u2]; intro z; omega
  rw [e3, e4, e5, e6]
  exact ⟨fun q2 => hf (fun z => z.2.2.1 q2) s1 _ _ h1, fun q2 => ⟨fun q3 => hf (fun z => z.2.2.2 q3) s1 _ _ h1, fun q3 => sX2_takeToken h1 (fun s' hs' _ => ⟨fun z => absurd z (by decide), fun _ => hs ⟨hw, q, q2, q3⟩ s' hs'⟩)⟩⟩
/-- an FM's token behind the forecast's beginning bg -/
def pz_fmt (days : Int32) (w : List Int32) (bg : Int32) : Int32 := if bg ≤ pz_time days w 2 then pz_time days w 2 else pz_time days w 2 + days * 1440
def pz_fmo (days : Int32) (w : List Int32) (bg en lf : Int32) : Prop := w.length = 8 ∧ pz_hold w 0 [70, 77] = true ∧ pz_time days w 2 ≠ -1 ∧ ¬ pz_fmt days w bg < bg ∧ ¬ en ≤ pz_fmt days w bg ∧ lf < pz_fmt days w bg
def pz_fmB (B : Nat → Nat → Int32) (g : Nat) (t en : Int32) : Nat → Nat → Int32 := jx_u2 (jx_u2 (jx_u2 B (4 + 3 * g) 0 1) (4 + 3 * g) 2 t) (4 + 3 * g) 3 en
theorem sX2_takeFromTime (h : pz_PS s0 cs src b days s k B lf) (hg : g < 9) (hg0 : g ≠ 0) (hs : pz_fmo days (pz_tok cs k) (B 4 2) (B 4 3) lf → ∀ s' : jx_St, pz_PS s0 cs src b days s' (k + 1) (pz_fmB B g (pz_fmt days (pz_tok cs k) (B 4 2)) (B 4 3)) (pz_fmt days (pz_tok cs k) (B 4 2)) → post 1 s') (hn : ¬ pz_fmo days (pz_tok cs k) (B 4 2) (B 4 3) lf → post 0 s) : wX2_takeFromTime post 65 (b + 4 + 3 * g) s := by
  have hb := PS_b h
  have hlen := (PS_T h).2.2.1
  have hne : ¬ (4 : Nat) = 4 + 3 * g := by omega
  have e2 : s.1 (b + 4 + 3 * 0) 2 = B 4 2 := PS_Bg h 2 (by decide)
  have e3 : s.1 (b + 4 + 3 * 0) 3 = B 4 3 := PS_Bg h 3 (by decide)
  have k61 : (pz_tok cs k).length = 8 → pz_hold (pz_tok cs k) 0 [70, 77] = true → pz_time days (pz_tok cs k) 2 ≠ -1 → ∀ t, t = pz_fmt days (pz_tok cs k) (B 4 2) → wX2_takeFromTime_b61 post 65 (b + 4 + 3 * g) (b + 4 + 3 * 0) t s := by
    intro q1 q2 q3 t ht
    subst ht
    unfold wX2_takeFromTime_b61
    rw [e2, e3, h.2.2.2.2.2.1]
    refine ⟨ok_g hb (by decide), fun q4 => hn (fun z => z.2.2.2.1 q4), fun q4 => ⟨fun q5 => hn (fun z => z.2.2.2.2.1 q5), fun q5 => ⟨ok_rd, fun q6 s1 f1 => ⟨ok_g hb hg, fun s2 f2 s3 f3 s4 f4 => ?_⟩, fun q6 => hn (fun z => q6 z.2.2.2.2.2)⟩⟩⟩
    have h1 := PS_lf h (pz_fmt days (pz_tok cs k) (B 4 2))
    rw [← f1] at h1
    have h2 := PS_setg h1 0 1 hg
    rw [← f2] at h2
    have h3 := PS_setg h2 2 (pz_fmt days (pz_tok cs k) (B 4 2)) hg
    rw [← f3] at h3
    have e5 : s3.1 (b + 4 + 3 * 0) 3 = B 4 3 := by rw [PS_Bg h3 3 (by decide)]; simp [jx_u2, hg0]
    rw [e5] at f4
    have h4 := PS_setg h3 3 (B 4 3) hg
    rw [← f4] at h4
    exact sX2_takeToken h4 (fun s' hs' _ => hs ⟨q1, q2, q3, q4, q5, q6⟩ s' hs')
  unfold wX2_takeFromTime
  have e8 : s.2 b 8 = b + 2 := by rw [h.1]; exact h.2.2.2.2.2.2.2.2.2.2.2.2.1
  rw [PS_7 h, e8, show ((0 : Int32).toNatClampNeg) = 0 from rfl, PS_g0 h (g := 0) (by decide)]
  refine ⟨ok_rd, ok_b hb, ix_gs hb (g := 0) (by decide), fun x ex => ?_⟩
  subst ex
  refine sX2_timeAt (PS_T h) h.2.2.2.2.1 2 rfl (by omega) ?_
  rw [PS_w h]
  refine ⟨fun q => hn (fun z => q (by rw [z.1]; rfl)), fun q => ?_⟩
  have e : (pz_tok cs k).length = 8 := (nI_eq (b := 8) (by omega) (by omega)).mp q
  refine sX2_holds (PS_T h) 0 rfl (by decide) (by decide) ?_
  intro _
  by_cases hh : pz_hold (pz_tok cs k) 0 [70, 77] = true
  · rw [show jx_sby.getD 13 [] = [70, 77] from rfl, if_pos hh, e2, h.2.2.2.2.1]
    refine ⟨fun z => absurd z (by decide), fun _ => ⟨fun q2 => ⟨ok_g hb (by decide), fun q3 => k61 e hh q2 _ ?_, fun q3 x ex => k61 e hh q2 x ?_⟩, fun q2 => hn (fun z => z.2.2.1 q2)⟩⟩
    · unfold pz_fmt; rw [if_pos q3]
    · rw [ex]; unfold pz_fmt; rw [if_neg q3]
  · rw [show jx_sby.getD 13 [] = [70, 77] from rfl, if_neg hh]
    exact ⟨fun _ => hn (fun z => hh z.2.1), fun z => absurd rfl z⟩
end PZR
