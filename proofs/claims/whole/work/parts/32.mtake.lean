/-! ===== the reference's draft, and its takers: wind, visibility, CAVOK ===== -/
def mz_D (m : jx_St) (gm : Nat) (B : pz_Bt) : Prop :=
  (∀ g f, g ≤ gm → g < 9 → f < 10 → m.1 5 (10 * g + f) = B (4 + 3 * g) f) ∧ (∀ g f, gm < g → g < 9 → f < 10 → m.1 5 (10 * g + f) = if f < 2 then 0 else -1) ∧
  (∀ g j, g ≤ gm → g < 9 → j < 3 → nI j < B (4 + 3 * g) 8 → m.1 6 (3 * g + j) = B (5 + 3 * g) j) ∧ (∀ g j, g ≤ gm → g < 9 → j < 4 → nI j < B (4 + 3 * g) 9 → m.1 7 (4 * g + j) = B (6 + 3 * g) j)
def mz_P (m0 : jx_St) (cs : List Int32) (nt : Nat) (days : Int32) (g : Nat) (hd lt : Nat → Int32) (m : jx_St) (k : Nat) (B : pz_Bt) : Prop :=
  mz_S m0 cs nt days m k ∧ mz_D m g B ∧ (∀ i, i ≠ 5 → m.1 0 i = hd i) ∧ ∀ i, m.1 4 i = lt i
section MZP
variable {m0 : jx_St} {cs : List Int32} {nt : Nat} {days : Int32} {g : Nat} {hd lt : Nat → Int32} {m : jx_St} {k : Nat} {B : pz_Bt} {post : Int32 → jx_St → Prop}
theorem MP_told (h : mz_P m0 cs nt days g hd lt m k B) (hg : g < 9) {f : Nat} (v : Int32) (hf : f < 10) (h8 : f = 8 → ∀ j, j < 3 → nI j < v → m.1 6 (3 * g + j) = B (5 + 3 * g) j) (h9 : f = 9 → ∀ j, j < 4 → nI j < v → m.1 7 (4 * g + j) = B (6 + 3 * g) j) : mz_P m0 cs nt days g hd lt (jx_sI m 5 (10 * g + f) v) k (jx_u2 B (4 + 3 * g) f v) := by
  obtain ⟨hS, ⟨d1, d2, d3, d4⟩, hh, hl⟩ := h
  refine ⟨MS_set hS v (Or.inr ⟨by decide, by decide⟩), ⟨fun g' f' a1 a2 a3 => ?_, fun g' f' a1 a2 a3 => ?_, fun g' j a1 a2 a3 a4 => ?_, fun g' j a1 a2 a3 a4 => ?_⟩, fun i hi => by rw [pz_s1, if_neg (fun z => absurd z.1 (by decide))]; exact hh i hi, fun i => by rw [pz_s1, if_neg (fun z => absurd z.1 (by decide))]; exact hl i⟩
  · rw [pz_s1]
    unfold jx_u2
    by_cases q : g' = g ∧ f' = f
    · rw [if_pos ⟨rfl, by omega⟩, if_pos ⟨by omega, q.2⟩]
    · rw [if_neg (fun z => q ⟨by omega, by omega⟩), if_neg (fun z => q ⟨by omega, z.2⟩)]; exact d1 g' f' a1 a2 a3
  · rw [pz_s1, if_neg (fun z => by omega)]; exact d2 g' f' a1 a2 a3
  · rw [pz_s1, if_neg (fun z => absurd z.1 (by decide))]
    have n5 : ¬ (5 + 3 * g' = 4 + 3 * g ∧ j = f) := fun z => by omega
    have e5 : jx_u2 B (4 + 3 * g) f v (5 + 3 * g') j = B (5 + 3 * g') j := by unfold jx_u2; rw [if_neg n5]
    rw [e5]
    by_cases q : g' = g ∧ f = 8
    · obtain ⟨q1, q2⟩ := q
      subst q1; subst q2
      simp [jx_u2] at a4
      exact h8 rfl j a3 a4
    · have n8 : ¬ (4 + 3 * g' = 4 + 3 * g ∧ 8 = f) := fun z => q ⟨by omega, z.2.symm⟩
      have e8 : jx_u2 B (4 + 3 * g) f v (4 + 3 * g') 8 = B (4 + 3 * g') 8 := by unfold jx_u2; rw [if_neg n8]
      rw [e8] at a4
      exact d3 g' j a1 a2 a3 a4
  · rw [pz_s1, if_neg (fun z => absurd z.1 (by decide))]
    have n5 : ¬ (6 + 3 * g' = 4 + 3 * g ∧ j = f) := fun z => by omega
    have e5 : jx_u2 B (4 + 3 * g) f v (6 + 3 * g') j = B (6 + 3 * g') j := by unfold jx_u2; rw [if_neg n5]
    rw [e5]
    by_cases q : g' = g ∧ f = 9
    · obtain ⟨q1, q2⟩ := q
      subst q1; subst q2
      simp [jx_u2] at a4
      exact h9 rfl j a3 a4
    · have n8 : ¬ (4 + 3 * g' = 4 + 3 * g ∧ 9 = f) := fun z => q ⟨by omega, z.2.symm⟩
      have e8 : jx_u2 B (4 + 3 * g) f v (4 + 3 * g') 9 = B (4 + 3 * g') 9 := by unfold jx_u2; rw [if_neg n8]
      rw [e8] at a4
      exact d4 g' j a1 a2 a3 a4
theorem MP_next (h : mz_P m0 cs nt days g hd lt m k B) (hw : (pz_tok cs k).length ≠ 0) {v : Int32} (hv : v = m.1 0 5 + 1) : mz_P m0 cs nt days g hd lt (jx_sI m 0 5 v) (k + 1) B := by
  obtain ⟨hS, ⟨d1, d2, d3, d4⟩, hh, hl⟩ := h
  have f : ∀ c i, c ≠ 0 → (jx_sI m 0 5 v).1 c i = m.1 c i := fun c i hc => by rw [pz_s1, if_neg (fun z => hc z.1)]
  refine ⟨MS_next hS hw (by rw [hv, MS_at hS, nI_1]), ⟨fun g' f' a1 a2 a3 => by rw [f 5 _ (by decide)]; exact d1 g' f' a1 a2 a3, fun g' f' a1 a2 a3 => by rw [f 5 _ (by decide)]; exact d2 g' f' a1 a2 a3, fun g' j a1 a2 a3 a4 => by rw [f 6 _ (by decide)]; exact d3 g' j a1 a2 a3 a4, fun g' j a1 a2 a3 a4 => by rw [f 7 _ (by decide)]; exact d4 g' j a1 a2 a3 a4⟩, fun i hi => by rw [pz_s1, if_neg (fun z => hi z.2)]; exact hh i hi, fun i => by rw [f 4 i (by decide)]; exact hl i⟩
theorem MP_15 (h : mz_P m0 cs nt days g hd lt m k B) : m.2 0 15 = 5 := h.1.1.2.2.2.2.1
theorem ix_told {g f : Nat} (hg : g < 9) (hf : f < 10) : jx_ix jx_LM 6 5 (nI (10 * g + f)) := ix_m (by decide) rfl (by omega) (by decide)
theorem pz_10g (g f : Nat) : ((10 * nI g) + nI f : Int32) = nI (10 * g + f) := by rw [show (10 : Int32) = nI 10 from rfl, pk_mul, nI_add]
theorem pz_hold2 {w : List Int32} {f : Nat} {x y : Int32} : pz_hold w f [x, y] = true ↔ pz_ch w f = x ∧ pz_ch w (f + 1) = y := by
  rw [pz_hold, pz_hold, pz_hold]
  by_cases q : pz_ch w f = x
  · rw [if_pos q]
    by_cases q2 : pz_ch w (f + 1) = y
    · rw [if_pos q2]; exact ⟨fun _ => ⟨q, q2⟩, fun _ => rfl⟩
    · rw [if_neg q2]; exact ⟨fun z => absurd z (by decide), fun z => absurd z.2 q2⟩
  · rw [if_neg q]; exact ⟨fun z => absurd z (by decide), fun z => absurd z.1 q⟩
theorem pz_hold3 {w : List Int32} {f : Nat} {x y z : Int32} : pz_hold w f [x, y, z] = true ↔ pz_ch w f = x ∧ pz_ch w (f + 1) = y ∧ pz_ch w (f + 2) = z := by
  have e : pz_hold w f [x, y, z] = if pz_ch w f = x then pz_hold w (f + 1) [y, z] else false := by rw [pz_hold]
  rw [e]
  by_cases q : pz_ch w f = x
  · rw [if_pos q, pz_hold2]; exact ⟨fun h => ⟨q, h⟩, fun h => h.2⟩
  · rw [if_neg q]; exact ⟨fun h => absurd h (by decide), fun h => absurd h.1 q⟩
theorem sX4_wind (h : mz_P m0 cs nt days g hd lt m k B) (hg : g < 9) (hs : pz_wnd (pz_tok cs k) → ∀ m' : jx_St, mz_P m0 cs nt days g hd lt m' (k + 1) (pz_wndB B g (pz_tok cs k)) → post 1 m') (hn : ¬ pz_wnd (pz_tok cs k) → post 0 m) : wX4_wind post 0 (nI g) m := by
  have hS := h.1
  have hV := hS.2.1
  have hlen := MS_len hS k
  have k173 : ∀ a4 a5 a6 kk : Int32, (kk = 0 ∧ ¬ pz_wnd (pz_tok cs k)) ∨ (kk = 1 ∧ pz_wnd (pz_tok cs k) ∧ a4 = pz_dir (pz_tok cs k) ∧ a5 = pz_dig (pz_tok cs k) 3 2 ∧ a6 = pz_gst (pz_tok cs k)) → wX4_wind_b173 post 0 (nI g) a4 a5 a6 kk m := by
    intro a4 a5 a6 kk hk
    unfold wX4_wind_b173
    rcases hk with ⟨rfl, hw⟩ | ⟨rfl, hw, rfl, rfl, rfl⟩
    · exact ⟨fun _ => ⟨Or.inl rfl, hn hw⟩, fun z => absurd rfl z⟩
    · refine ⟨fun z => absurd z (by decide), fun _ => ⟨ok_m, ?_⟩⟩
      rw [MP_15 h, show ((10 * nI g) + 4 : Int32) = nI (10 * g + 4) from pz_10g g 4, show ((10 * nI g) + 5 : Int32) = nI (10 * g + 5) from pz_10g g 5, show ((10 * nI g) + 6 : Int32) = nI (10 * g + 6) from pz_10g g 6, pz_cl (by omega), pz_cl (by omega), pz_cl (by omega)]
      refine ⟨ix_told hg (by decide), fun s1 e1 => ?_⟩
      have h1 := MP_told h hg (f := 4) (pz_dir (pz_tok cs k)) (by decide) (fun z => absurd z (by decide)) (fun z => absurd z (by decide))
      rw [← e1] at h1
      rw [MP_15 h1]
      refine ⟨ix_told hg (by decide), fun s2 e2 => ?_⟩
      have h2 := MP_told h1 hg (f := 5) (pz_dig (pz_tok cs k) 3 2) (by decide) (fun z => absurd z (by decide)) (fun z => absurd z (by decide))
      rw [← e2] at h2
      rw [MP_15 h2]
      refine ⟨ix_told hg (by decide), fun s3 e3 s4 e4 => ⟨Or.inr rfl, ?_⟩⟩
      have h3 := MP_told h2 hg (f := 6) (pz_gst (pz_tok cs k)) (by decide) (fun z => absurd z (by decide)) (fun z => absurd z (by decide))
      rw [← e3] at h3
      have h4 := MP_next h3 (by have := hw.2.2.2.2; omega) (v := s3.1 0 5 + 1) rfl
      rw [← e4] at h4
      exact hs hw s4 h4
  have k114 : ∀ (u : Nat) (a3 a6 : Int32), (pz_tok cs k).length = u + 2 → (a3 = 0 ↔ ¬ pz_var (pz_tok cs k)) → (u = 5 ∧ (¬ pz_gu (pz_tok cs k) → a6 = pz_gst (pz_tok cs k)) ∨ u = 8 ∧ pz_gu (pz_tok cs k) ∧ pz_dig (pz_tok cs k) 3 2 < pz_gst (pz_tok cs k) ∧ a6 = pz_gst (pz_tok cs k)) → wX4_wind_b114 post 0 (nI g) (nI (u + 2)) a3 (pz_dir (pz_tok cs k)) (pz_dig (pz_tok cs k) 3 2) a6 m := by
    intro u a3 a6 hl h3 hu
    have hu' : u = 5 ∨ u = 8 := by rcases hu with z | z; exact Or.inl z.1; exact Or.inr z.1
    have hunt : pz_wnd (pz_tok cs k) → pz_unt (pz_tok cs k) = u := fun z => by have := z.2.2.2.2; omega
    unfold wX4_wind_b114
    refine ⟨ok_m, sX4_sign hS u (by rw [show (2 : Int32) = nI 2 from rfl, pk_sub (by omega)]; rfl) (by omega) ⟨fun q => k173 _ _ _ 0 (Or.inl ⟨rfl, fun z => ?_⟩), fun q => ?_⟩⟩
    · have := z.2.2.2.1
      rw [hunt z, pz_hold2] at this
      exact q this.1
    · refine sX4_sign hS (u + 1) (by rw [show (1 : Int32) = nI 1 from rfl, pk_sub (by omega)]; rfl) (by omega) ⟨fun q2 => k173 _ _ _ 0 (Or.inl ⟨rfl, fun z => ?_⟩), fun q2 => ?_⟩
      · have := z.2.2.2.1
        rw [hunt z, pz_hold2] at this
        exact q2 this.2
      · have hgu : pz_gu (pz_tok cs k) → u = 8 := fun z => by
          rcases hu' with y | y
          · subst y; unfold pz_gu at z; rw [z] at q; exact absurd q (by decide)
          · exact y
        have hun : pz_unt (pz_tok cs k) = u := by
          unfold pz_unt
          by_cases y : pz_ch (pz_tok cs k) 5 = 71
          · rw [if_pos y]; exact (hgu y).symm
          · rw [if_neg y]
            rcases hu with z | z
            · exact z.1.symm
            · exact absurd z.2.1 y
        have ha6 : a6 = pz_gst (pz_tok cs k) := by
          rcases hu with ⟨z1, z2⟩ | z
          · refine z2 (fun y => ?_)
            have := hgu y; omega
          · exact z.2.2.2
        have hgl : pz_gu (pz_tok cs k) → pz_dig (pz_tok cs k) 3 2 < pz_gst (pz_tok cs k) := fun y => by
          rcases hu with z | z
          · have := hgu y; omega
          · exact z.2.2.1
        have mk : (pz_var (pz_tok cs k) ∨ pz_std (pz_tok cs k)) → pz_dig (pz_tok cs k) 3 2 ≠ -1 → pz_wnd (pz_tok cs k) := fun y1 y2 => ⟨y1, y2, hgl, by rw [hun, pz_hold2]; exact ⟨q, q2⟩, by rw [hun]; exact hl⟩
        have hspd := pz_dig_nn hV k 3 2 (by decide)
        refine ⟨fun q3 => k173 _ _ _ 0 (Or.inl ⟨rfl, fun z => absurd (hspd.mpr z.2.1) (fun y => absurd q3 (Int32.not_lt.mpr y))⟩), fun q3 => ?_⟩
        have hsp : pz_dig (pz_tok cs k) 3 2 ≠ -1 := hspd.mp (Int32.not_lt.mp q3)
        refine ⟨fun q4 => k173 _ _ _ 1 (Or.inr ⟨rfl, mk (Or.inl (by by_cases y : pz_var (pz_tok cs k); exact y; exact absurd (h3.mpr y) q4)) hsp, rfl, rfl, ha6⟩), fun q4 => ?_⟩
        have hnv := h3.mp q4
        have hdir : pz_dir (pz_tok cs k) = pz_dig (pz_tok cs k) 0 3 := by unfold pz_dir; exact if_neg hnv
        have hd3 := pz_dig_nn hV k 0 3 (by decide)
        have bad : ¬ pz_std (pz_tok cs k) → ¬ pz_wnd (pz_tok cs k) := fun y z => z.1.elim hnv y
        rw [hdir]
        refine ⟨fun q5 => k173 _ _ _ 0 (Or.inl ⟨rfl, bad (fun z => absurd (hd3.mpr z.1) (fun y => absurd q5 (Int32.not_lt.mpr y)))⟩), fun q5 => ⟨fun q6 => k173 _ _ _ 0 (Or.inl ⟨rfl, bad (fun z => z.2.1 q6)⟩), fun q6 => ⟨fun q7 => k173 _ _ _ 0 (Or.inl ⟨rfl, bad (fun z => q7 z.2.2)⟩), fun q7 => k173 _ _ _ 1 (Or.inr ⟨rfl, mk (Or.inr ⟨hd3.mp (Int32.not_lt.mp q5), q6, q7⟩) hsp, hdir.symm, rfl, ha6⟩)⟩⟩⟩
  have k83 : ∀ (a3 a6 : Int32), (a3 = 0 ↔ ¬ pz_var (pz_tok cs k)) → a6 = (if (pz_tok cs k).length = 10 then pz_dig (pz_tok cs k) 6 2 else 0) → wX4_wind_b83 post 0 (nI g) (nI (pz_tok cs k).length) a3 (pz_dir (pz_tok cs k)) (pz_dig (pz_tok cs k) 3 2) a6 m := by
    intro a3 a6 h3 h6
    unfold wX4_wind_b83
    refine ⟨fun q => ?_, fun q => ⟨fun q2 => k173 _ _ _ 0 (Or.inl ⟨rfl, fun z => ?_⟩), fun q2 => ?_⟩⟩
    · have e : (pz_tok cs k).length = 7 := (nI_eq (b := 7) (by omega) (by omega)).mp q
      rw [e, if_neg (by decide)] at h6
      rw [e]
      exact k114 5 a3 a6 e h3 (Or.inl ⟨rfl, fun y => by rw [h6]; unfold pz_gst; exact (if_neg y).symm⟩)
    · have hl := z.2.2.2.2
      have : pz_unt (pz_tok cs k) = 5 ∨ pz_unt (pz_tok cs k) = 8 := by unfold pz_unt; split <;> simp
      rcases this with y | y
      · rw [y] at hl; exact q (by rw [hl]; rfl)
      · rw [y] at hl; exact q2 (by rw [hl]; rfl)
    · have e : (pz_tok cs k).length = 10 := (nI_eq (b := 10) (by omega) (by omega)).mp q2
      rw [e, if_pos rfl] at h6
      refine ⟨ok_m, sX4_sign hS 5 rfl (by omega) ⟨fun q3 => k173 _ _ _ 0 (Or.inl ⟨rfl, fun z => ?_⟩), fun q3 => ?_⟩⟩
      · have hl := z.2.2.2.2
        have : pz_unt (pz_tok cs k) = 5 := by unfold pz_unt; exact if_neg q3
        omega
      · have hg6 : a6 = pz_gst (pz_tok cs k) := by rw [h6]; unfold pz_gst; exact (if_pos q3).symm
        rw [hg6]
        refine ⟨fun q4 => k173 _ _ _ 0 (Or.inl ⟨rfl, fun z => absurd (z.2.2.1 q3) (Int32.not_lt.mpr q4)⟩), fun q4 => ?_⟩
        rw [e]
        exact k114 8 a3 _ e h3 (Or.inr ⟨rfl, q3, Int32.not_le.mp q4, rfl⟩)
  have k56 : ∀ (a3 : Int32), (a3 = 0 ↔ ¬ pz_var (pz_tok cs k)) → wX4_wind_b56 post 0 (nI g) (nI (pz_tok cs k).length) a3 (pz_dir (pz_tok cs k)) m := by
    intro a3 h3
    unfold wX4_wind_b56
    refine ⟨ok_m, sX4_number hS 3 2 rfl rfl (by omega) ⟨fun q => k83 a3 0 h3 ?_, fun q => sX4_number hS 6 2 rfl rfl (by omega) (k83 a3 _ h3 ?_)⟩⟩
    · rw [if_neg (fun z => q (by rw [z]; rfl))]
    · rw [if_pos ((nI_eq (b := 10) (by omega) (by omega)).mp q)]
  have k40 : ∀ (a3 : Int32), (a3 = 0 ↔ ¬ pz_var (pz_tok cs k)) → wX4_wind_b40 post 0 (nI g) (nI (pz_tok cs k).length) a3 m := by
    intro a3 h3
    unfold wX4_wind_b40
    have key := k56 a3 h3
    refine ⟨fun q => ⟨ok_m, sX4_number hS 0 3 rfl rfl (by omega) ?_⟩, fun q => ?_⟩
    · have e : pz_dir (pz_tok cs k) = pz_dig (pz_tok cs k) 0 3 := by unfold pz_dir; exact if_neg (h3.mp q)
      rw [e] at key; exact key
    · have e : pz_dir (pz_tok cs k) = -2 := by unfold pz_dir; exact if_pos (by by_cases y : pz_var (pz_tok cs k); exact y; exact absurd (h3.mpr y) q)
      rw [e] at key; exact key
  unfold wX4_wind
  have hv3 : pz_var (pz_tok cs k) ↔ pz_ch (pz_tok cs k) 0 = 86 ∧ pz_ch (pz_tok cs k) 1 = 82 ∧ pz_ch (pz_tok cs k) 2 = 66 := pz_hold3
  refine ⟨ok_m, sX4_size hS (sX4_sign hS 0 rfl (by omega) ⟨fun q => k40 0 ⟨fun _ z => q (hv3.mp z).1, fun _ => rfl⟩, fun q => sX4_sign hS 1 rfl (by omega) ⟨fun q2 => k40 0 ⟨fun _ z => q2 (hv3.mp z).2.1, fun _ => rfl⟩, fun q2 => sX4_sign hS 2 rfl (by omega) ⟨fun q3 => k40 0 ⟨fun _ z => q3 (hv3.mp z).2.2, fun _ => rfl⟩, fun q3 => k40 1 ⟨fun z => absurd z (by decide), fun z => absurd (hv3.mpr ⟨q, q2, q3⟩) z⟩⟩⟩⟩)⟩
theorem sX4_visibility (h : mz_P m0 cs nt days g hd lt m k B) (hg : g < 9) (hs : pz_vis (pz_tok cs k) → ∀ m' : jx_St, mz_P m0 cs nt days g hd lt m' (k + 1) (jx_u2 B (4 + 3 * g) 7 (pz_dig (pz_tok cs k) 0 4)) → post 1 m') (hn : ¬ pz_vis (pz_tok cs k) → post 0 m) : wX4_visibility post 0 (nI g) m := by
  have hS := h.1
  have hV := hS.2.1
  have hlen := MS_len hS k
  have hd := pz_dig_nn hV k 0 4 (by decide)
  have k22 : ∀ kk : Int32, (kk = 0 ∧ ¬ pz_vis (pz_tok cs k)) ∨ (kk = 1 ∧ pz_vis (pz_tok cs k)) → wX4_visibility_b22 post 0 (nI g) kk m := by
    intro kk hk
    unfold wX4_visibility_b22
    rcases hk with ⟨rfl, hw⟩ | ⟨rfl, hw⟩
    · exact ⟨fun _ => ⟨Or.inl rfl, hn hw⟩, fun z => absurd rfl z⟩
    · refine ⟨fun z => absurd z (by decide), fun _ => ⟨ok_m, sX4_number hS 0 4 rfl rfl (by omega) ?_⟩⟩
      rw [MP_15 h, show ((10 * nI g) + 7 : Int32) = nI (10 * g + 7) from pz_10g g 7, pz_cl (by omega)]
      refine ⟨ix_told hg (by decide), fun s1 e1 s2 e2 => ⟨Or.inr rfl, ?_⟩⟩
      have h1 := MP_told h hg (f := 7) (pz_dig (pz_tok cs k) 0 4) (by decide) (fun z => absurd z (by decide)) (fun z => absurd z (by decide))
      rw [← e1] at h1
      have h2 := MP_next h1 (by have := hw.1; omega) (v := s1.1 0 5 + 1) rfl
      rw [← e2] at h2
      exact hs hw s2 h2
  unfold wX4_visibility
  refine ⟨ok_m, sX4_size hS ⟨fun q => k22 0 (Or.inl ⟨rfl, fun z => q (by rw [z.1]; rfl)⟩), fun q => sX4_number hS 0 4 rfl rfl (by omega) ⟨fun q2 => k22 0 (Or.inl ⟨rfl, fun z => absurd (hd.mpr z.2) (fun y => absurd q2 (Int32.not_lt.mpr y))⟩), fun q2 => k22 1 (Or.inr ⟨rfl, (nI_eq (b := 4) (by omega) (by omega)).mp q, hd.mp (Int32.not_lt.mp q2)⟩)⟩⟩⟩
theorem pz_wc {cs : List Int32} (hV : pz_V cs) (k : Nat) (l : List Nat) (hl : ∀ q ∈ l, 1 ≤ q ∧ q < 256) (h8 : l.length ≤ 8) (h0 : l ≠ []) {C : Int64} (hC : C = lN (pz_vl l.reverse)) {W : List Int32} (hW : W = l.map nI) : lg_cmp (pz_wd (pz_tok cs k)) C = 0 ↔ pz_tok cs k = W := by
  subst hC; subst hW
  exact pz_wd_eq (pz_tok_q hV k) l hl h8 h0
theorem wc_CAVOK {cs : List Int32} (hV : pz_V cs) (k : Nat) : lg_cmp (pz_wd (pz_tok cs k)) (288858984267 : Int64) = 0 ↔ pz_tok cs k = W_CAVOK := pz_wc hV k [67, 65, 86, 79, 75] (by decide) (by decide) (by decide) (by decide) (by decide)
theorem sX4_clear (h : mz_P m0 cs nt days g hd lt m k B) (hg : g < 9) (hs : (pz_tok cs k) = W_CAVOK → ∀ m' : jx_St, mz_P m0 cs nt days g hd lt m' (k + 1) (pz_cavB B g) → post 1 m') (hn : (pz_tok cs k) ≠ W_CAVOK → post 0 m) : wX4_clear post 0 (nI g) m := by
  have hS := h.1
  unfold wX4_clear
  refine ⟨ok_m, sX4_word hS ?_⟩
  rw [wc_CAVOK hS.2.1]
  refine ⟨fun q => ?_, fun q => hn q⟩
  rw [MP_15 h, show ((10 * nI g) + 7 : Int32) = nI (10 * g + 7) from pz_10g g 7, show ((10 * nI g) + 8 : Int32) = nI (10 * g + 8) from pz_10g g 8, show ((10 * nI g) + 9 : Int32) = nI (10 * g + 9) from pz_10g g 9, pz_cl (by omega), pz_cl (by omega), pz_cl (by omega)]
  refine ⟨ix_told hg (by decide), fun s1 e1 => ?_⟩
  have h1 := MP_told h hg (f := 7) 10000 (by decide) (fun z => absurd z (by decide)) (fun z => absurd z (by decide))
  rw [← e1] at h1
  rw [MP_15 h1]
  refine ⟨ix_told hg (by decide), fun s2 e2 => ?_⟩
  have h2 := MP_told h1 hg (f := 8) 0 (by decide) (fun _ j _ hj => absurd hj (nI_pos (by omega))) (fun z => absurd z (by decide))
  rw [← e2] at h2
  rw [MP_15 h2]
  refine ⟨ix_told hg (by decide), fun s3 e3 s4 e4 => ?_⟩
  have h3 := MP_told h2 hg (f := 9) 0 (by decide) (fun z => absurd z (by decide)) (fun _ j _ hj => absurd hj (nI_pos (by omega)))
  rw [← e3] at h3
  have h4 := MP_next h3 (by rw [q]; decide) (v := s3.1 0 5 + 1) rfl
  rw [← e4] at h4
  exact hs q s4 h4
end MZP
