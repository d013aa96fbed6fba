/-! ===== the first worlds ===== -/
def x0A (h0 : Nat) (z : Nat × Nat × (Nat → Nat) × (Nat → Nat) × Nat × Nat × Nat) : Nat → Nat := fun c => if c < 3 then [h0, z.1, z.2.1].getD c 0 else if c < 34 then z.2.2.1 (c - 3) else if c < 65 then z.2.2.2.1 (c - 34) else [z.2.2.2.2.1, z.2.2.2.2.2.1, z.2.2.2.2.2.2].getD (c - 65) 0
def x0B (b c i : Nat) : Nat := if c = 0 then b + [0, 0, 0, 0, 0, 0, 1, 0, 2, 3, 0].getD i 0 else if c = 2 then b + 4 + 3 * i else if i = 10 then b + c + 1 else b + c + 2
def x0S : jx_St := (fun c => if c = 65 then (fun i => if i = 6 then -1 else 0) else fun _ => 0, fun c i => if c < 3 then [1, 0, 2, 0, 3, 65].getD i 0 else if c < 34 then x0B 3 (c - 3) i else if c < 65 then x0B 34 (c - 34) i else [67, 0, 0, 0, 66, 0, 0, 34].getD i 0)
def m0S : jx_St := (fun _ _ => 0, fun _ i => [1, 0, 2, 3, 0, 0, 0, 0, 0, 0, 0, 0, 0, 0, 4, 5, 6, 7, 0, 0, 0, 0, 0, 0, 8, 9, 10, 11, 12, 0, 13, 0].getD i 0)
theorem P_at {D : va_G} {cl : List vw_C} {ws : va_W} {H : Heap} {k : Nat} {x : Nat × va_E} (h : va_P D cl ws H) (hx : va_at D cl x H) : va_P D cl (ws.set k x) H := by
  intro i q hi
  rw [List.getElem?_set] at hi
  by_cases e : k = i
  · rw [if_pos e] at hi
    by_cases l : k < ws.length
    · rw [if_pos l] at hi; cases hi; exact hx
    · rw [if_neg l] at hi; cases hi
  · rw [if_neg e] at hi; exact h i q hi
theorem jx_In_of {A : Nat → Prop} {D : jx_Dt} {L : jx_Ly} {s : jx_St} (h : va_D A (jx_w D L s)) : jx_In D L := fun i j hi hj e => h.1 i j _ _ (jx_w_at hi) (jx_w_at hj) e
theorem jx_A_of {A : Nat → Prop} {D : jx_Dt} {L : jx_Ly} {s : jx_St} (h : va_D A (jx_w D L s)) : ∀ q, jx_A D L q → A q := by
  rintro q ⟨c, hc, rfl⟩
  exact h.2 c _ (jx_w_at hc)
theorem arrV_eq {cA : ClassId} {n : Nat} {f g : Nat → Value} (h : ∀ j, j < n → f j = g j) : arrV cA n f = arrV cA n g := by
  unfold arrV
  congr 1
  apply Array.ext
  · simp
  · intro i h1 h2
    simp at h1 h2 ⊢
    exact h i h1
theorem at_g {D : va_G} {cl : List vw_C} {H : Heap} {a n : Nat} {cA : ClassId} {f g : Nat → Option Nat} (h : va_at D cl (a, .inl (cA, n, .inr (.inr (.inr (.inr f))))) H) (e : ∀ j, j < n → f j = g j) : va_at D cl (a, .inl (cA, n, .inr (.inr (.inr (.inr g))))) H := by
  show H[a]? = some (vp_cell _ _)
  have h : H[a]? = some (vp_cell cA (n, .inr (.inr (.inr (.inr f))))) := h
  rw [h, vp_cell_q, vp_cell_q]
  congr 1
  exact arrV_eq (fun j hj => by rw [e j hj])
set_option maxHeartbeats 400000 in
set_option maxRecDepth 100000 in
theorem m0_w {D : jx_Dt} {u : Nat → Nat} {h0 : Nat} (h : u 0 = h0) : ([(h0, .inr (4, [.ref (u 1), .int 0, .ref (u 2), .ref (u 3), .int 0, .int 0, .int 0, .int 0, .int 0, .int 0, .int 0, .int 0, .int 0, .int 0, .ref (u 4), .ref (u 5), .ref (u 6), .ref (u 7), .int 0, .int 0, .int 0, .int 0, .int 0, .int 0, .ref (u 8), .ref (u 9), .ref (u 10), .ref (u 11), .ref (u 12), .int 0, .ref (u 13), .int 0])), ((u 1), .inl (D.2.2.1.2.1, 700, .inl (fun _ => 0))), ((u 2), .inl (D.2.2.1.2.1, 351, .inl (fun _ => 0))), ((u 3), .inl (D.2.2.1.2.1, 351, .inl (fun _ => 0))), ((u 4), .inl (D.2.2.1.2.1, 4, .inl (fun _ => 0))), ((u 5), .inl (D.2.2.1.2.1, 90, .inl (fun _ => 0))), ((u 6), .inl (D.2.2.1.2.1, 27, .inl (fun _ => 0))), ((u 7), .inl (D.2.2.1.2.1, 36, .inl (fun _ => 0))), ((u 8), .inl (D.2.2.1.2.1, 4, .inl (fun _ => 0))), ((u 9), .inl (D.2.2.1.2.1, 90, .inl (fun _ => 0))), ((u 10), .inl (D.2.2.1.2.1, 27, .inl (fun _ => 0))), ((u 11), .inl (D.2.2.1.2.1, 36, .inl (fun _ => 0))), ((u 12), .inl (D.2.2.1.2.1, 1400, .inl (fun _ => 0))), ((u 13), .inl (D.2.2.1.2.1, 1400, .inl (fun _ => 0)))] : va_W) = jx_w (D.1, u, D.2.2) jx_LM m0S := by
  subst h
  rfl
set_option maxHeartbeats 400000 in
set_option maxRecDepth 100000 in
theorem x0_w {D : jx_Dt} {h0 : Nat} {z : Nat × Nat × (Nat → Nat) × (Nat → Nat) × Nat × Nat × Nat} : (((((([(h0, .inr (3, [.ref z.1, .int 0, .ref z.2.1, .int 0, .ref (z.2.2.1 0), .ref (z.2.2.2.2.1)])), (z.1, .inl (D.2.2.1.1, 700, .inl (fun _ => 0))), (z.2.1, .inl (D.2.2.1.1, 700, .inl (fun _ => 0)))] ++ bw D z.2.2.1 9) ++ bw D z.2.2.2.1 9) ++ [(z.2.2.2.2.1, .inr (2, [.ref z.2.2.2.2.2.2, .int 0, .int 0, .int 0, .ref z.2.2.2.2.2.1, .int 0, .int (-1), .ref (z.2.2.2.1 0)])), (z.2.2.2.2.2.1, .inl (D.2.2.1.1, 16, .inl (fun _ => 0))), (z.2.2.2.2.2.2, .inl (D.2.2.1.1, 0, .inl (fun _ => 0)))]) : va_W).set 5 ((x0A h0 z 5, .inl (D.2.2.1.2.2, 9, .inr (.inr (.inr (.inr (fun i => some (x0A h0 z (x0S.2 5 i)))))))) : Nat × va_E)).set 36 ((x0A h0 z 36, .inl (D.2.2.1.2.2, 9, .inr (.inr (.inr (.inr (fun i => some (x0A h0 z (x0S.2 36 i)))))))) : Nat × va_E)) = jx_w (D.1, x0A h0 z, D.2.2) jx_LX x0S := rfl
set_option maxHeartbeats 400000 in
set_option maxRecDepth 100000 in
theorem x0_P {D : jx_Dt} {h0 : Nat} {z : Nat × Nat × (Nat → Nat) × (Nat → Nat) × Nat × Nat × Nat} {H : Heap} (h : va_P D.1 vwCl (((([(h0, .inr (3, [.ref z.1, .int 0, .ref z.2.1, .int 0, .ref (z.2.2.1 0), .ref (z.2.2.2.2.1)])), (z.1, .inl (D.2.2.1.1, 700, .inl (fun _ => 0))), (z.2.1, .inl (D.2.2.1.1, 700, .inl (fun _ => 0)))] ++ bw D z.2.2.1 9) ++ bw D z.2.2.2.1 9) ++ [(z.2.2.2.2.1, .inr (2, [.ref z.2.2.2.2.2.2, .int 0, .int 0, .int 0, .ref z.2.2.2.2.2.1, .int 0, .int (-1), .ref (z.2.2.2.1 0)])), (z.2.2.2.2.2.1, .inl (D.2.2.1.1, 16, .inl (fun _ => 0))), (z.2.2.2.2.2.2, .inl (D.2.2.1.1, 0, .inl (fun _ => 0)))])) H) : va_P D.1 vwCl (jx_w (D.1, x0A h0 z, D.2.2) jx_LX x0S) H := by
  rw [← x0_w]
  refine P_at (P_at h (at_g (h 5 (x0A h0 z 5, _) rfl) (fun j hj => ?_))) (at_g (h 36 (x0A h0 z 36, _) rfl) (fun j hj => ?_))
  · rcases (by omega : j = 0 ∨ j = 1 ∨ j = 2 ∨ j = 3 ∨ j = 4 ∨ j = 5 ∨ j = 6 ∨ j = 7 ∨ j = 8) with rfl | rfl | rfl | rfl | rfl | rfl | rfl | rfl | rfl <;> rfl
  · rcases (by omega : j = 0 ∨ j = 1 ∨ j = 2 ∨ j = 3 ∨ j = 4 ∨ j = 5 ∨ j = 6 ∨ j = 7 ∨ j = 8) with rfl | rfl | rfl | rfl | rfl | rfl | rfl | rfl | rfl <;> rfl
theorem x0_D {D : jx_Dt} {h0 : Nat} {z : Nat × Nat × (Nat → Nat) × (Nat → Nat) × Nat × Nat × Nat} {A : Nat → Prop} (h : va_D A (((([(h0, .inr (3, [.ref z.1, .int 0, .ref z.2.1, .int 0, .ref (z.2.2.1 0), .ref (z.2.2.2.2.1)])), (z.1, .inl (D.2.2.1.1, 700, .inl (fun _ => 0))), (z.2.1, .inl (D.2.2.1.1, 700, .inl (fun _ => 0)))] ++ bw D z.2.2.1 9) ++ bw D z.2.2.2.1 9) ++ [(z.2.2.2.2.1, .inr (2, [.ref z.2.2.2.2.2.2, .int 0, .int 0, .int 0, .ref z.2.2.2.2.2.1, .int 0, .int (-1), .ref (z.2.2.2.1 0)])), (z.2.2.2.2.2.1, .inl (D.2.2.1.1, 16, .inl (fun _ => 0))), (z.2.2.2.2.2.2, .inl (D.2.2.1.1, 0, .inl (fun _ => 0)))]))) : va_D A (jx_w (D.1, x0A h0 z, D.2.2) jx_LX x0S) := by
  rw [← x0_w]
  exact (h.set (p := 5) (a := x0A h0 z 5) rfl).set (p := 36) (a := x0A h0 z 36) rfl
theorem x0_b {b : Nat} (h : b = 3 ∨ b = 34) : cr_b x0S b := by
  rcases h with rfl | rfl
  · refine ⟨rfl, rfl, rfl, fun g hg => ?_⟩
    rcases (by omega : g = 0 ∨ g = 1 ∨ g = 2 ∨ g = 3 ∨ g = 4 ∨ g = 5 ∨ g = 6 ∨ g = 7 ∨ g = 8) with rfl | rfl | rfl | rfl | rfl | rfl | rfl | rfl | rfl <;> exact ⟨rfl, rfl, rfl⟩
  · refine ⟨rfl, rfl, rfl, fun g hg => ?_⟩
    rcases (by omega : g = 0 ∨ g = 1 ∨ g = 2 ∨ g = 3 ∨ g = 4 ∨ g = 5 ∨ g = 6 ∨ g = 7 ∨ g = 8) with rfl | rfl | rfl | rfl | rfl | rfl | rfl | rfl | rfl <;> exact ⟨rfl, rfl, rfl⟩
theorem Rl_0 : Rl x0S m0S := by
  refine ⟨3, 34, fun rc i => x0S.1 (3 + rc) i, 0, [], ⟨Or.inl ⟨rfl, rfl⟩, rfl, rfl, rfl, rfl, rfl, rfl, x0_b (Or.inl rfl), x0_b (Or.inr rfl), rfl, rfl, rfl, rfl, rfl, rfl, rfl, rfl, rfl, rfl, rfl, rfl, rfl⟩, ⟨[], ?_, rfl, rfl, fun i hi => absurd hi (Nat.not_lt_zero i)⟩, ⟨0, by decide, rfl, rfl, fun i hi => absurd hi (Nat.not_lt_zero i)⟩, rfl, by decide, ⟨fun rc i _ _ _ => rfl, rfl, fun i hi => absurd hi (Nat.not_lt_zero i), by decide⟩, Or.inl ⟨rfl, rfl, rfl, rfl, rfl⟩⟩
  unfold pz_V
  simp
