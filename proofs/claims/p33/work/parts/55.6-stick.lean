/-! TIME, THE LIMIT, THE POWER, THE STICK, piece 6. -/
/-- the stick put in, every line up to date -/
theorem in_core {N : Nat} {lat : Nat → Int32} {u : Mem} (h : Core N lat u) {x : Int32} (hx : x = 0 ∨ x = 1) (hU : x = 1 → u 0 3 = 0 → ∀ k, k < 12 → Up lat u k) : Core N lat (mset u 0 3 x) := by
  obtain ⟨c1, c2, c3, c4, c5, c6⟩ := h
  refine ⟨⟨by rw [mset_at, if_pos rfl, if_pos rfl]; exact hx, c1.2⟩, c2, c3, c4, fun k hk => ?_, c6⟩
  rcases c5 k hk with q | ⟨b, B⟩
  · exact Or.inl q
  · refine Or.inr ⟨b, B.1, B.2.1, B.2.2.1, B.2.2.2.1, B.2.2.2.2.1, B.2.2.2.2.2.1, ?_, B.2.2.2.2.2.2.2⟩
    show (u 3 k = u 9 b ∧ u 2 k = lat b) ∨ (mset u 0 3 x 0 3 = 0 ∧ u 8 b = u 9 b ∧ u 3 k < u 9 b)
    rw [mset_at, if_pos rfl, if_pos rfl]
    rcases B.2.2.2.2.2.2.1 with w | ⟨w1, w2, w3⟩
    · exact Or.inl w
    · rcases hx with rfl | rfl
      · exact Or.inr ⟨rfl, w2, w3⟩
      · exact Or.inl (hU rfl w1 k hk b B.1 B.2.1)
/-- the stick put in or taken out -/
theorem stick_r {N : Nat} {lat : Nat → Int32} {u : Mem} (h : Core N lat u) {x : Int32} (hx : x = 0 ∨ x = 1) : ∃ (r : Nat) (u' : Mem), pX1_placeStick u x = some (nI r, u') ∧ Core N lat u' ∧ u' 0 3 = x ∧ r + Us u' = Us u ∧ (x = 0 → r = 0) ∧ Cd u u' ∧ u' 10 2 = u 10 2 ∧ u' 10 3 = u 10 3 := by
  unfold pX1_placeStick pX1_placeStick_18 pX1_placeStick_19 pX1_placeStick_40
  rw [pz_e (z01 hx)]
  simp only [ob_some]
  have nop : (x = 1 → ¬ u 0 3 = 0) → ∃ (r : Nat) (u' : Mem), (some (0, mset u 0 3 x) : Option (Int32 × Mem)) = some (nI r, u') ∧ Core N lat u' ∧ u' 0 3 = x ∧ r + Us u' = Us u ∧ (x = 0 → r = 0) ∧ Cd u u' ∧ u' 10 2 = u 10 2 ∧ u' 10 3 = u 10 3 := fun hn =>
    ⟨0, _, rfl, in_core h hx (fun e e2 => absurd e2 (hn e)), by rw [mset_at, if_pos rfl, if_pos rfl], Nat.zero_add _, fun _ => rfl, same_rf rfl rfl rfl rfl rfl, rfl, rfl⟩
  rcases hx with rfl | rfl
  · rw [if_pos rfl, if_pos trivial]
    exact nop (fun q => absurd q (by decide))
  · rw [if_neg (by decide)]
    by_cases c : u 0 3 = 0
    · rw [if_pos c, if_neg (by decide)]
      obtain ⟨r, u', g1, g2, g3, g4, g5, g6, g7⟩ := eo_p 12 0 FU 0 u rfl (by decide) h c
      rw [Nat.zero_add] at g1
      rw [show pX1_emptyOutdatedLines (mset u 0 3 1) = some (nI r, mset u' 0 3 1) from g1, bd2_some]
      refine ⟨r, _, rfl, in_core g3 (Or.inr rfl) (fun _ _ k hk => g6 k (Nat.zero_le _) hk), by rw [mset_at, if_pos rfl, if_pos rfl], g2, fun q => absurd q (by decide), same_cd (Mi_c (fun b hb => ?_)) g4.2.2.2.2.2.2, congrFun g4.2.2.2.2.2.2 2, congrFun g4.2.2.2.2.2.2 3⟩
      rw [← g7 b hb]
      rfl
    · rw [if_neg c, if_pos trivial]
      exact nop (fun _ => c)
