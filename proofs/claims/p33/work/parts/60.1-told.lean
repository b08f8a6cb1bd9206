/-! WHAT IS TOLD OF A STATE IS TOLD OF THE STATE ALONE; WHAT THE LAW ASKS OF A STATE HOLDS. -/
section TLD0
variable {N : Nat} {lat : Nat → Int32} {u : Mem}
theorem told3 (h : Core N lat u) : ∀ (d i n : Nat) (x : Int64), i + d = 64 → d < n → ∃ T : Int64, ∀ t hh S, pL_told_119 t u hh S n x (nI i) = some T := by
  intro d
  induction d with
  | zero =>
    intro i n x hi hn
    obtain ⟨p, rfl⟩ : ∃ p, n = p + 1 := ⟨n - 1, by omega⟩
    obtain rfl : i = 64 := by omega
    refine ⟨x, fun t hh S => ?_⟩
    show pL_told_119b t u hh S _ x (nI 64) = _
    unfold pL_told_119b
    rw [if_pos at64]
  | succ d ih =>
    intro i n x hi hn
    obtain ⟨p, rfl⟩ : ∃ p, n = p + 1 := ⟨n - 1, by omega⟩
    have hi2 : i < 64 := by omega
    obtain ⟨T0, h0⟩ := ih (i + 1) p ((31 * ((31 * x) + (u 7 i).toInt64)) + (0 : Int32).toInt64) (by omega) (by omega)
    obtain ⟨T1, h1⟩ := ih (i + 1) p ((31 * ((31 * x) + (u 7 i).toInt64)) + (1 : Int32).toInt64) (by omega) (by omega)
    cases e : fnd u i
    · refine ⟨T0, fun t hh S => ?_⟩
      show pL_told_119b t u hh S (pL_told_119 t u hh S p) x (nI i) = _
      unfold pL_told_119b
      rw [if_neg (ge64 hi2), q_onDisk t hh S hi2, ob_some, q_isFound h t hh S hi2, ob_some, e, if_pos (show b2 false = 0 from rfl), nI_1]
      exact h0 t hh S
    · refine ⟨T1, fun t hh S => ?_⟩
      show pL_told_119b t u hh S (pL_told_119 t u hh S p) x (nI i) = _
      unfold pL_told_119b
      rw [if_neg (ge64 hi2), q_onDisk t hh S hi2, ob_some, q_isFound h t hh S hi2, ob_some, e, if_neg (show ¬ b2 true = 0 by decide), nI_1]
      exact h1 t hh S
theorem told2 (h : Core N lat u) : ∀ (d i n : Nat) (x : Int64), i + d = 60 → d < n → ∃ T : Int64, ∀ t hh S, pL_told_81 t u hh S n x (nI i) = some T := by
  intro d
  induction d with
  | zero =>
    intro i n x hi hn
    obtain ⟨p, rfl⟩ : ∃ p, n = p + 1 := ⟨n - 1, by omega⟩
    obtain rfl : i = 60 := by omega
    obtain ⟨T, hT⟩ := told3 h 64 0 FU x rfl (by decide)
    refine ⟨T, fun t hh S => ?_⟩
    show pL_told_81b t u hh S _ x (nI 60) = _
    unfold pL_told_81b
    rw [if_pos (show (60 : Int32) ≤ nI 60 by decide)]
    exact hT t hh S
  | succ d ih =>
    intro i n x hi hn
    obtain ⟨p, rfl⟩ : ∃ p, n = p + 1 := ⟨n - 1, by omega⟩
    have hi2 : i < 60 := by omega
    obtain ⟨T, hT⟩ := ih (i + 1) p ((31 * x) + (LN u (3 * (i / 15) + i / 5 % 3) (i % 5)).toInt64) (by omega) (by omega)
    refine ⟨T, fun t hh S => ?_⟩
    have ql := q_line (u := u) t hh S (a := i / 15) (c := i / 5 % 3) (p := i % 5) (by omega) (by omega) (by omega)
    show pL_told_81b t u hh S (pL_told_81 t u hh S p) x (nI i) = _
    unfold pL_told_81b
    rw [if_neg (show ¬ (60 : Int32) ≤ nI i from nI_ge (b := 60) hi2 (by decide)), show nI i / 15 = nI (i / 15) from pk_div (d := 15) (by omega) (by decide) (by decide), show nI i - nI i / 5 * 5 = nI (i % 5) from pk_rem (d := 5) (by omega) (by decide) (by decide), show nI i / 5 = nI (i / 5) from pk_div (d := 5) (by omega) (by decide) (by decide), rem3 (by omega), ql, ob_some, nI_1]
    exact hT t hh S
theorem told1 (h : Core N lat u) : ∀ (d i n : Nat) (x : Int64), i + d = 8 → d < n → ∃ T : Int64, ∀ t hh S, pL_told_54 t u hh S n x (nI i) = some T := by
  intro d
  induction d with
  | zero =>
    intro i n x hi hn
    obtain ⟨p, rfl⟩ : ∃ p, n = p + 1 := ⟨n - 1, by omega⟩
    obtain rfl : i = 8 := by omega
    obtain ⟨T, hT⟩ := told2 h 60 0 FU x rfl (by decide)
    refine ⟨T, fun t hh S => ?_⟩
    show pL_told_54b t u hh S _ x (nI 8) = _
    unfold pL_told_54b
    rw [if_pos (show (8 : Int32) ≤ nI 8 by decide)]
    exact hT t hh S
  | succ d ih =>
    intro i n x hi hn
    obtain ⟨p, rfl⟩ : ∃ p, n = p + 1 := ⟨n - 1, by omega⟩
    obtain ⟨T, hT⟩ := ih (i + 1) p ((31 * x) + (u 10 i).toInt64) (by omega) (by omega)
    refine ⟨T, fun t hh S => ?_⟩
    show pL_told_54b t u hh S (pL_told_54 t u hh S p) x (nI i) = _
    unfold pL_told_54b
    rw [if_neg (show ¬ (8 : Int32) ≤ nI i from nI_ge (b := 8) (by omega) (by decide)), q_count t hh S (by omega), ob_some, nI_1]
    exact hT t hh S
theorem told_r (h : Core N lat u) : ∃ T : Int64, ∀ t hh S, pL_told t u hh S = some T := by
  have ms := fun t hh S => q_missing h t hh S
  have io := fun t hh S => q_isOn h.1 t hh S
  have ii := fun t hh S => q_isIn h.1 t hh S
  have ch : ∀ t hh S, pX4_charge t u hh S = some (u 0 2) := fun _ _ _ => rfl
  have go : ∀ x : Int64, ∃ T : Int64, ∀ t hh S, pL_told_54 t u hh S FU x 0 = some T := fun x => told1 h 8 0 FU x rfl (by decide)
  by_cases e1 : u 6 1 = 0
  · by_cases e2 : u 0 3 = 0
    · obtain ⟨T, hT⟩ := go ((31 * ((31 * ((31 * (u 0 2).toInt64) + (0 : Int32).toInt64)) + (0 : Int32).toInt64)) + (nI (Ms u)).toInt64)
      refine ⟨T, fun t hh S => ?_⟩
      unfold pL_told
      rw [ch, ob_some, io, ob_some, if_pos e1, ii, ob_some, if_pos e2, ms, ob_some]
      exact hT t hh S
    · obtain ⟨T, hT⟩ := go ((31 * ((31 * ((31 * (u 0 2).toInt64) + (0 : Int32).toInt64)) + (1 : Int32).toInt64)) + (nI (Ms u)).toInt64)
      refine ⟨T, fun t hh S => ?_⟩
      unfold pL_told
      rw [ch, ob_some, io, ob_some, if_pos e1, ii, ob_some, if_neg e2, ms, ob_some]
      exact hT t hh S
  · by_cases e2 : u 0 3 = 0
    · obtain ⟨T, hT⟩ := go ((31 * ((31 * ((31 * (u 0 2).toInt64) + (1 : Int32).toInt64)) + (0 : Int32).toInt64)) + (nI (Ms u)).toInt64)
      refine ⟨T, fun t hh S => ?_⟩
      unfold pL_told
      rw [ch, ob_some, io, ob_some, if_neg e1, ii, ob_some, if_pos e2, ms, ob_some]
      exact hT t hh S
    · obtain ⟨T, hT⟩ := go ((31 * ((31 * ((31 * (u 0 2).toInt64) + (1 : Int32).toInt64)) + (1 : Int32).toInt64)) + (nI (Ms u)).toInt64)
      refine ⟨T, fun t hh S => ?_⟩
      unfold pL_told
      rw [ch, ob_some, io, ob_some, if_neg e1, ii, ob_some, if_neg e2, ms, ob_some]
      exact hT t hh S
end TLD0
