/-- a pass -/
theorem pass_r {N x : Nat} {lat : Nat → Int32} {u : Mem} (hx : x < 900) (h : Core N lat u) : ∃ (c c' : Nat) (u' : Mem), pX1_letPass u (nI x) = some u' ∧ u 0 2 = nI c ∧ c ≤ 100 ∧ u' 0 2 = nI c' ∧ c' ≤ 100 ∧ Core N lat u' ∧ u' 0 3 = u 0 3 ∧ u' 6 = u 6 ∧ ((u 6 1 = 1 ∧ u 0 3 = 1 → c ≤ c' ∧ c' ≤ c + 2 * x) ∧ (¬ (u 6 1 = 1 ∧ u 0 3 = 1) → c' = c - x)) ∧ Mi' u' ≤ Mi' u + (if u 6 1 = 1 ∧ u 0 3 = 1 then 0 else los u c x) ∧ ∀ j, u' 10 j = u 10 j + nI (if j = 6 then (if u 6 1 = 1 ∧ u 0 3 = 1 then 0 else los u c x) else 0) := by
  obtain ⟨L, c, l1, l2, l3, l4, l5, l6⟩ := id h.2.1
  by_cases r : u 6 1 = 1 ∧ u 0 3 = 1
  · obtain ⟨c', u', g1, g2, g3, g4, g5, g6, g7, g8, g9, g10⟩ := up_p (x := x) (by omega) x 0 FU c u (Nat.zero_add x) (by unfold FU; omega) h r.1 r.2 l5 (by omega)
    refine ⟨c, c', u', g1, l5, by omega, g7, g10, g2, g5.trans r.2.symm, g6, ⟨fun _ => ⟨g8, g9⟩, fun q => absurd r q⟩, ?_, fun j => ?_⟩
    · rw [if_pos r, Mi_c (fun b _ => g3 b)]; exact Nat.le_refl _
    · rw [if_pos r, g4]; split <;> exact (Int32.add_zero _).symm
  · obtain ⟨u', g1, g2, g3, g4, g5, g6, g7⟩ := dn_p (x := x) (by omega) x 0 FU c u (Nat.zero_add x) (by unfold FU; omega) h r l5 (by omega)
    refine ⟨c, c - x, u', g1, l5, by omega, g7, by omega, g2, g5, g6, ⟨fun q => absurd q r, fun _ => rfl⟩, ?_, fun j => ?_⟩
    · rw [if_neg r]; exact g3
    · rw [if_neg r]; exact g4 j
theorem los_12 (u : Mem) (c d : Nat) : los u c d ≤ 12 := by
  unfold los
  split
  · exact Dt_12 u
  · exact Nat.zero_le _
/-- counts that stay, but lost lines -/
theorem lost_cd {u u' : Mem} {y : Nat} (hy : y ≤ 12) (hm : Mi' u' ≤ Mi' u + y) (h : ∀ j, u' 10 j = u 10 j + nI (if j = 6 then y else 0)) : Cd u u' := by
  refine ⟨fun j => if j = 6 then y else 0, fun i _ => ⟨h i, ?_⟩, Nat.le_refl _, Nat.zero_le _, hm⟩
  show (if i = 6 then y else 0) ≤ 100
  split <;> omega
theorem same_cd {u u' : Mem} (hm : Mi' u' = Mi' u) (h : u' 10 = u 10) : Cd u u' :=
  lost_cd (y := 0) (by decide) (Nat.le_of_eq (hm.trans (Nat.add_zero _).symm)) (fun j => by rw [h]; split <;> exact (Int32.add_zero _).symm)
theorem same_rf {u u' : Mem} (h1 : u' 1 = u 1) (h3 : u' 3 = u 3) (h8 : u' 8 = u 8) (h9 : u' 9 = u 9) (h : u' 10 = u 10) : Cd u u' := same_cd (Mi_c fun b _ => congrFun (mi_of h1 h3 h8 h9) b) h
theorem Mi_rf {u u' : Mem} (h1 : u' 1 = u 1) (h3 : u' 3 = u 3) (h8 : u' 8 = u 8) (h9 : u' 9 = u 9) : Mi' u' = Mi' u := Mi_c fun b _ => congrFun (mi_of h1 h3 h8 h9) b
theorem Cd_of {u v u' : Mem} (h10 : v 10 = u 10) (hM : Mi' v = Mi' u) (h : Cd v u') : Cd u u' := by
  obtain ⟨e, q1, q2, q3, q4⟩ := h
  rw [h10] at q1
  rw [hM] at q4
  exact ⟨e, q1, q2, q3, q4⟩
