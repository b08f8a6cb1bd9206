/-! TIME, THE LIMIT, THE POWER, THE STICK, piece 4. -/
/-- a new limit -/
theorem limit_r {N x : Nat} {lat : Nat → Int32} {u : Mem} (h1 : 1 ≤ x) (hx : x ≤ 100) (h : Core N lat u) : ∃ (c : Nat) (u' : Mem), pX2_limitTo u (nI x) = some u' ∧ u 0 2 = nI c ∧ c ≤ 100 ∧ u' 0 2 = nI (min c x) ∧ Core N lat u' ∧ Cd u u' ∧ u' 10 = u 10 := by
  obtain ⟨c1, ⟨L, c, l1, l2, l3, l4, l5, l6⟩, c3, c4, c5, c6⟩ := h
  have e : pX2_limitTo u (nI x) = some (mset (mset u 0 1 (nI x)) 0 2 (nI (min c x))) := by
    unfold pX2_limitTo
    rw [pf_e, ob_some, pf_e, ob_some]
    rw [show mset u 0 1 (nI x) 0 1 = nI x by rw [mset_at, if_pos rfl, if_pos rfl], show mset u 0 1 (nI x) 0 2 = nI c by rw [mset_at, if_pos rfl, if_neg (by decide)]; exact l5]
    by_cases q : x < c
    · rw [if_pos (nI_lt q (by omega)), show min c x = x by omega]
    · rw [if_neg (nI_nlt (by omega) (by omega)), show min c x = c by omega]
  refine ⟨c, _, e, l5, by omega, by rw [mset_at, if_pos rfl, if_pos rfl], ⟨c1, ⟨x, min c x, h1, hx, by omega, ?_, ?_, fun q => l6 (by omega)⟩, c3, c4, c5, c6⟩, same_rf rfl rfl rfl rfl rfl, rfl⟩
  · rw [mset_at, if_pos rfl, if_neg (by decide), mset_at, if_pos rfl, if_pos rfl]
  · rw [mset_at, if_pos rfl, if_pos rfl]
theorem on_core {N : Nat} {lat : Nat → Int32} {u : Mem} (h : Core N lat u) {x : Int32} (hx : x = 0 ∨ x = 1) : Core N lat (mset u 6 1 x) := ⟨⟨h.1.1, hx⟩, h.2⟩
/-- the power switched -/
theorem power_r {N : Nat} {lat : Nat → Int32} {u : Mem} (h : Core N lat u) {x : Int32} (hx : x = 0 ∨ x = 1) : ∃ (r : Nat) (u' : Mem), pX1_switchPower u x = some (nI r, u') ∧ (r = if x = 1 ∧ u 6 1 = 0 ∧ u 0 3 = 1 ∧ u 0 2 < 20 then Dt u else 0) ∧ r ≤ 12 ∧ Core N lat u' ∧ u' 6 1 = x ∧ Cd u u' ∧ u' 10 2 = u 10 2 ∧ u' 10 3 = u 10 3 := by
  have C1 := on_core h hx
  have nop : ∃ u' : Mem, (some (0, mset u 6 1 x) : Option (Int32 × Mem)) = some (nI 0, u') ∧ Core N lat u' ∧ u' 6 1 = x ∧ Cd u u' ∧ u' 10 2 = u 10 2 ∧ u' 10 3 = u 10 3 := ⟨_, rfl, C1, by rw [mset_at, if_pos rfl, if_pos rfl], same_rf rfl rfl rfl rfl rfl, rfl, rfl⟩
  unfold pX1_switchPower pX1_switchPower_15 pX1_switchPower_16 pX1_switchPower_53
  rw [pz_e (z01 hx)]
  simp only [ob_some]
  by_cases c : x = 1 ∧ u 6 1 = 0 ∧ u 0 3 = 1 ∧ u 0 2 < 20
  · obtain ⟨k1, k2, k3, k4⟩ := id c
    subst k1
    rw [if_neg (by decide), if_pos k2, if_neg (by decide), show mset u 6 1 1 0 3 = u 0 3 from rfl, k3, if_neg (by decide), show mset u 6 1 1 0 2 = u 0 2 from rfl, if_neg (Int32.not_le.mpr k4)]
    obtain ⟨u', g1, g2, g3, g4, g5, g6⟩ := da_r C1 (show mset u 6 1 1 0 3 = 1 from k3)
    rw [g1, bd2_some]
    refine ⟨Dt u, u', rfl, by rw [if_pos ⟨rfl, k2, rfl, k4⟩], Dt_12 u, g2, ?_, ?_, ?_, ?_⟩
    · rw [g4.2.2.2.2.2.1, mset_at, if_pos rfl, if_pos rfl]
    · exact Cd_of (v := mset u 6 1 1) rfl (Mi_rf rfl rfl rfl rfl) (da_cd (u := mset u 6 1 1) C1.2.2.2.2.1 g3 g6)
    · rw [g6, show (fun q => dcs (Dn (mset u 6 1 1) (nI q)) 2) = fun _ => 0 from funext fun q => dcs_2 _, sm_zero]; exact Int32.add_zero _
    · rw [g6, show (fun q => dcs (Dn (mset u 6 1 1) (nI q)) 3) = fun _ => 0 from funext fun q => dcs_3 _, sm_zero]; exact Int32.add_zero _
  · obtain ⟨u', g1, g2, g3, g4⟩ := nop
    refine ⟨0, u', ?_, by rw [if_neg c], by decide, g2, g3, g4⟩
    rw [← g1]
    rcases hx with rfl | rfl
    · rw [if_pos rfl, if_pos trivial]
    · rw [if_neg (by decide)]
      by_cases q1 : u 6 1 = 0
      · rw [if_pos q1, if_neg (by decide), show mset u 6 1 1 0 3 = u 0 3 from rfl, show mset u 6 1 1 0 2 = u 0 2 from rfl]
        rcases h.1.1 with e | e
        · rw [e, if_pos rfl]
        · rw [e, if_neg (by decide), if_pos (Int32.not_lt.mp fun q => c ⟨rfl, q1, e, q⟩)]
      · rw [if_neg q1, if_pos trivial]
