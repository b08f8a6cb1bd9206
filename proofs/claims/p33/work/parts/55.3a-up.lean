/-! TIME, THE LIMIT, THE POWER, THE STICK, piece 3. -/
/-- the ticks of a pass, with power from outside -/
theorem up_p {N x : Nat} {lat : Nat → Int32} (hx : x < 2 ^ 20) : ∀ (d i n c : Nat) (u : Mem), i + d = x → d < n → Core N lat u → u 6 1 = 1 → u 0 3 = 1 → u 0 2 = nI c → c ≤ 100 →
    ∃ (c' : Nat) (u' : Mem), pX1_letPass_2 (nI x) n (nI i) u = some u' ∧ Core N lat u' ∧ (∀ b, mi u' b = mi u b) ∧ u' 10 = u 10 ∧ u' 0 3 = 1 ∧ u' 6 = u 6 ∧ u' 0 2 = nI c' ∧ c ≤ c' ∧ c' ≤ c + 2 * d ∧ c' ≤ 100 := by
  intro d
  induction d with
  | zero =>
    intro i n c u hi hn h hon hin hc hcl
    obtain ⟨p, rfl⟩ : ∃ p, n = p + 1 := ⟨n - 1, by omega⟩
    obtain rfl : i = x := by omega
    refine ⟨c, u, ?_, h, fun b => rfl, rfl, hin, rfl, hc, Nat.le_refl _, by omega, hcl⟩
    show pX1_letPass_2b (nI i) _ (nI i) u = _
    unfold pX1_letPass_2b
    rw [if_pos (Int32.le_refl _)]
  | succ d ih =>
    intro i n c u hi hn h hon hin hc hcl
    obtain ⟨p, rfl⟩ : ∃ p, n = p + 1 := ⟨n - 1, by omega⟩
    obtain ⟨L, c0, l1, l2, l3, l4, l5, l6⟩ := id h.2.1
    have e := nI_inj (by omega) (by omega) (l5.symm.trans hc)
    subst e
    have hlt : ¬ nI x ≤ nI i := nI_ge (by omega) (by omega)
    have e1 : pX1_letPass_2 (nI x) (p + 1) (nI i) u = pX1_letPass_2 (nI x) p (nI (i + 1)) (mset u 0 2 (nI (if L < c0 + 2 then L else c0 + 2))) := by
      show pX1_letPass_2b (nI x) _ (nI i) u = _
      unfold pX1_letPass_2b pX1_letPass_41 pX2_load
      rw [if_neg hlt, can_e h.1, ob_some, decide_eq_true ⟨hon, hin⟩, if_neg (show ¬ b2 true = 0 by decide), l4, l5, pf_e, ob_some, ob_some, nI_1]
      rw [show nI c0 + 2 = nI (c0 + 2) from nI_add c0 2]
      by_cases q : L < c0 + 2
      · rw [if_pos (nI_lt q (by omega)), if_pos q]
      · rw [if_neg (nI_nlt (by omega) (by omega)), if_neg q]
    rw [e1]
    have hk : c0 ≤ (if L < c0 + 2 then L else c0 + 2) ∧ (if L < c0 + 2 then L else c0 + 2) ≤ c0 + 2 ∧ (if L < c0 + 2 then L else c0 + 2) ≤ L := by split <;> omega
    obtain ⟨k1, k2, k3⟩ := hk
    generalize (if L < c0 + 2 then L else c0 + 2) = c1 at k1 k2 k3 ⊢
    have C1 : Core N lat (mset u 0 2 (nI c1)) := ch_core h (fun L' q _ => by
      have := nI_inj (by omega) (by omega) (l4.symm.trans q); omega) (fun q => l6 (by omega))
    obtain ⟨c2, u2, g1, g2, g3, g4, g5, g6, g7, g8, g9, g10⟩ := ih (i + 1) p c1 (mset u 0 2 (nI c1)) (by omega) (by omega) C1 hon (by rw [mset_at, if_pos rfl, if_neg (by decide)]; exact hin) (by rw [mset_at, if_pos rfl, if_pos rfl]) (by omega)
    exact ⟨c2, u2, g1, g2, fun b => (g3 b).trans rfl, g4.trans rfl, g5, g6.trans rfl, g7, by omega, by omega, g10⟩
