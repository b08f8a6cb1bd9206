/-- what a pass of d ticks loses -/
def los (u : Mem) (c d : Nat) : Nat := if 0 < c ∧ c ≤ d then Dt u else 0
/-- the ticks of a pass, without -/
theorem dn_p {N x : Nat} {lat : Nat → Int32} (hx : x < 2 ^ 20) : ∀ (d i n c : Nat) (u : Mem), i + d = x → d < n → Core N lat u → ¬ (u 6 1 = 1 ∧ u 0 3 = 1) → u 0 2 = nI c → c ≤ 100 →
    ∃ u' : Mem, pX1_letPass_2 (nI x) n (nI i) u = some u' ∧ Core N lat u' ∧ Mi' u' ≤ Mi' u + los u c d ∧ (∀ j, u' 10 j = u 10 j + nI (if j = 6 then los u c d else 0)) ∧ u' 0 3 = u 0 3 ∧ u' 6 = u 6 ∧ u' 0 2 = nI (c - d) := by
  intro d
  induction d with
  | zero =>
    intro i n c u hi hn h hnr hc hcl
    obtain ⟨p, rfl⟩ : ∃ p, n = p + 1 := ⟨n - 1, by omega⟩
    obtain rfl : i = x := by omega
    have z : los u c 0 = 0 := by unfold los; rw [if_neg (by omega)]
    refine ⟨u, ?_, h, Nat.le_add_right _ _, fun j => ?_, rfl, rfl, hc⟩
    · show pX1_letPass_2b (nI i) _ (nI i) u = _
      unfold pX1_letPass_2b
      rw [if_pos (Int32.le_refl _)]
    · rw [z]; split <;> exact (Int32.add_zero _).symm
  | succ d ih =>
    intro i n c u hi hn h hnr hc hcl
    obtain ⟨p, rfl⟩ : ∃ p, n = p + 1 := ⟨n - 1, by omega⟩
    have hlt : ¬ nI x ≤ nI i := nI_ge (by omega) (by omega)
    obtain ⟨y, v, v1, v2, v3, v4, v5, v6, v7, v8, v9⟩ := dr_r h hc hcl
    have e1 : pX1_letPass_2 (nI x) (p + 1) (nI i) u = pX1_letPass_2 (nI x) p (nI (i + 1)) (ac v 6 (nI y)) := by
      show pX1_letPass_2b (nI x) _ (nI i) u = _
      unfold pX1_letPass_2b pX1_letPass_41
      rw [if_neg hlt, can_e h.1, ob_some, decide_eq_false hnr, if_pos (show b2 false = 0 from rfl), ldc6, ob_some, v1, bd2_some, stc6, ob_some, nI_1]
      unfold ac
      rw [v6]
    rw [e1]
    have hnr' : ¬ (ac v 6 (nI y) 6 1 = 1 ∧ ac v 6 (nI y) 0 3 = 1) := by
      rw [show ac v 6 (nI y) 6 = v 6 from rfl, show ac v 6 (nI y) 0 = v 0 from rfl, v5, v4]; exact hnr
    obtain ⟨u2, g1, g2, g3, g4, g5, g6, g7⟩ := ih (i + 1) p (c - 1) (ac v 6 (nI y)) (by omega) (by omega) (core_ac v2 6 _) hnr' v3 (by omega)
    have hM : Mi' (ac v 6 (nI y)) = Mi' v := by rw [Mi_e, Mi_e, mi_ac]
    have hs : y + los (ac v 6 (nI y)) (c - 1) d = los u c (d + 1) := by
      by_cases q : c ≤ 1
      · have y0 : y = Dt u := by rw [v7, if_pos q]
        unfold los
        rw [if_neg (show ¬ (0 < c - 1 ∧ c - 1 ≤ d) by omega), y0]
        by_cases q2 : 0 < c
        · rw [if_pos ⟨q2, by omega⟩]; rfl
        · rw [if_neg (fun w => q2 w.1)]
          -- the charge is 0: every line is empty
          obtain ⟨L, c0, l1, l2, l3, l4, l5, l6⟩ := id h.2.1
          have e := nI_inj (by omega) (by omega) (l5.symm.trans hc)
          have : Dt u = 0 := rc_0 12 0 (fun k _ hk => by
            rcases h.2.2.2.2.1 k (by omega) with w | ⟨b, B⟩
            · exact decide_eq_false (not_not_intro w.2)
            · exact absurd (l6 (by omega) k (by omega)) B.ne)
          omega
      · have y0 : y = 0 := by rw [v7, if_neg q]
        have eD : Dt (ac v 6 (nI y)) = Dt u := by
          show rc (dy (ac v 6 (nI y))) 0 12 = rc (dy u) 0 12
          refine rc_congr 12 0 (fun k _ _ => ?_)
          unfold dy
          rw [show ac v 6 (nI y) 5 = v 5 from rfl, (v9 (by omega)).2]
        unfold los
        rw [eD, y0, Nat.zero_add]
        by_cases q2 : c ≤ d + 1
        · rw [if_pos ⟨by omega, by omega⟩, if_pos ⟨by omega, q2⟩]
        · rw [if_neg (by omega), if_neg (by omega)]
    refine ⟨u2, g1, g2, by rw [← hs, ← Nat.add_assoc]; rw [hM] at g3; exact Nat.le_trans g3 (Nat.add_le_add_right v8 _), fun j => ?_, g5.trans v4, g6.trans v5, by rw [g7, Nat.sub_sub, Nat.add_comm 1 d]⟩
    rw [g4 j, ac_at, v6]
    by_cases e : j = 6
    · subst e
      rw [if_pos rfl, if_pos rfl, if_pos rfl, ← hs, Int32.add_assoc, nI_add]
    · rw [if_neg e, if_neg e, if_neg e]
