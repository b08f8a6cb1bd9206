section TLD2
variable {N : Nat} {lat : Nat → Int32} {u : Mem}
theorem hold3 (h : Core N lat u) (hN : N < 2 ^ 20) (hC : Cn N u) (t hh : Mem) (S : Nat → Mem) : ∀ (d i n m : Nat), i + d = 64 → d < n → m + rc (fun b => !fnd u b) i d = Ms u → pL_holds_294 t u hh S lat (nI (Us u)) (nI (Dt u)) n (nI m) 1 (nI i) = some 1 := by
  intro d
  induction d with
  | zero =>
    intro i n m hi hn hm
    obtain ⟨p, rfl⟩ : ∃ p, n = p + 1 := ⟨n - 1, by omega⟩
    obtain rfl : i = 64 := by omega
    obtain rfl : m = Ms u := hm
    obtain ⟨c, c1, c2, c3, c4⟩ := hC
    have hms := Ms_le h
    have hM : Ms u ≤ 64 := by rw [Ms_e]; exact rc_le 64 0
    have hD := Dt_12 u
    have c6 := (c1 6 (by decide)).2
    -- the last check
    have f467 : ∀ v V : Int32, V = (if u 6 1 = 1 ∧ u 0 3 = 1 then (-1 : Int32) else if Dt u = 0 then -1 else u 0 2) → v = (if V = -1 then 1 else 0) → pL_holds_467 t u hh S lat (nI (Dt u)) v = some 1 := by
      intro v V hV hv
      unfold pL_holds_467 pL_holds_485 pL_holds_489 pL_holds_490 pL_holds_498
      rw [q_isOn h.1, ob_some, q_isIn h.1, ob_some]
      by_cases z : Dt u = 0
      · have hV : V = -1 := by
          rw [hV, if_pos z]
          split <;> rfl
        rw [if_pos hV] at hv
        subst hv
        rw [if_pos ((nI0 (by omega)).mpr z), if_pos rfl, if_pos b2_1]
      · rw [if_neg (show ¬ nI (Dt u) = 0 from fun q => z ((nI0 (by omega)).mp q))]
        obtain ⟨L, c0, l1, l2, l3, l4, l5, l6⟩ := id h.2.1
        have hm1 : ¬ u 0 2 = -1 := by rw [l5]; exact nI_m1 (by omega)
        rcases h.1.2 with e | e
        · have hV : V = u 0 2 := by rw [hV, if_neg (show ¬ (u 6 1 = 1 ∧ u 0 3 = 1) from fun q => absurd (e.symm.trans q.1) (by decide)), if_neg z]
          rw [hV, if_neg hm1] at hv
          subst hv
          rw [if_pos e, if_pos rfl, if_pos b2_1]
        · rcases h.1.1 with e2 | e2
          · have hV : V = u 0 2 := by rw [hV, if_neg (show ¬ (u 6 1 = 1 ∧ u 0 3 = 1) from fun q => absurd (e2.symm.trans q.2) (by decide)), if_neg z]
            rw [hV, if_neg hm1] at hv
            subst hv
            rw [if_neg (show ¬ u 6 1 = 0 by rw [e]; decide), if_pos e2, if_pos rfl, if_pos b2_1]
          · have hV : V = -1 := by rw [hV, if_pos ⟨e, e2⟩]
            rw [if_pos hV] at hv
            subst hv
            rw [if_neg (show ¬ u 6 1 = 0 by rw [e]; decide), if_neg (show ¬ u 0 3 = 0 by rw [e2]; decide), if_pos rfl, if_pos b2_1]
    have f450 : ∀ e : Nat, e ≤ 12 → Ms u ≤ c 6 + e → pL_holds_450 t u hh S lat (nI (Dt u)) (nI (Ms u)) (nI (c 6)) (nI e) = some 1 := fun e he hle => by
      unfold pL_holds_450
      rw [nI_add, if_neg (nI_nlt hle (by omega)), q_ticks h.1, ob_some]
      by_cases q : (if u 6 1 = 1 ∧ u 0 3 = 1 then (-1 : Int32) else if Dt u = 0 then -1 else u 0 2) = -1
      · rw [if_pos q]
        exact f467 _ _ rfl (by rw [if_pos q])
      · rw [if_neg q]
        exact f467 _ _ rfl (by rw [if_neg q])
    show pL_holds_294b t u hh S lat (nI (Us u)) (nI (Dt u)) _ (nI (Ms u)) 1 (nI 64) = _
    unfold pL_holds_294b
    rw [if_pos at64, if_neg one0, q_used, ob_some, if_pos rfl, q_dirty, ob_some, if_pos rfl, q_missing h, ob_some, if_pos rfl, (cnt_e t u hh S).2.2.2.2, ob_some, q_isIn h.1, ob_some, (c1 6 (by decide)).1]
    rcases h.1.1 with e | e
    · rw [e, if_pos rfl]
      refine f450 (Dt u) hD ?_
      rw [if_neg (by rw [e]; decide)] at hms
      omega
    · rw [e, if_neg one0]
      refine f450 0 (by decide) ?_
      rw [if_pos e] at hms
      omega
  | succ d ih =>
    intro i n m hi hn hm
    obtain ⟨p, rfl⟩ : ∃ p, n = p + 1 := ⟨n - 1, by omega⟩
    have hi2 : i < 64 := by omega
    have em : rc (fun b => !fnd u b) i (d + 1) = (!fnd u i).toNat + rc (fun b => !fnd u b) (i + 1) d := rfl
    have hl : ldl lat (nI i) = some (lat i) := by
      unfold ldl
      rw [if_pos (inB_nI hi2 (by decide)), nI_clamp (by omega)]
    have f318 : ∀ r : Int32, (r = -1 ∧ (u 0 3 = 1 → ∀ k, k < 12 → ¬ u 1 k = nI i)) ∨ (∃ k, k < 12 ∧ r = nI k ∧ u 0 3 = 1 ∧ u 1 k = nI i) → pL_holds_318 t u hh S lat (nI (Us u)) (nI (Dt u)) (pL_holds_294 t u hh S lat (nI (Us u)) (nI (Dt u)) p) (nI m) 1 (nI i) r = some 1 := by
      intro r hr
      unfold pL_holds_318 pL_holds_336 pL_holds_384 pL_holds_387 pL_holds_391 pL_holds_392
      rw [q_isFound h t hh S hi2, ob_some]
      cases e : fnd u i
      · rw [if_pos (show b2 false = 0 from rfl), if_neg one0, ob_some, if_pos (show b2 false = 0 from rfl), nI_1, nI_1]
        exact ih (i + 1) p (m + 1) (by omega) (by omega) (by rw [em, e] at hm; simp at hm; omega)
      · have go := ih (i + 1) p m (by omega) (by omega) (by rw [em, e] at hm; simpa using hm)
        rw [if_neg (show ¬ b2 true = 0 by decide), if_neg one0, ob_some, if_neg (show ¬ b2 true = 0 by decide), hl, ob_some, nI_1, Int32.add_zero]
        rcases hr with ⟨rfl, hr⟩ | ⟨k, hk, rfl, hin, hk1⟩
        · rw [if_pos (show (-1 : Int32) < 0 by decide), q_onDisk t hh S hi2, ob_some, if_pos (val_disk h hi2 e hr).symm]
          exact go
        · have l1 := q_ln (u := u) t hh S hk (p := 1) (by decide)
          rw [LN_at (ne_m1 hi2 hk1), if_neg (by decide), if_pos rfl] at l1
          rw [if_neg (nn0 (by omega)), show pX4_line t u hh S (nI k / 3) (nI k - nI k / 3 * 3) 1 = some (u 2 k) from l1, ob_some, if_pos (val_line h hin hi2 hk hk1).symm]
          exact go
    show pL_holds_294b t u hh S lat (nI (Us u)) (nI (Dt u)) (pL_holds_294 t u hh S lat (nI (Us u)) (nI (Dt u)) p) (nI m) 1 (nI i) = _
    unfold pL_holds_294b
    rw [if_neg (ge64 hi2), q_isIn h.1, ob_some]
    rcases h.1.1 with e | e
    · rw [e, if_pos rfl]
      exact f318 (-1) (Or.inl ⟨rfl, fun q => by rw [e] at q; exact absurd q (by decide)⟩)
    · rw [e, if_neg one0]
      obtain ⟨r, r1, r2⟩ := lo_r (u := u) t hh S (nI i)
      rw [r1, ob_some]
      refine f318 r ?_
      rcases r2 with ⟨q1, q2⟩ | ⟨k, q1, q2, q3⟩
      · exact Or.inl ⟨q1, fun _ => q2⟩
      · exact Or.inr ⟨k, q1, q2, e, q3⟩
end TLD2
