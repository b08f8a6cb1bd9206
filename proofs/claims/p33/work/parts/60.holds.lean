/-! WHAT IS TOLD OF A STATE IS TOLD OF THE STATE ALONE; WHAT THE LAW ASKS OF A STATE HOLDS. -/
section TLD
variable {N : Nat} {lat : Nat → Int32} {u : Mem}
theorem told3 (h : Core N lat u) : ∀ (d i n : Nat) (x : Int64), i + d = 64 → d < n → ∃ T : Int64, ∀ t hh S, pL_told_119 t u hh S n x (nI i) = some T := by
  intro d
  induction d with
  | zero =>
    intro i n x hi hn
    obtain ⟨p, rfl⟩ : ∃ p, n = p + 1 := ⟨n - 1, by omega⟩
    obtain rfl : i = 64 := by omega
    refine ⟨x, fun t hh S => ?_⟩
    show pL_told_119b t u hh S _ x (nI 64) = _
    unfold pL_told_119b
    rw [if_pos at64]
  | succ d ih =>
    intro i n x hi hn
    obtain ⟨p, rfl⟩ : ∃ p, n = p + 1 := ⟨n - 1, by omega⟩
    have hi2 : i < 64 := by omega
    obtain ⟨T0, h0⟩ := ih (i + 1) p ((31 * ((31 * x) + (u 7 i).toInt64)) + (0 : Int32).toInt64) (by omega) (by omega)
    obtain ⟨T1, h1⟩ := ih (i + 1) p ((31 * ((31 * x) + (u 7 i).toInt64)) + (1 : Int32).toInt64) (by omega) (by omega)
    cases e : fnd u i
    · refine ⟨T0, fun t hh S => ?_⟩
      show pL_told_119b t u hh S (pL_told_119 t u hh S p) x (nI i) = _
      unfold pL_told_119b
      rw [if_neg (ge64 hi2), q_onDisk t hh S hi2, ob_some, q_isFound h t hh S hi2, ob_some, e, if_pos (show b2 false = 0 from rfl), nI_1]
      exact h0 t hh S
    · refine ⟨T1, fun t hh S => ?_⟩
      show pL_told_119b t u hh S (pL_told_119 t u hh S p) x (nI i) = _
      unfold pL_told_119b
      rw [if_neg (ge64 hi2), q_onDisk t hh S hi2, ob_some, q_isFound h t hh S hi2, ob_some, e, if_neg (show ¬ b2 true = 0 by decide), nI_1]
      exact h1 t hh S
theorem told2 (h : Core N lat u) : ∀ (d i n : Nat) (x : Int64), i + d = 60 → d < n → ∃ T : Int64, ∀ t hh S, pL_told_81 t u hh S n x (nI i) = some T := by
  intro d
  induction d with
  | zero =>
    intro i n x hi hn
    obtain ⟨p, rfl⟩ : ∃ p, n = p + 1 := ⟨n - 1, by omega⟩
    obtain rfl : i = 60 := by omega
    obtain ⟨T, hT⟩ := told3 h 64 0 FU x rfl (by decide)
    refine ⟨T, fun t hh S => ?_⟩
    show pL_told_81b t u hh S _ x (nI 60) = _
    unfold pL_told_81b
    rw [if_pos (show (60 : Int32) ≤ nI 60 by decide)]
    exact hT t hh S
  | succ d ih =>
    intro i n x hi hn
    obtain ⟨p, rfl⟩ : ∃ p, n = p + 1 := ⟨n - 1, by omega⟩
    have hi2 : i < 60 := by omega
    obtain ⟨T, hT⟩ := ih (i + 1) p ((31 * x) + (LN u (3 * (i / 15) + i / 5 % 3) (i % 5)).toInt64) (by omega) (by omega)
    refine ⟨T, fun t hh S => ?_⟩
    have ql := q_line (u := u) t hh S (a := i / 15) (c := i / 5 % 3) (p := i % 5) (by omega) (by omega) (by omega)
    show pL_told_81b t u hh S (pL_told_81 t u hh S p) x (nI i) = _
    unfold pL_told_81b
    rw [if_neg (show ¬ (60 : Int32) ≤ nI i from nI_ge (b := 60) hi2 (by decide)), show nI i / 15 = nI (i / 15) from pk_div (d := 15) (by omega) (by decide) (by decide), show nI i - nI i / 5 * 5 = nI (i % 5) from pk_rem (d := 5) (by omega) (by decide) (by decide), show nI i / 5 = nI (i / 5) from pk_div (d := 5) (by omega) (by decide) (by decide), rem3 (by omega), ql, ob_some, nI_1]
    exact hT t hh S
theorem told1 (h : Core N lat u) : ∀ (d i n : Nat) (x : Int64), i + d = 8 → d < n → ∃ T : Int64, ∀ t hh S, pL_told_54 t u hh S n x (nI i) = some T := by
  intro d
  induction d with
  | zero =>
    intro i n x hi hn
    obtain ⟨p, rfl⟩ : ∃ p, n = p + 1 := ⟨n - 1, by omega⟩
    obtain rfl : i = 8 := by omega
    obtain ⟨T, hT⟩ := told2 h 60 0 FU x rfl (by decide)
    refine ⟨T, fun t hh S => ?_⟩
    show pL_told_54b t u hh S _ x (nI 8) = _
    unfold pL_told_54b
    rw [if_pos (show (8 : Int32) ≤ nI 8 by decide)]
    exact hT t hh S
  | succ d ih =>
    intro i n x hi hn
    obtain ⟨p, rfl⟩ : ∃ p, n = p + 1 := ⟨n - 1, by omega⟩
    obtain ⟨T, hT⟩ := ih (i + 1) p ((31 * x) + (u 10 i).toInt64) (by omega) (by omega)
    refine ⟨T, fun t hh S => ?_⟩
    show pL_told_54b t u hh S (pL_told_54 t u hh S p) x (nI i) = _
    unfold pL_told_54b
    rw [if_neg (show ¬ (8 : Int32) ≤ nI i from nI_ge (b := 8) (by omega) (by decide)), q_count t hh S (by omega), ob_some, nI_1]
    exact hT t hh S
theorem told_r (h : Core N lat u) : ∃ T : Int64, ∀ t hh S, pL_told t u hh S = some T := by
  have ms := fun t hh S => q_missing h t hh S
  have io := fun t hh S => q_isOn h.1 t hh S
  have ii := fun t hh S => q_isIn h.1 t hh S
  have ch : ∀ t hh S, pX4_charge t u hh S = some (u 0 2) := fun _ _ _ => rfl
  have go : ∀ x : Int64, ∃ T : Int64, ∀ t hh S, pL_told_54 t u hh S FU x 0 = some T := fun x => told1 h 8 0 FU x rfl (by decide)
  by_cases e1 : u 6 1 = 0
  · by_cases e2 : u 0 3 = 0
    · obtain ⟨T, hT⟩ := go ((31 * ((31 * ((31 * (u 0 2).toInt64) + (0 : Int32).toInt64)) + (0 : Int32).toInt64)) + (nI (Ms u)).toInt64)
      refine ⟨T, fun t hh S => ?_⟩
      unfold pL_told
      rw [ch, ob_some, io, ob_some, if_pos e1, ii, ob_some, if_pos e2, ms, ob_some]
      exact hT t hh S
    · obtain ⟨T, hT⟩ := go ((31 * ((31 * ((31 * (u 0 2).toInt64) + (0 : Int32).toInt64)) + (1 : Int32).toInt64)) + (nI (Ms u)).toInt64)
      refine ⟨T, fun t hh S => ?_⟩
      unfold pL_told
      rw [ch, ob_some, io, ob_some, if_pos e1, ii, ob_some, if_neg e2, ms, ob_some]
      exact hT t hh S
  · by_cases e2 : u 0 3 = 0
    · obtain ⟨T, hT⟩ := go ((31 * ((31 * ((31 * (u 0 2).toInt64) + (1 : Int32).toInt64)) + (0 : Int32).toInt64)) + (nI (Ms u)).toInt64)
      refine ⟨T, fun t hh S => ?_⟩
      unfold pL_told
      rw [ch, ob_some, io, ob_some, if_neg e1, ii, ob_some, if_pos e2, ms, ob_some]
      exact hT t hh S
    · obtain ⟨T, hT⟩ := go ((31 * ((31 * ((31 * (u 0 2).toInt64) + (1 : Int32).toInt64)) + (1 : Int32).toInt64)) + (nI (Ms u)).toInt64)
      refine ⟨T, fun t hh S => ?_⟩
      unfold pL_told
      rw [ch, ob_some, io, ob_some, if_neg e1, ii, ob_some, if_neg e2, ms, ob_some]
      exact hT t hh S
/-- the value of a found block is the latest one -/
theorem val_line (h : Core N lat u) (hin : u 0 3 = 1) {b k : Nat} (hb : b < 64) (hk : k < 12) (e : u 1 k = nI b) : u 2 k = lat b := ((LB.of (h.2.2.2.2.1 k hk) hb e).up hin).2
theorem val_disk (h : Core N lat u) {b : Nat} (hb : b < 64) (hf : fnd u b = true) (hn : u 0 3 = 1 → ∀ k, k < 12 → ¬ u 1 k = nI b) : u 7 b = lat b := by
  rcases fnd_of hf with q | ⟨q1, k, q2, q3⟩
  · exact (h.2.2.2.1 b hb).2.2 q
  · exact absurd q3 (hn q1 k q2)
theorem dyn (u : Mem) (i : Nat) : nI ((dy u i).toNat) = if u 5 i = 0 then 0 else 1 := by
  unfold dy
  by_cases z : u 5 i = 0
  · rw [decide_eq_false (not_not_intro z), if_pos z]; rfl
  · rw [decide_eq_true z, if_neg z]; rfl
/-- the law's look at the lines -/
theorem hold1 (h : Core N lat u) (x4 : Int32) (t hh : Mem) (S : Nat → Mem) : ∀ (d i n a c : Nat), i + d = 12 → d < n → pL_holds_65 t u hh S lat x4 n (nI a) (nI c) 1 (nI i) = pL_holds_247 t u hh S lat (nI (a + rc (us u) i d)) (nI (c + rc (dy u) i d)) x4 FU 1 0 := by
  intro d
  induction d with
  | zero =>
    intro i n a c hi hn
    obtain ⟨p, rfl⟩ : ∃ p, n = p + 1 := ⟨n - 1, by omega⟩
    obtain rfl : i = 12 := by omega
    show pL_holds_65b t u hh S lat x4 _ (nI a) (nI c) 1 (nI 12) = _
    unfold pL_holds_65b
    rw [if_pos at12]; rfl
  | succ d ih =>
    intro i n a c hi hn
    obtain ⟨p, rfl⟩ : ∃ p, n = p + 1 := ⟨n - 1, by omega⟩
    have hi2 : i < 12 := by omega
    have ea : rc (us u) i (d + 1) = (us u i).toNat + rc (us u) (i + 1) d := rfl
    have ec : rc (dy u) i (d + 1) = (dy u i).toNat + rc (dy u) (i + 1) d := rfl
    show pL_holds_65b t u hh S lat x4 (pL_holds_65 t u hh S lat x4 p) (nI a) (nI c) 1 (nI i) = _
    unfold pL_holds_65b
    rw [if_neg (ge12 hi2), q_ln0 t hh S hi2, ob_some]
    rcases h.2.2.2.2.1 i hi2 with ⟨a1, a2⟩ | ⟨b, B⟩
    · rw [if_pos a1]
      unfold pL_holds_238
      rw [nI_1, ih (i + 1) p a c (by omega) (by omega), ea, ec, show us u i = false from decide_eq_false (not_not_intro a1), show dy u i = false from decide_eq_false (not_not_intro a2)]
      simp
    · have hne := B.ne
      have l4 := q_ln (u := u) t hh S hi2 (p := 4) (by decide)
      have l3 := q_ln (u := u) t hh S hi2 (p := 3) (by decide)
      have l2 := q_ln (u := u) t hh S hi2 (p := 2) (by decide)
      have l1 := q_ln (u := u) t hh S hi2 (p := 1) (by decide)
      rw [LN_at hne, if_neg (by decide), if_neg (by decide), if_neg (by decide), if_neg (by decide), ← dyn] at l4
      rw [LN_at hne, if_neg (by decide), if_neg (by decide), if_neg (by decide), if_pos rfl] at l3
      rw [LN_at hne, if_neg (by decide), if_neg (by decide), if_pos rfl] at l2
      rw [LN_at hne, if_neg (by decide), if_pos rfl] at l1
      have l4 : pX4_line t u hh S (nI i / 3) (nI i - nI i / 3 * 3) 4 = some (nI (dy u i).toNat) := l4
      have l3 : pX4_line t u hh S (nI i / 3) (nI i - nI i / 3 * 3) 3 = some (u 4 i) := l3
      have l2 : pX4_line t u hh S (nI i / 3) (nI i - nI i / 3 * 3) 2 = some (u 3 i) := l2
      have l1 : pX4_line t u hh S (nI i / 3) (nI i - nI i / 3 * 3) 1 = some (u 2 i) := l1
      have hb : b < 64 := B.1
      have fin : pL_holds_236 t u hh S lat x4 (pL_holds_65 t u hh S lat x4 p) (nI a + 1) (nI c + nI (dy u i).toNat) (nI i) 1 = pL_holds_247 t u hh S lat (nI (a + rc (us u) i (d + 1))) (nI (c + rc (dy u) i (d + 1))) x4 FU 1 0 := by
        unfold pL_holds_236 pL_holds_238
        rw [nI_1, nI_1, nI_add, ih (i + 1) p _ _ (by omega) (by omega), ea, ec, show us u i = true from decide_eq_true hne]
        rw [show a + (Bool.toNat true + rc (us u) (i + 1) d) = a + 1 + rc (us u) (i + 1) d by simp; omega, Nat.add_assoc]
      have f178 : pL_holds_178 t u hh S lat x4 (pL_holds_65 t u hh S lat x4 p) (nI a + 1) (nI c + nI (dy u i).toNat) (nI i) (u 1 i) 1 = pL_holds_247 t u hh S lat (nI (a + rc (us u) i (d + 1))) (nI (c + rc (dy u) i (d + 1))) x4 FU 1 0 := by
        unfold pL_holds_178 pL_holds_231
        rw [if_neg one0, q_isIn h.1, ob_some]
        rcases h.1.1 with e | e
        · rw [e, if_pos rfl]; exact fin
        · rw [e, if_neg one0, l4, ob_some, dyn]
          by_cases z : u 5 i = 0
          · rw [if_pos z, if_neg (by decide), B.2.1, q_onDisk t hh S hb, ob_some, l1, ob_some]
            rw [if_pos (((h.2.2.2.1 b hb).2.2 (B.2.2.2.2.2.2.2 z)).trans (B.up e).2.symm)]
            exact fin
          · rw [if_neg z, if_pos rfl]; exact fin
      rw [if_neg hne, l4, ob_some, if_neg one0]
      rw [show (u 1 i / 4) - (u 1 i / 4) / 4 * 4 = nI i / 3 by rw [B.2.1, div4 (by omega), set4 (by omega), div3 (by omega), B.2.2.1]]
      rw [if_pos rfl, lo_at h.2.2.2.2.2 t hh S hi2 hne, ob_some, if_pos rfl, l2, ob_some, if_neg (Int32.not_le.mpr B.2.2.2.2.1), l3, ob_some, if_neg (Int32.not_le.mpr B.2.2.2.2.2.1)]
      exact f178
theorem hold2 (h : Core N lat u) (x2 x3 x4 : Int32) (t hh : Mem) (S : Nat → Mem) : ∀ (d i n : Nat), i + d = 16 → d < n → pL_holds_247 t u hh S lat x2 x3 x4 n 1 (nI i) = pL_holds_294 t u hh S lat x2 x3 FU x4 1 0 := by
  intro d
  induction d with
  | zero =>
    intro i n hi hn
    obtain ⟨p, rfl⟩ : ∃ p, n = p + 1 := ⟨n - 1, by omega⟩
    obtain rfl : i = 16 := by omega
    show pL_holds_247b t u hh S lat x2 x3 x4 _ 1 (nI 16) = _
    unfold pL_holds_247b
    rw [if_pos at16]
  | succ d ih =>
    intro i n hi hn
    obtain ⟨p, rfl⟩ : ∃ p, n = p + 1 := ⟨n - 1, by omega⟩
    have hi2 : i < 16 := by omega
    have hD := Dn_3 hi2 h.2.2.2.2.1
    show pL_holds_247b t u hh S lat x2 x3 x4 (pL_holds_247 t u hh S lat x2 x3 x4 p) 1 (nI i) = _
    unfold pL_holds_247b pL_holds_283
    rw [if_neg (ge16 hi2), if_neg one0, q_dirtyOf t hh S hi2, ob_some, if_neg (nn0 (by omega)), ob_some, if_neg (show ¬ (3 : Int32) < nI (Dn u (nI i)) from nI_nlt (a := 3) (by omega) (by decide)), nI_1]
    exact ih (i + 1) p (by omega) (by omega)
theorem hold3 (h : Core N lat u) (hN : N < 2 ^ 20) (hC : Cn N u) (t hh : Mem) (S : Nat → Mem) : ∀ (d i n m : Nat), i + d = 64 → d < n → m + rc (fun b => !fnd u b) i d = Ms u → pL_holds_294 t u hh S lat (nI (Us u)) (nI (Dt u)) n (nI m) 1 (nI i) = some 1 := by
  intro d
  induction d with
  | zero =>
    intro i n m hi hn hm
    obtain ⟨p, rfl⟩ : ∃ p, n = p + 1 := ⟨n - 1, by omega⟩
    obtain rfl : i = 64 := by omega
    obtain rfl : m = Ms u := hm
    obtain ⟨c, c1, c2, c3, c4⟩ := hC
    have hms := Ms_le h
    have hM : Ms u ≤ 64 := rc_le 64 0
    have hD := Dt_12 u
    have c6 := (c1 6 (by decide)).2
    -- the last check
    have f467 : pL_holds_467 t u hh S lat (nI (Dt u)) (if (if u 6 1 = 1 ∧ u 0 3 = 1 then (-1 : Int32) else if Dt u = 0 then -1 else u 0 2) = -1 then 1 else 0) = some 1 := by
      unfold pL_holds_467 pL_holds_485 pL_holds_489 pL_holds_490 pL_holds_498
      rw [q_isOn h.1, ob_some, q_isIn h.1, ob_some]
      by_cases z : Dt u = 0
      · rw [if_pos ((nI0 (by omega)).mpr z), if_pos z, show (if u 6 1 = 1 ∧ u 0 3 = 1 then (-1 : Int32) else -1) = -1 by split <;> rfl, if_pos rfl, if_pos rfl, if_pos b2_1]
      · rw [if_neg (fun q => z ((nI0 (by omega)).mp q)), if_neg z]
        obtain ⟨L, c0, l1, l2, l3, l4, l5, l6⟩ := id h.2.1
        have hm1 : ¬ u 0 2 = -1 := by rw [l5]; exact nI_m1 (by omega)
        rcases h.1.2 with e | e
        · rw [e, if_pos rfl, if_neg (fun q => absurd q.1 (by decide)), if_neg hm1, if_pos rfl, if_pos b2_1]
        · rw [e, if_neg one0]
          rcases h.1.1 with e2 | e2
          · rw [e2, if_pos rfl, if_neg (fun q => absurd q.2 (by decide)), if_neg hm1, if_pos rfl, if_pos b2_1]
          · rw [e2, if_neg one0, if_pos ⟨rfl, rfl⟩, if_pos rfl, if_pos rfl, if_pos b2_1]
    have f450 : ∀ e : Nat, e ≤ 12 → Ms u ≤ c 6 + e → pL_holds_450 t u hh S lat (nI (Dt u)) (nI (Ms u)) (nI (c 6)) (nI e) = some 1 := fun e he hle => by
      unfold pL_holds_450
      rw [nI_add, if_neg (nI_nlt hle (by omega)), q_ticks h.1, ob_some]
      rw [← f467]
      by_cases q : (if u 6 1 = 1 ∧ u 0 3 = 1 then (-1 : Int32) else if Dt u = 0 then -1 else u 0 2) = -1
      · rw [if_pos q, if_pos q]
      · rw [if_neg q, if_neg q]
    show pL_holds_294b t u hh S lat (nI (Us u)) (nI (Dt u)) _ (nI (Ms u)) 1 (nI 64) = _
    unfold pL_holds_294b
    rw [if_pos at64, if_neg one0, q_used, ob_some, if_pos rfl, q_dirty, ob_some, if_pos rfl, q_missing h, ob_some, if_pos rfl, (cnt_e t u hh S).2.2.2.2, ob_some, q_isIn h.1, ob_some, (c1 6 (by decide)).1]
    rcases h.1.1 with e | e
    · rw [e, if_pos rfl]
      refine f450 (Dt u) hD ?_
      rw [if_neg (by rw [e]; decide)] at hms
      omega
    · rw [e, if_neg one0]
      refine f450 0 (by decide) ?_
      rw [if_pos e] at hms
      omega
  | succ d ih =>
    intro i n m hi hn hm
    obtain ⟨p, rfl⟩ : ∃ p, n = p + 1 := ⟨n - 1, by omega⟩
    have hi2 : i < 64 := by omega
    have em : rc (fun b => !fnd u b) i (d + 1) = (!fnd u i).toNat + rc (fun b => !fnd u b) (i + 1) d := rfl
    have hl : ldl lat (nI i) = some (lat i) := by
      unfold ldl
      rw [if_pos (inB_nI hi2 (by decide)), nI_clamp (by omega)]
    have f318 : ∀ r : Int32, (r = -1 ∧ (u 0 3 = 1 → ∀ k, k < 12 → ¬ u 1 k = nI i)) ∨ (∃ k, k < 12 ∧ r = nI k ∧ u 0 3 = 1 ∧ u 1 k = nI i) → pL_holds_318 t u hh S lat (nI (Us u)) (nI (Dt u)) (pL_holds_294 t u hh S lat (nI (Us u)) (nI (Dt u)) p) (nI m) 1 (nI i) r = some 1 := by
      intro r hr
      unfold pL_holds_318 pL_holds_336 pL_holds_384 pL_holds_387 pL_holds_391 pL_holds_392
      rw [q_isFound h t hh S hi2, ob_some]
      cases e : fnd u i
      · rw [if_pos (show b2 false = 0 from rfl), if_neg one0, ob_some, if_pos (show b2 false = 0 from rfl), nI_1, nI_1]
        exact ih (i + 1) p (m + 1) (by omega) (by omega) (by rw [em, e] at hm; simp at hm; omega)
      · have go := ih (i + 1) p m (by omega) (by omega) (by rw [em, e] at hm; simpa using hm)
        rw [if_neg (show ¬ b2 true = 0 by decide), if_neg one0, ob_some, if_neg (show ¬ b2 true = 0 by decide), hl, ob_some, nI_1, Int32.add_zero]
        rcases hr with ⟨rfl, hr⟩ | ⟨k, hk, rfl, hin, hk1⟩
        · rw [if_pos (show (-1 : Int32) < 0 by decide), q_onDisk t hh S hi2, ob_some, if_pos (val_disk h hi2 e hr).symm]
          exact go
        · have l1 := q_ln (u := u) t hh S hk (p := 1) (by decide)
          rw [LN_at (ne_m1 hi2 hk1), if_neg (by decide), if_pos rfl] at l1
          rw [if_neg (nn0 (by omega)), show pX4_line t u hh S (nI k / 3) (nI k - nI k / 3 * 3) 1 = some (u 2 k) from l1, ob_some, if_pos (val_line h hin hi2 hk hk1).symm]
          exact go
    show pL_holds_294b t u hh S lat (nI (Us u)) (nI (Dt u)) (pL_holds_294 t u hh S lat (nI (Us u)) (nI (Dt u)) p) (nI m) 1 (nI i) = _
    unfold pL_holds_294b
    rw [if_neg (ge64 hi2), q_isIn h.1, ob_some]
    rcases h.1.1 with e | e
    · rw [e, if_pos rfl]
      exact f318 (-1) (Or.inl ⟨rfl, fun q => by rw [e] at q; exact absurd q (by decide)⟩)
    · rw [e, if_neg one0]
      obtain ⟨r, r1, r2⟩ := lo_r (u := u) t hh S (nI i)
      rw [r1, ob_some]
      refine f318 r ?_
      rcases r2 with ⟨q1, q2⟩ | ⟨k, q1, q2, q3⟩
      · exact Or.inl ⟨q1, fun _ => q2⟩
      · exact Or.inr ⟨k, q1, q2, e, q3⟩
theorem holds_r (h : Core N lat u) (hN : N < 2 ^ 10) (hC : Cn N u) (t hh : Mem) (S : Nat → Mem) : pL_holds t u hh S lat = some 1 ∧ HoldOK u := by
  refine ⟨?_, ?_⟩
  · unfold pL_holds pL_holds_60
    have e1 := hold1 h 0 t hh S 12 0 FU 0 0 rfl (by decide)
    rw [Nat.zero_add, Nat.zero_add] at e1
    rw [show pL_holds_65 t u hh S lat 0 FU 0 0 1 0 = _ from e1]
    have e2 := hold2 h (nI (Us u)) (nI (Dt u)) 0 t hh S 16 0 FU rfl (by decide)
    rw [show pL_holds_247 t u hh S lat (nI (rc (us u) 0 12)) (nI (rc (dy u) 0 12)) 0 FU 1 0 = _ from e2]
    exact hold3 h (by omega) hC t hh S 64 0 FU 0 rfl (by decide) (Nat.zero_add _)
  · obtain ⟨c, c1, c2, c3, c4⟩ := hC
    obtain ⟨L, c0, l1, l2, l3, l4, l5, l6⟩ := h.2.1
    have b0 := (c1 0 (by decide)).2
    have b5 := (c1 5 (by decide)).2
    have b7 := (c1 7 (by decide)).2
    have b8 := (c1 8 (by decide)).2
    refine ⟨?_, ?_, ?_, ?_⟩
    · rw [l5]; exact nn0 (by omega)
    · rw [l5]; exact nI_nlt (b := 100) (by omega) (by decide)
    · rw [(c1 0 (by decide)).1, (c1 5 (by decide)).1]; exact nI_nlt c2 (by omega)
    · rw [(c1 8 (by decide)).1, (c1 7 (by decide)).1]
      unfold FRv
      by_cases z : c 7 = 0
      · rw [if_pos ((nI0 (by omega)).mpr z)]
        refine ⟨by decide +kernel, ?_, ?_⟩
        · decide +kernel
        · decide +kernel
      · rw [if_neg (fun q => z ((nI0 (by omega)).mp q))]
        exact quo_ok (a := c 8) (b := c 7) (by omega) (by omega) (by omega) c3
end TLD
