section TLD1
variable {N : Nat} {lat : Nat → Int32} {u : Mem}
/-- the value of a found block is the latest one -/
theorem val_line (h : Core N lat u) (hin : u 0 3 = 1) {b k : Nat} (hb : b < 64) (hk : k < 12) (e : u 1 k = nI b) : u 2 k = lat b := ((LB.of (h.2.2.2.2.1 k hk) hb e).up hin).2
theorem val_disk (h : Core N lat u) {b : Nat} (hb : b < 64) (hf : fnd u b = true) (hn : u 0 3 = 1 → ∀ k, k < 12 → ¬ u 1 k = nI b) : u 7 b = lat b := by
  rcases fnd_of hf with q | ⟨q1, k, q2, q3⟩
  · exact (h.2.2.2.1 b hb).2.2 q
  · exact absurd q3 (hn q1 k q2)
theorem dyn (u : Mem) (i : Nat) : nI ((dy u i).toNat) = if u 5 i = 0 then 0 else 1 := by
  unfold dy
  by_cases z : u 5 i = 0
  · rw [decide_eq_false (not_not_intro z), if_pos z]; rfl
  · rw [decide_eq_true z, if_neg z]; rfl
/-- the law's look at the lines -/
theorem hold1 (h : Core N lat u) (x4 : Int32) (t hh : Mem) (S : Nat → Mem) : ∀ (d i n a c : Nat), i + d = 12 → d < n → pL_holds_65 t u hh S lat x4 n (nI a) (nI c) 1 (nI i) = pL_holds_247 t u hh S lat (nI (a + rc (us u) i d)) (nI (c + rc (dy u) i d)) x4 FU 1 0 := by
  intro d
  induction d with
  | zero =>
    intro i n a c hi hn
    obtain ⟨p, rfl⟩ : ∃ p, n = p + 1 := ⟨n - 1, by omega⟩
    obtain rfl : i = 12 := by omega
    show pL_holds_65b t u hh S lat x4 _ (nI a) (nI c) 1 (nI 12) = _
    unfold pL_holds_65b
    rw [if_pos at12]; rfl
  | succ d ih =>
    intro i n a c hi hn
    obtain ⟨p, rfl⟩ : ∃ p, n = p + 1 := ⟨n - 1, by omega⟩
    have hi2 : i < 12 := by omega
    have ea : rc (us u) i (d + 1) = (us u i).toNat + rc (us u) (i + 1) d := rfl
    have ec : rc (dy u) i (d + 1) = (dy u i).toNat + rc (dy u) (i + 1) d := rfl
    show pL_holds_65b t u hh S lat x4 (pL_holds_65 t u hh S lat x4 p) (nI a) (nI c) 1 (nI i) = _
    unfold pL_holds_65b
    rw [if_neg (ge12 hi2), q_ln0 t hh S hi2, ob_some]
    rcases h.2.2.2.2.1 i hi2 with ⟨a1, a2⟩ | ⟨b, B⟩
    · rw [if_pos a1]
      unfold pL_holds_238
      rw [nI_1, ih (i + 1) p a c (by omega) (by omega), ea, ec, show us u i = false from decide_eq_false (not_not_intro a1), show dy u i = false from decide_eq_false (not_not_intro a2)]
      simp
    · have hne := B.ne
      have l4 := q_ln (u := u) t hh S hi2 (p := 4) (by decide)
      have l3 := q_ln (u := u) t hh S hi2 (p := 3) (by decide)
      have l2 := q_ln (u := u) t hh S hi2 (p := 2) (by decide)
      have l1 := q_ln (u := u) t hh S hi2 (p := 1) (by decide)
      rw [LN_at hne, if_neg (by decide), if_neg (by decide), if_neg (by decide), if_neg (by decide), ← dyn] at l4
      rw [LN_at hne, if_neg (by decide), if_neg (by decide), if_neg (by decide), if_pos rfl] at l3
      rw [LN_at hne, if_neg (by decide), if_neg (by decide), if_pos rfl] at l2
      rw [LN_at hne, if_neg (by decide), if_pos rfl] at l1
      have l4 : pX4_line t u hh S (nI i / 3) (nI i - nI i / 3 * 3) 4 = some (nI (dy u i).toNat) := l4
      have l3 : pX4_line t u hh S (nI i / 3) (nI i - nI i / 3 * 3) 3 = some (u 4 i) := l3
      have l2 : pX4_line t u hh S (nI i / 3) (nI i - nI i / 3 * 3) 2 = some (u 3 i) := l2
      have l1 : pX4_line t u hh S (nI i / 3) (nI i - nI i / 3 * 3) 1 = some (u 2 i) := l1
      have hb : b < 64 := B.1
      have fin : pL_holds_236 t u hh S lat x4 (pL_holds_65 t u hh S lat x4 p) (nI a + 1) (nI c + nI (dy u i).toNat) (nI i) 1 = pL_holds_247 t u hh S lat (nI (a + rc (us u) i (d + 1))) (nI (c + rc (dy u) i (d + 1))) x4 FU 1 0 := by
        unfold pL_holds_236 pL_holds_238
        rw [nI_1, nI_1, nI_add, ih (i + 1) p _ _ (by omega) (by omega), ea, ec, show us u i = true from decide_eq_true hne]
        rw [show a + (Bool.toNat true + rc (us u) (i + 1) d) = a + 1 + rc (us u) (i + 1) d by simp; omega, show c + ((dy u i).toNat + rc (dy u) (i + 1) d) = c + (dy u i).toNat + rc (dy u) (i + 1) d from (Nat.add_assoc _ _ _).symm]
      have f178 : pL_holds_178 t u hh S lat x4 (pL_holds_65 t u hh S lat x4 p) (nI a + 1) (nI c + nI (dy u i).toNat) (nI i) (u 1 i) 1 = pL_holds_247 t u hh S lat (nI (a + rc (us u) i (d + 1))) (nI (c + rc (dy u) i (d + 1))) x4 FU 1 0 := by
        unfold pL_holds_178 pL_holds_231
        rw [if_neg one0, q_isIn h.1, ob_some]
        rcases h.1.1 with e | e
        · rw [e, if_pos rfl]; exact fin
        · rw [e, if_neg one0, l4, ob_some]
          by_cases z : u 5 i = 0
          · rw [if_neg (show ¬ nI (dy u i).toNat = 1 by rw [dyn, if_pos z]; decide), B.2.1, q_onDisk t hh S hb, ob_some, l1, ob_some]
            rw [if_pos (((h.2.2.2.1 b hb).2.2 (B.2.2.2.2.2.2.2 z)).trans (B.up e).2.symm)]
            exact fin
          · rw [if_pos (show nI (dy u i).toNat = 1 by rw [dyn, if_neg z])]; exact fin
      rw [if_neg hne, l4, ob_some, if_neg one0]
      rw [show (u 1 i / 4) - (u 1 i / 4) / 4 * 4 = nI i / 3 by rw [B.2.1, div4 (by omega), set4 (by omega), div3 (by omega), B.2.2.1]]
      rw [if_pos rfl, lo_at h.2.2.2.2.2 t hh S hi2 hne, ob_some, if_pos rfl, l2, ob_some, if_neg (Int32.not_le.mpr B.2.2.2.2.1), l3, ob_some, if_neg (Int32.not_le.mpr B.2.2.2.2.2.1)]
      exact f178
theorem hold2 (h : Core N lat u) (x2 x3 x4 : Int32) (t hh : Mem) (S : Nat → Mem) : ∀ (d i n : Nat), i + d = 16 → d < n → pL_holds_247 t u hh S lat x2 x3 x4 n 1 (nI i) = pL_holds_294 t u hh S lat x2 x3 FU x4 1 0 := by
  intro d
  induction d with
  | zero =>
    intro i n hi hn
    obtain ⟨p, rfl⟩ : ∃ p, n = p + 1 := ⟨n - 1, by omega⟩
    obtain rfl : i = 16 := by omega
    show pL_holds_247b t u hh S lat x2 x3 x4 _ 1 (nI 16) = _
    unfold pL_holds_247b
    rw [if_pos at16]
  | succ d ih =>
    intro i n hi hn
    obtain ⟨p, rfl⟩ : ∃ p, n = p + 1 := ⟨n - 1, by omega⟩
    have hi2 : i < 16 := by omega
    have hD := Dn_3 hi2 h.2.2.2.2.1
    show pL_holds_247b t u hh S lat x2 x3 x4 (pL_holds_247 t u hh S lat x2 x3 x4 p) 1 (nI i) = _
    unfold pL_holds_247b pL_holds_283
    rw [if_neg (ge16 hi2), if_neg one0, q_dirtyOf t hh S hi2, ob_some, if_neg (nn0 (by omega)), ob_some, if_neg (show ¬ (3 : Int32) < nI (Dn u (nI i)) from nI_nlt (a := 3) (by omega) (by decide)), nI_1]
    exact ih (i + 1) p (by omega) (by omega)
end TLD1
