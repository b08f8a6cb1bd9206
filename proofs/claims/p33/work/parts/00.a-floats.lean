/-! THE ONE QUOTIENT THAT THE LAW LOOKS AT: at most three times as many blocks as stripes. (First of all: it needs the whole library.) -/
theorem nan32_core {x : UInt32} (h : isNaN32 x = true) : FP.Core.val32 x = .nan := by
  refine (FP.Core.fIsNaN_iff x).mp ?_
  rw [FP.Core.isNaN_bits32]
  have h := isNaN32_iff.mp h
  rw [show (0x7fffffff : Nat) = 2 ^ 31 - 1 from rfl, Nat.and_two_pow_sub_one_eq_mod] at h
  exact h
theorem val32_three : FP.Core.val32 1077936128 = .fin false 12582912 (-22) := by decide +kernel
theorem zmag_three : FP.Core.zmag FP.Core.b32 (.fin false 12582912 (-22)) = 3 * 2 ^ 149 := by decide +kernel
theorem qmin_32 : FP.Core.b32.qmin = -149 := by decide +kernel
theorem cmp_ge {x y : Int} (h : y ≤ x) : ¬ Op.cmpValue (some (compare x y)) CmpOp.l < 0 := by
  have : compare x y = .eq ∨ compare x y = .gt := by
    simp only [compare, compareOfLessAndEq]
    by_cases h1 : x < y
    · omega
    · rw [if_neg h1]
      by_cases h2 : x = y
      · rw [if_pos h2]; exact Or.inl rfl
      · rw [if_neg h2]; exact Or.inr rfl
  rcases this with e | e <;> rw [e] <;> decide
theorem cmp_le {x y : Int} (h : x ≤ y) : ¬ 0 < Op.cmpValue (some (compare x y)) CmpOp.g := by
  have : compare x y = .eq ∨ compare x y = .lt := by
    simp only [compare, compareOfLessAndEq]
    by_cases h1 : x < y
    · rw [if_pos h1]; exact Or.inr rfl
    · rw [if_neg h1, if_pos (by omega)]; exact Or.inl rfl
  rcases this with e | e <;> rw [e] <;> decide
/-- a whole number's datum -/
theorem whole_fin {i : Int} {d : FP.Core.Datum} (h : FP.Core.Whole i d) : ∃ s c q, d = .fin s c q := by
  cases d with
  | nan => exact h.elim
  | inf s => exact h.elim
  | fin s c q => exact ⟨s, c, q, rfl⟩
theorem quo_val {a b : Nat} (ha : a ≤ 2 ^ 22) (hb0 : 0 < b) (hb : b ≤ 2 ^ 20) : ∃ (s : Bool) (c d : Nat) (q r : Int), FP.Core.val32 (FP.fdiv (FP.i2f (Int32.ofNat a)) (FP.i2f (Int32.ofNat b))) = FP.Core.roundRatio FP.Core.b32 s c d (q - r) ∧ 0 < d ∧ c * 2 ^ q.toNat = a * 2 ^ (-q).toNat ∧ d * 2 ^ r.toNat = b * 2 ^ (-r).toNat ∧ (s = true → c = 0) := by
  have ia : (Int32.ofNat a).toInt = (a : Int) := Int32.toInt_ofNat_of_lt (by omega)
  have ib : (Int32.ofNat b).toInt = (b : Int) := Int32.toInt_ofNat_of_lt (by omega)
  have wa : FP.Core.Whole (a : Int) (FP.Core.val32 (FP.Core.i2f (Int32.ofNat a))) := by
    have := FP.Core.i2f_int (a := Int32.ofNat a) (by rw [ia]; omega)
    rw [ia] at this; exact this
  have wb : FP.Core.Whole (b : Int) (FP.Core.val32 (FP.Core.i2f (Int32.ofNat b))) := by
    have := FP.Core.i2f_int (a := Int32.ofNat b) (by rw [ib]; omega)
    rw [ib] at this; exact this
  obtain ⟨s, c, q, ea⟩ := whole_fin wa
  obtain ⟨t, d, r, eb⟩ := whole_fin wb
  rw [ea] at wa
  rw [eb] at wb
  have na := FP.Core.whole_natAbs wa
  have nb := FP.Core.whole_natAbs wb
  have hd : ¬ d = 0 := fun e => by have := (FP.Core.whole_zero wb).mp e; omega
  have ht : t = false := by
    rw [FP.Core.whole_sign wb (by omega)]
    exact decide_eq_false (by omega)
  have hs : s = true → c = 0 := fun e => by
    refine (FP.Core.whole_zero wa).mpr ?_
    refine Classical.byContradiction fun hn => ?_
    have := FP.Core.whole_sign wa hn
    rw [e] at this
    have := of_decide_eq_true this.symm
    omega
  refine ⟨s != t, c, d, q, r, ?_, by omega, by simpa using na, by simpa using nb, fun e => hs ?_⟩
  · show FP.Core.val32 (FP.Core.fdiv _ _) = _
    rw [FP.Core.val32_fdiv, ea, eb]
    show (if d = 0 then _ else _) = _
    rw [if_neg hd]
  · subst ht
    revert e
    cases s <;> decide
theorem quo_ok {a b : Nat} (ha : a ≤ 2 ^ 22) (hb0 : 0 < b) (hb : b ≤ 2 ^ 20) (hab : a ≤ 3 * b) : isNaN32 (FP.fdiv (FP.i2f (Int32.ofNat a)) (FP.i2f (Int32.ofNat b))) = false ∧ ¬ Op.cmpValue (FP.fcmp (FP.fdiv (FP.i2f (Int32.ofNat a)) (FP.i2f (Int32.ofNat b))) FP.fconst0) CmpOp.l < 0 ∧ ¬ 0 < Op.cmpValue (FP.fcmp (FP.fdiv (FP.i2f (Int32.ofNat a)) (FP.i2f (Int32.ofNat b))) 1077936128) CmpOp.g := by
  obtain ⟨s, c, d, q, r, e, hd, h1, h2, hs⟩ := quo_val ha hb0 hb
  generalize FP.fdiv (FP.i2f (Int32.ofNat a)) (FP.i2f (Int32.ofNat b)) = z at *
  have hn : FP.Core.val32 z ≠ .nan := by rw [e]; exact FP.Core.roundRatio_ne_nan _ _ _ _ _
  have hz : FP.Core.zval FP.Core.b32 (FP.Core.val32 z) = FP.Core.signed s (FP.Core.zmag FP.Core.b32 (FP.Core.roundRatio FP.Core.b32 s c d (q - r))) := by
    unfold FP.Core.zval
    rw [e, FP.Core.sgn_roundRatio]
  have key : FP.Core.zmag FP.Core.b32 (FP.Core.roundRatio FP.Core.b32 s c d (q - r)) ≤ 3 * 2 ^ 149 := by
    have fV : FP.Core.fits FP.Core.b32 (.fin false 12582912 (-22)) := by rw [← val32_three]; exact FP.Core.val32_fits _
    have := FP.Core.zmag_roundRatio_le FP.Core.good_b32 (s := s) (A := c) (B := d) (e := q - r) (e0 := -(149 + (r.toNat : Int) + ((-q).toNat : Int))) (V := .fin false 12582912 (-22)) hd fV (fun h => nomatch h) (by rw [qmin_32]; omega) (by omega) (by
      rw [zmag_three, qmin_32]
      unfold FP.Core.inUnits
      rw [show (q - r - -(149 + (r.toNat : Int) + ((-q).toNat : Int))).toNat = q.toNat + ((-r).toNat + 149) by omega, show (-149 - -(149 + (r.toNat : Int) + ((-q).toNat : Int))).toNat = r.toNat + (-q).toNat by omega]
      rw [Nat.pow_add, ← Nat.mul_assoc, h1, Nat.pow_add 2 (-r).toNat, Nat.pow_add 2 r.toNat]
      have g : a * (2 ^ (-q).toNat * 2 ^ (-r).toNat * 2 ^ 149) ≤ 3 * b * (2 ^ (-q).toNat * 2 ^ (-r).toNat * 2 ^ 149) := Nat.mul_le_mul_right _ hab
      calc a * 2 ^ (-q).toNat * (2 ^ (-r).toNat * 2 ^ 149) = a * (2 ^ (-q).toNat * 2 ^ (-r).toNat * 2 ^ 149) := by ac_rfl
        _ ≤ 3 * b * (2 ^ (-q).toNat * 2 ^ (-r).toNat * 2 ^ 149) := g
        _ = 3 * 2 ^ 149 * 2 ^ (-q).toNat * (b * 2 ^ (-r).toNat) := by ac_rfl
        _ = 3 * 2 ^ 149 * (2 ^ r.toNat * 2 ^ (-q).toNat) * d := by rw [← h2]; ac_rfl)
    rw [zmag_three] at this
    exact this
  refine ⟨?_, ?_, ?_⟩
  · cases h : isNaN32 z
    · rfl
    · exact absurd (nan32_core h) hn
  · show ¬ Op.cmpValue (FP.Core.order (FP.Core.val32 z) (FP.Core.val32 FP.Core.fconst0)) CmpOp.l < 0
    rw [FP.Core.order_zval FP.Core.good_b32 (FP.Core.val32_fits _) (FP.Core.val32_fits _) hn (by rw [FP.Core.val32_fconst0]; exact fun h => nomatch h)]
    refine cmp_ge ?_
    rw [FP.Core.val32_fconst0, hz]
    have z0 : FP.Core.zval FP.Core.b32 (.fin false 0 FP.Core.b32.qmin) = 0 := by decide +kernel
    rw [z0]
    cases s with
    | false => exact Int.natCast_nonneg _
    | true =>
      have c0 := hs rfl
      subst c0
      rw [show FP.Core.roundRatio FP.Core.b32 true 0 d (q - r) = .fin true 0 FP.Core.b32.qmin from by unfold FP.Core.roundRatio; rw [if_pos rfl]]
      decide +kernel
  · show ¬ 0 < Op.cmpValue (FP.Core.order (FP.Core.val32 z) (FP.Core.val32 1077936128)) CmpOp.g
    rw [FP.Core.order_zval FP.Core.good_b32 (FP.Core.val32_fits _) (FP.Core.val32_fits _) hn (by rw [val32_three]; exact fun h => nomatch h)]
    refine cmp_le ?_
    rw [hz, val32_three]
    have z3 : FP.Core.zval FP.Core.b32 (.fin false 12582912 (-22)) = ((3 * 2 ^ 149 : Nat) : Int) := by
      unfold FP.Core.zval
      rw [zmag_three]
      rfl
    rw [z3]
    cases s with
    | false => exact Int.ofNat_le.mpr key
    | true =>
      show -((_ : Nat) : Int) ≤ _
      generalize FP.Core.zmag FP.Core.b32 _ = w at *
      omega
