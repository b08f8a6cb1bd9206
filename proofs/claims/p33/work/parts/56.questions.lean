/-! THE QUESTIONS, AND THE SAVED STATES. -/
theorem q_isOn {u : Mem} (h : Bits u) (t hh : Mem) (S : Nat → Mem) : pX4_isOn t u hh S = some (u 6 1) := by
  unfold pX4_isOn
  rw [if_pos (z01 h.2)]
theorem q_isIn {u : Mem} (h : Bits u) (t hh : Mem) (S : Nat → Mem) : pX4_isIn t u hh S = some (u 0 3) := by
  unfold pX4_isIn
  rw [if_pos (z01 h.1)]
theorem q_count {u : Mem} (t hh : Mem) (S : Nat → Mem) {i : Nat} (hi : i < 8) : pX4_count t u hh S (nI i) = some (u 10 i) := by
  unfold pX4_count
  rw [if_neg (nI_pos (by omega)), if_pos (show nI i ≤ 7 from nI_le (b := 7) (by omega) (by decide)), ld_n (by omega) (by decide)]
  rfl
theorem req_b {b : Nat} (hb : b < 64) : pX4_requireBlock (nI b) = some () := by
  unfold pX4_requireBlock
  rw [isB_n hb, ob_some, if_neg one0]
theorem req_s {q : Nat} (hq : q < 16) : pX4_requireStripe (nI q) = some () := by
  unfold pX4_requireStripe
  rw [if_neg (nI_pos (by omega)), if_pos (show nI q < 16 from nI_lt (b := 16) hq (by decide))]
theorem q_dirtyOf {u : Mem} (t hh : Mem) (S : Nat → Mem) {q : Nat} (hq : q < 16) : pX4_dirtyOf t u hh S (nI q) = some (nI (Dn u (nI q))) := by
  unfold pX4_dirtyOf
  rw [req_s hq, ob_some, dirtyLinesOf_e]; rfl
theorem q_dirty {u : Mem} (t hh : Mem) (S : Nat → Mem) : pX4_dirty t u hh S = some (nI (Dt u)) := by
  unfold pX4_dirty
  rw [dirtyLines_e]; rfl
theorem q_used {u : Mem} (t hh : Mem) (S : Nat → Mem) : pX4_used t u hh S = some (nI (Us u)) := by
  unfold pX4_used
  rw [usedLines_e]; rfl
theorem q_onDisk {u : Mem} (t hh : Mem) (S : Nat → Mem) {b : Nat} (hb : b < 64) : pX4_onDisk t u hh S (nI b) = some (u 7 b) := by
  unfold pX4_onDisk pX1_diskValueOf pX1_diskValueOf_17
  rw [req_b hb, ob_some, isB_n hb, ob_some, if_neg one0, ld_n hb (by decide)]; rfl
/-- a line's part -/
def LN (u : Mem) (k p : Nat) : Int32 := if u 1 k = -1 then -1 else if p = 0 then u 1 k else if p = 1 then u 2 k else if p = 2 then u 3 k else if p = 3 then u 4 k else if u 5 k = 0 then 0 else 1
theorem q_part {u : Mem} {k p : Nat} (hk : k < 12) (hp : p < 5) : pX2_partOf u (nI k) (nI p) = some (LN u k p) := by
  unfold pX2_partOf pX2_partOf_17 pX2_partOf_98 LN
  rw [isL_n hk, ob_some, if_neg one0]
  simp only [ld_n hk (by decide : (12 : Nat) < 2 ^ 31), ob_some]
  by_cases c : u 1 k = -1
  · rw [if_pos c, if_pos c]
  · rw [if_neg c, if_neg c]
    rcases (show p = 0 ∨ p = 1 ∨ p = 2 ∨ p = 3 ∨ p = 4 by omega) with rfl | rfl | rfl | rfl | rfl
    · rw [if_pos (by decide), if_pos rfl]
    · rw [if_neg (by decide), if_pos (by decide), if_neg (by decide), if_pos rfl]
    · rw [if_neg (by decide), if_neg (by decide), if_pos (by decide), if_neg (by decide), if_neg (by decide), if_pos rfl]
    · rw [if_neg (by decide), if_neg (by decide), if_neg (by decide), if_pos (by decide), if_neg (by decide), if_neg (by decide), if_neg (by decide), if_pos rfl]
    · rw [if_neg (by decide), if_neg (by decide), if_neg (by decide), if_neg (by decide), if_pos (by decide)]
      by_cases z : u 5 k = 0
      · rw [if_pos z, if_neg (by decide), if_neg (by decide), if_neg (by decide), if_neg (by decide), if_pos z]
      · rw [if_neg z, if_neg (by decide), if_neg (by decide), if_neg (by decide), if_neg (by decide), if_neg z]
theorem q_line {u : Mem} (t hh : Mem) (S : Nat → Mem) {a c p : Nat} (ha : a < 4) (hc : c < 3) (hp : p < 5) : pX4_line t u hh S (nI a) (nI c) (nI p) = some (LN u (3 * a + c) p) := by
  unfold pX4_line
  rw [if_neg (nI_pos (by omega)), if_neg (show ¬ (4 : Int32) ≤ nI a from nI_ge (b := 4) ha (by decide)), if_neg (nI_pos (by omega)), if_pos (show nI c < 3 from nI_lt (b := 3) hc (by decide)), if_neg (nI_pos (by omega)), if_pos (show nI p ≤ 4 from nI_le (b := 4) (by omega) (by decide))]
  rw [show nI a * 3 + nI c = nI (3 * a + c) by rw [Int32.mul_comm, show (3 : Int32) = nI 3 from rfl, pk_mul, nI_add], q_part (by omega) hp]
  rfl
theorem div3 {k : Nat} (h : k < 2 ^ 31) : nI k / 3 = nI (k / 3) := pk_div (d := 3) h (by decide) (by decide)
theorem rem3 {k : Nat} (h : k < 2 ^ 31) : nI k - nI k / 3 * 3 = nI (k % 3) := pk_rem (d := 3) h (by decide) (by decide)
/-- the law's way to ask for a line -/
theorem q_ln {u : Mem} (t hh : Mem) (S : Nat → Mem) {k p : Nat} (hk : k < 12) (hp : p < 5) : pX4_line t u hh S (nI k / 3) (nI k - nI k / 3 * 3) (nI p) = some (LN u k p) := by
  rw [rem3 (by omega), div3 (by omega), q_line t hh S (by omega) (by omega) hp, show 3 * (k / 3) + k % 3 = k by omega]
theorem q_ln0 {u : Mem} (t hh : Mem) (S : Nat → Mem) {k : Nat} (hk : k < 12) : pX4_line t u hh S (nI k / 3) (nI k - nI k / 3 * 3) 0 = some (u 1 k) := by
  have := q_ln (u := u) t hh S hk (p := 0) (by decide)
  rw [show nI 0 = 0 from nI_0] at this
  rw [this]
  unfold LN
  by_cases c : u 1 k = -1
  · rw [if_pos c, c]
  · rw [if_neg c, if_pos rfl]
theorem LN_at {u : Mem} {k p : Nat} (h : ¬ u 1 k = -1) : LN u k p = if p = 0 then u 1 k else if p = 1 then u 2 k else if p = 2 then u 3 k else if p = 3 then u 4 k else if u 5 k = 0 then 0 else 1 := by
  unfold LN
  rw [if_neg h]
/-- the law's lineOf -/
theorem lo_p {u : Mem} (t hh : Mem) (S : Nat → Mem) (x : Int32) : ∀ (d i n : Nat) (r : Int32), i + d = 12 → d < n → ((r = -1 ∧ ∀ k, k < i → ¬ u 1 k = x) ∨ ∃ k, k < i ∧ r = nI k ∧ u 1 k = x) → ∃ r' : Int32, pL_lineOf_4 t u hh S x n r (nI i) = some r' ∧ At u x r' := by
  intro d
  induction d with
  | zero =>
    intro i n r hi hn hr
    obtain ⟨q, rfl⟩ : ∃ q, n = q + 1 := ⟨n - 1, by omega⟩
    obtain rfl : i = 12 := by omega
    refine ⟨r, ?_, hr⟩
    show pL_lineOf_4b t u hh S x _ r (nI 12) = _
    unfold pL_lineOf_4b
    rw [if_pos at12]
  | succ d ih =>
    intro i n r hi hn hr
    obtain ⟨q, rfl⟩ : ∃ q, n = q + 1 := ⟨n - 1, by omega⟩
    have hi2 : i < 12 := by omega
    show ∃ r' : Int32, pL_lineOf_4b t u hh S x (pL_lineOf_4 t u hh S x q) r (nI i) = some r' ∧ _
    unfold pL_lineOf_4b pL_lineOf_30
    rw [if_neg (ge12 hi2), q_ln0 t hh S hi2, ob_some, nI_1]
    by_cases c : u 1 i = x
    · rw [if_pos c]
      exact ih (i + 1) q (nI i) (by omega) (by omega) (Or.inr ⟨i, by omega, rfl, c⟩)
    · rw [if_neg c]
      refine ih (i + 1) q r (by omega) (by omega) ?_
      rcases hr with ⟨h1, h2⟩ | ⟨k, h1, h2, h3⟩
      · refine Or.inl ⟨h1, fun k hk => ?_⟩
        by_cases e : k = i
        · subst e; exact c
        · exact h2 k (by omega)
      · exact Or.inr ⟨k, by omega, h2, h3⟩
theorem lo_r {u : Mem} (t hh : Mem) (S : Nat → Mem) (x : Int32) : ∃ r : Int32, pL_lineOf t u hh S x = some r ∧ At u x r := by
  obtain ⟨r, h1, h2⟩ := lo_p (u := u) t hh S x 12 0 FU (-1) rfl (by decide) (Or.inl ⟨rfl, fun k hk => by omega⟩)
  exact ⟨r, h1, h2⟩
/-- the line of a block that a line holds -/
theorem lo_at {u : Mem} (hU : Uq u) (t hh : Mem) (S : Nat → Mem) {k : Nat} (hk : k < 12) (hn : ¬ u 1 k = -1) : pL_lineOf t u hh S (u 1 k) = some (nI k) := by
  obtain ⟨r, h1, h2⟩ := lo_r (u := u) t hh S (u 1 k)
  rcases h2 with ⟨-, h2⟩ | ⟨j, hj, rfl, h3⟩
  · exact absurd rfl (h2 k hk)
  · rw [h1, hU k j hk hj hn h3.symm]
/-- found: on the disks, or in a line while the stick is in -/
noncomputable def fnd (u : Mem) (b : Nat) : Bool := @decide (u 8 b = u 9 b ∨ (u 0 3 = 1 ∧ ∃ k, k < 12 ∧ u 1 k = nI b)) (Classical.propDecidable _)
theorem fnd_t {u : Mem} {b : Nat} (h : u 8 b = u 9 b ∨ (u 0 3 = 1 ∧ ∃ k, k < 12 ∧ u 1 k = nI b)) : fnd u b = true := @decide_eq_true _ (Classical.propDecidable _) h
theorem fnd_f {u : Mem} {b : Nat} (h : ¬ (u 8 b = u 9 b ∨ (u 0 3 = 1 ∧ ∃ k, k < 12 ∧ u 1 k = nI b))) : fnd u b = false := @decide_eq_false _ (Classical.propDecidable _) h
theorem fnd_of {u : Mem} {b : Nat} (h : fnd u b = true) : u 8 b = u 9 b ∨ (u 0 3 = 1 ∧ ∃ k, k < 12 ∧ u 1 k = nI b) := @of_decide_eq_true _ (Classical.propDecidable _) h
theorem fnd_no {u : Mem} {b : Nat} (h : fnd u b = false) : ¬ (u 8 b = u 9 b ∨ (u 0 3 = 1 ∧ ∃ k, k < 12 ∧ u 1 k = nI b)) := @of_decide_eq_false _ (Classical.propDecidable _) h
theorem fd_r {N : Nat} {lat : Nat → Int32} {u : Mem} (h : Core N lat u) {b : Nat} (hb : b < 64) : pX1_finds u (nI b) = some (b2 (fnd u b)) := by
  obtain ⟨r, hr, hA⟩ := lineOf_r u (nI b)
  unfold pX1_finds pX1_finds_64 pX1_finds_65
  rw [isB_n hb, ob_some, if_neg one0]
  simp only [ld_n hb (by decide : (64 : Nat) < 2 ^ 31), ob_some]
  by_cases c : u 8 b = u 9 b
  · rw [if_pos c, fnd_t (u := u) (b := b) (Or.inl c)]; rfl
  · rw [if_neg c]
    unfold pX2_lineInReach pX2_lineInReach_16
    rcases h.1.1 with e | e
    · rw [e, if_pos rfl, ob_some, isL_m1, ob_some, if_pos rfl, fnd_f (u := u) (b := b) (fun q => q.elim c (fun w => absurd (e.symm.trans w.1) (by decide)))]
      rfl
    · rw [if_neg (by rw [e]; decide), hr, ob_some, ob_some]
      rcases hA with ⟨rfl, hA⟩ | ⟨k, hk, rfl, hk1⟩
      · rw [isL_m1, ob_some, if_pos rfl, fnd_f (u := u) (b := b) (fun q => q.elim c (fun ⟨_, k, w1, w2⟩ => hA k w1 w2))]
        rfl
      · rw [isL_n hk, ob_some, if_neg one0, ld_n hk (by decide), ob_some]
        have B := LB.of (h.2.2.2.2.1 k hk) hb hk1
        rw [if_pos (B.up e).1, fnd_t (u := u) (b := b) (Or.inr ⟨e, k, hk, hk1⟩)]
        rfl
theorem q_isFound {N : Nat} {lat : Nat → Int32} {u : Mem} (h : Core N lat u) (t hh : Mem) (S : Nat → Mem) {b : Nat} (hb : b < 64) : pX4_isFound t u hh S (nI b) = some (b2 (fnd u b)) := by
  unfold pX4_isFound
  rw [req_b hb, ob_some, fd_r h hb, ob_some, if_pos (b2_z _)]
noncomputable def MsW (u : Mem) (k : Nat) : Nat := if h : k = 0 then rc (fun b => !fnd u b) 0 64 else MsW u (k - 1)
noncomputable def Ms (u : Mem) : Nat := MsW u 0
theorem Ms_e (u : Mem) : Ms u = rc (fun b => !fnd u b) 0 64 := by
  unfold Ms
  rw [MsW, dif_pos rfl]
theorem mi_p {N : Nat} {lat : Nat → Int32} {u : Mem} (h : Core N lat u) (t hh : Mem) (S : Nat → Mem) : ∀ (d i n c : Nat), i + d = 64 → d < n → pX4_missing_4 t u hh S n (nI c) (nI i) = some (nI (c + rc (fun b => !fnd u b) i d)) := by
  intro d
  induction d with
  | zero =>
    intro i n c hi hn
    obtain ⟨q, rfl⟩ : ∃ q, n = q + 1 := ⟨n - 1, by omega⟩
    obtain rfl : i = 64 := by omega
    show pX4_missing_4b t u hh S _ (nI c) (nI 64) = _
    unfold pX4_missing_4b
    rw [if_pos at64]; rfl
  | succ d ih =>
    intro i n c hi hn
    obtain ⟨q, rfl⟩ : ∃ q, n = q + 1 := ⟨n - 1, by omega⟩
    have hi2 : i < 64 := by omega
    show pX4_missing_4b t u hh S (pX4_missing_4 t u hh S q) (nI c) (nI i) = some (nI (c + ((!fnd u i).toNat + rc (fun b => !fnd u b) (i + 1) d)))
    unfold pX4_missing_4b pX4_missing_24
    rw [if_neg (ge64 hi2), fd_r h hi2, ob_some, nI_1]
    cases fnd u i
    · rw [if_pos (show b2 false = 0 from rfl), nI_1, ih (i + 1) q _ (by omega) (by omega)]
      simp [Nat.add_assoc]
    · rw [if_neg (show ¬ b2 true = 0 by decide), nI_1, ih (i + 1) q _ (by omega) (by omega)]
      simp
theorem q_missing {N : Nat} {lat : Nat → Int32} {u : Mem} (h : Core N lat u) (t hh : Mem) (S : Nat → Mem) : pX4_missing t u hh S = some (nI (Ms u)) := by
  have := mi_p h t hh S 64 0 FU 0 rfl (by decide)
  rw [Nat.zero_add, ← Ms_e] at this
  exact this
/-- what is missing was lost, or is out -/
theorem Ms_le {N : Nat} {lat : Nat → Int32} {u : Mem} (h : Core N lat u) : Ms u ≤ Mi' u + (if u 0 3 = 1 then 0 else Dt u) := by
  by_cases e : u 0 3 = 1
  · rw [if_pos e, Nat.add_zero, Mi_e, Ms_e]
    refine rc_mono 64 0 (fun b _ hb q => ?_)
    have q : fnd u b = false := by simpa using q
    have q := fnd_no q
    unfold mi
    exact @decide_eq_true _ (Classical.propDecidable _) ⟨fun w => q (Or.inl w), fun k hk w => q (Or.inr ⟨e, k, hk, w.1⟩)⟩
  · rw [if_neg e, Mi_e, Ms_e]
    refine cover (fun b hb q => ?_)
    have q : fnd u b = false := by simpa using q
    have q := fnd_no q
    by_cases c : mi u b = true
    · exact Or.inl c
    · right
      unfold mi at c
      have c := fun w => c (@decide_eq_true _ (Classical.propDecidable _) w)
      have q2 : ∃ k, k < 12 ∧ u 1 k = nI b ∧ u 3 k = u 9 b := Classical.byContradiction fun q3 => c ⟨fun w => q (Or.inl w), fun k hk q4 => q3 ⟨k, hk, q4⟩⟩
      obtain ⟨k, hk, q3, q4⟩ := q2
      have B := LB.of (h.2.2.2.2.1 k hk) hb q3
      exact ⟨k, hk, decide_eq_true fun h5 => q (Or.inl (B.2.2.2.2.2.2.2 h5)), q3⟩
theorem q_ifWritten {u : Mem} (t hh : Mem) (S : Nat → Mem) {b : Nat} (hb : b < 64) (hon : u 6 1 = 1) : pX4_ifWritten t u hh S (nI b) = pX1_operationsIfWritten u (nI b) := by
  unfold pX4_ifWritten pX4_ifWritten_26
  rw [req_b hb, ob_some, hon, if_neg one0]
  cases pX1_operationsIfWritten u (nI b) <;> rfl
theorem q_ifDestaged {N : Nat} {lat : Nat → Int32} {u : Mem} (h : Core N lat u) (t hh : Mem) (S : Nat → Mem) : pX4_ifDestaged t u hh S = some (if u 6 1 = 1 ∧ u 0 3 = 1 then nI (sm (fun q => dcs (Dn u (nI q)) 0) 0 16 + sm (fun q => dcs (Dn u (nI q)) 1) 0 16) else -1) := by
  unfold pX4_ifDestaged pX4_ifDestaged_21
  rw [can_e h.1, ob_some]
  by_cases c : u 6 1 = 1 ∧ u 0 3 = 1
  · rw [decide_eq_true c, if_neg (show ¬ b2 true = 0 by decide), od_r h.2.2.2.2.1, ob_some, if_pos c]
  · rw [decide_eq_false c, if_pos (show b2 false = 0 from rfl), if_neg c]
theorem q_ticks {u : Mem} (h : Bits u) (t hh : Mem) (S : Nat → Mem) : pX4_ticksToLoss t u hh S = some (if u 6 1 = 1 ∧ u 0 3 = 1 then -1 else if Dt u = 0 then -1 else u 0 2) := by
  unfold pX4_ticksToLoss pX4_ticksToLoss_23
  rw [can_e h, ob_some, dirtyLines_e]
  by_cases c : u 6 1 = 1 ∧ u 0 3 = 1
  · rw [decide_eq_true c, if_neg (show ¬ b2 true = 0 by decide), if_pos c]
  · rw [decide_eq_false c, if_pos (show b2 false = 0 from rfl), if_neg c, ob_some]
    have hD := Dt_12 u
    by_cases z : Dt u = 0
    · rw [z, if_pos (show nI 0 = 0 from nI_0), if_pos rfl]
    · rw [if_neg (nI_ne0 (by omega) (by omega)), if_neg z]
/-- two states alike where it counts -/
def Ag (v u : Mem) : Prop := ∀ k i, i < wid k → v k i = u k i
theorem cn_ag {v u : Mem} (h : Ag v u) : cn v = cn u := by
  funext k i
  unfold cn
  by_cases c : i < wid k
  · rw [if_pos c, if_pos c, h k i c]
  · rw [if_neg c, if_neg c]
theorem cn_cn (u : Mem) : cn (cn u) = cn u := by
  funext k i
  unfold cn
  by_cases c : i < wid k
  · rw [if_pos c, if_pos c]
  · rw [if_neg c, if_neg c]
theorem ag_cn (u : Mem) : Ag (cn u) u := fun k i h => cn_at h
/-- the copy of a state -/
theorem copy_r {N : Nat} {lat : Nat → Int32} (w : Mem) {u : Mem} (h : Core N lat u) : ∃ v : Mem, pX1_copyFrom w u = some v ∧ Ag v u := by
  have hz : allz (u 5) 12 = true := allz_of (fun i hi => z01 (h.2.2.2.2.1 i hi).z)
  unfold pX1_copyFrom pX2_copyFrom cpr cpz
  simp only [ob_some, if_pos hz, pf_e, pz_e (z01 h.1.1), pz_e (z01 h.1.2)]
  refine ⟨_, rfl, fun k i hi => ?_⟩
  by_cases k0 : k = 0
  · subst k0
    rcases (show i = 0 ∨ i = 1 ∨ i = 2 ∨ i = 3 by have : i < 4 := hi; omega) with rfl | rfl | rfl | rfl <;> rfl
  by_cases k6 : k = 6
  · subst k6
    rcases (show i = 0 ∨ i = 1 by have : i < 2 := hi; omega) with rfl | rfl <;> rfl
  by_cases k11 : 11 ≤ k
  · unfold wid at hi
    rw [if_neg k0, if_neg k6, if_neg (by omega), if_neg (by omega), if_neg (by omega)] at hi
    omega
  rcases (show k = 1 ∨ k = 2 ∨ k = 3 ∨ k = 4 ∨ k = 5 ∨ k = 7 ∨ k = 8 ∨ k = 9 ∨ k = 10 by omega) with rfl | rfl | rfl | rfl | rfl | rfl | rfl | rfl | rfl
  · exact cpy_at (u 1) _ 12 i hi
  · exact cpy_at (u 2) _ 12 i hi
  · exact cpy_at (u 3) _ 12 i hi
  · exact cpy_at (u 4) _ 12 i hi
  · exact cpy_at (u 5) _ 12 i hi
  · exact cpy_at (u 7) _ 64 i hi
  · exact cpy_at (u 8) _ 64 i hi
  · exact cpy_at (u 9) _ 64 i hi
  · exact cpy_at (u 10) _ 9 i hi
/-- the numbers of the saved states -/
def Hs (hh : Mem) (z x : Nat) : Prop := z ≤ 6 ∧ hh 0 0 = nI z ∧ hh 0 1 = nI x
/-- what a call leaves in the history: the state before it -/
def Sv (u hh : Mem) (S : Nat → Mem) (h' : Mem) (S' : Nat → Mem) : Prop := ∀ z x : Nat, Hs hh z x → x < 2 ^ 30 → Hs h' (min 6 (z + 1)) (x + 1) ∧ Ag (S' (x % 6)) u
theorem save_u {N : Nat} {lat : Nat → Int32} {u hh : Mem} {S : Nat → Mem} {x z : Nat} (h : Core N lat u) (hH : Hs hh z x) (hx : x < 2 ^ 30) : ∃ (h' : Mem) (S' : Nat → Mem), pX0_save u hh S = some (h', S') ∧ Hs h' (min 6 (z + 1)) (x + 1) ∧ Ag (S' (x % 6)) u := by
  obtain ⟨hz, e0, e1⟩ := hH
  obtain ⟨v, hv, hg⟩ := copy_r (S (x % 6)) h
  unfold pX0_save
  rw [e1, fm6 (by omega), ob_some, if_pos (inB_nI (Nat.mod_lt _ (by decide)) (by decide)), nI_clamp (by omega), hv, ob_some]
  simp only [pf_e, ob_some]
  refine ⟨_, upS S (x % 6) v, rfl, ⟨Nat.min_le_left _ _, ?_, ?_⟩, by rw [upS_at, if_pos rfl]; exact hg⟩
  · rw [mset_at, if_pos rfl, if_pos rfl]
    rw [show mset hh 0 1 (nI x + 1) 0 0 = nI z by rw [mset_at, if_pos rfl, if_neg (by decide)]; exact e0, nI_1]
    by_cases c : 6 < z + 1
    · rw [if_pos (show (6 : Int32) < nI (z + 1) from nI_lt (a := 6) c (by omega)), show min 6 (z + 1) = 6 by omega]; rfl
    · rw [if_neg (show ¬ (6 : Int32) < nI (z + 1) from nI_nlt (a := 6) (b := z + 1) (by omega) (by decide)), show min 6 (z + 1) = z + 1 by omega]
  · rw [mset_at, if_pos rfl, if_neg (by decide), mset_at, if_pos rfl, if_pos rfl, nI_1]
/-- the youngest state taken back -/
theorem undo_u {N : Nat} {lat : Nat → Int32} {u u0 hh : Mem} {S : Nat → Mem} {x z : Nat} (t : Mem) (h : Core N lat u0) (hH : Hs hh (z + 1) (x + 1)) (hx : x < 2 ^ 30) (hg : Ag (S (x % 6)) u0) : ∃ (v h' : Mem), pX4_undo t u hh S = some (nI z, (t, v, h', S)) ∧ Ag v u0 ∧ Hs h' z x := by
  obtain ⟨hz, e0, e1⟩ := hH
  have hw : ∃ v, pX1_copyFrom u (S (x % 6)) = some v ∧ Ag v (S (x % 6)) := by
    have hz : allz (S (x % 6) 5) 12 = true := allz_of (fun i hi => by rw [hg 5 i hi]; exact z01 (h.2.2.2.2.1 i hi).z)
    have b1 : isz (S (x % 6) 0 3) = true := by rw [hg 0 3 (by decide)]; exact z01 h.1.1
    have b2' : isz (S (x % 6) 6 1) = true := by rw [hg 6 1 (by decide)]; exact z01 h.1.2
    generalize S (x % 6) = s at hz b1 b2'
    unfold pX1_copyFrom pX2_copyFrom cpr cpz
    simp only [ob_some, if_pos hz, pf_e, pz_e b1, pz_e b2']
    refine ⟨_, rfl, fun k i hi => ?_⟩
    by_cases k0 : k = 0
    · subst k0
      rcases (show i = 0 ∨ i = 1 ∨ i = 2 ∨ i = 3 by have : i < 4 := hi; omega) with rfl | rfl | rfl | rfl <;> rfl
    by_cases k6 : k = 6
    · subst k6
      rcases (show i = 0 ∨ i = 1 by have : i < 2 := hi; omega) with rfl | rfl <;> rfl
    by_cases k11 : 11 ≤ k
    · unfold wid at hi
      rw [if_neg k0, if_neg k6, if_neg (by omega), if_neg (by omega), if_neg (by omega)] at hi
      omega
    rcases (show k = 1 ∨ k = 2 ∨ k = 3 ∨ k = 4 ∨ k = 5 ∨ k = 7 ∨ k = 8 ∨ k = 9 ∨ k = 10 by omega) with rfl | rfl | rfl | rfl | rfl | rfl | rfl | rfl | rfl
    · exact cpy_at (s 1) _ 12 i hi
    · exact cpy_at (s 2) _ 12 i hi
    · exact cpy_at (s 3) _ 12 i hi
    · exact cpy_at (s 4) _ 12 i hi
    · exact cpy_at (s 5) _ 12 i hi
    · exact cpy_at (s 7) _ 64 i hi
    · exact cpy_at (s 8) _ 64 i hi
    · exact cpy_at (s 9) _ 64 i hi
    · exact cpy_at (s 10) _ 9 i hi
  obtain ⟨v, hv, hv2⟩ := hw
  have c1 : nI (x + 1) - 1 = nI x := nI_pred x
  have c2 : nI (z + 1) - 1 = nI z := nI_pred z
  refine ⟨v, mset (mset hh 0 1 (nI x)) 0 0 (nI z), ?_, fun k i hi => (hv2 k i hi).trans (hg k i hi), by omega, ?_, ?_⟩
  · unfold pX4_undo pX0_restore
    rw [if_neg (by rw [e0]; exact nI_ne0 (by omega) (by omega)), pf_e, ob_some, e1, c1, show mset hh 0 1 (nI x) 0 0 = nI (z + 1) by rw [mset_at, if_pos rfl, if_neg (by decide)]; exact e0, c2, if_neg (nI_pos (by omega)), pf_e, ob_some, show mset (mset hh 0 1 (nI x)) 0 0 (nI z) 0 1 = nI x by rw [mset_at, if_pos rfl, if_neg (by decide), mset_at, if_pos rfl, if_pos rfl], fm6 (by omega), ob_some, if_pos (inB_nI (Nat.mod_lt _ (by decide)) (by decide)), nI_clamp (by omega), hv, ob_some]
    rfl
  · rw [mset_at, if_pos rfl, if_pos rfl]
  · rw [mset_at, if_pos rfl, if_neg (by decide), mset_at, if_pos rfl, if_pos rfl]
