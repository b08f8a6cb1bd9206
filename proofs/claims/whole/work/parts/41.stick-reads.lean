/-! READING THE LINES, on both sides. -/
/-- how many of d places from i on -/
def rc (f : Nat → Bool) : Nat → Nat → Nat
  | _, 0 => 0
  | i, d + 1 => (f i).toNat + rc f (i + 1) d
theorem rc_congr {f g : Nat → Bool} : ∀ (d i : Nat), (∀ k, i ≤ k → k < i + d → f k = g k) → rc f i d = rc g i d := by
  intro d
  induction d with
  | zero => intro i h; rfl
  | succ d ih =>
    intro i h
    show (f i).toNat + rc f (i + 1) d = (g i).toNat + rc g (i + 1) d
    rw [h i (Nat.le_refl _) (by omega), ih (i + 1) (fun k h1 h2 => h k (by omega) (by omega))]
theorem rc_le {f : Nat → Bool} : ∀ (d i : Nat), rc f i d ≤ d := by
  intro d
  induction d with
  | zero => intro i; exact Nat.le_refl 0
  | succ d ih =>
    intro i
    show (f i).toNat + rc f (i + 1) d ≤ d + 1
    have h1 := ih (i + 1)
    have h2 := Bool.toNat_le (f i)
    omega
theorem rc_0 {f : Nat → Bool} : ∀ (d i : Nat), (∀ k, i ≤ k → k < i + d → f k = false) → rc f i d = 0 := by
  intro d
  induction d with
  | zero => intro i h; rfl
  | succ d ih =>
    intro i h
    show (f i).toNat + rc f (i + 1) d = 0
    rw [h i (Nat.le_refl _) (by omega), ih (i + 1) (fun k h1 h2 => h k (by omega) (by omega))]
    rfl
theorem rc_pos {f : Nat → Bool} {k : Nat} (hk : f k = true) : ∀ (d i : Nat), i ≤ k → k < i + d → 0 < rc f i d := by
  intro d
  induction d with
  | zero => intro i h1 h2; omega
  | succ d ih =>
    intro i h1 h2
    show 0 < (f i).toNat + rc f (i + 1) d
    by_cases e : i = k
    · subst e; rw [hk]; show 0 < 1 + _; omega
    · have := ih (i + 1) (by omega) (by omega); omega
theorem isB_n {b : Nat} (h : b < 64) : pX4_isBlock (nI b) = some 1 := by
  unfold pX4_isBlock
  rw [if_neg (nI_pos (by omega)), if_neg (ge64 h)]
  rfl
theorem isL_n {k : Nat} (h : k < 12) : pX4_isLine (nI k) = some 1 := by
  unfold pX4_isLine
  rw [if_neg (nI_pos (by omega)), if_neg (ge12 h)]
  rfl
theorem isL_m1 : pX4_isLine (-1) = some 0 := by decide
theorem isB_m1 : pX4_isBlock (-1) = some 0 := by decide
/-- the block's own stripe and set -/
theorem div4 {b : Nat} (h : b < 2 ^ 31) : nI b / 4 = nI (b / 4) := pk_div (d := 4) h (by decide) (by decide)
theorem set4 {b : Nat} (h : b < 2 ^ 31) : nI b - nI b / 4 * 4 = nI (b % 4) := pk_rem (d := 4) h (by decide) (by decide)
/-- a dirty line of a stripe -/
def dz (u : Mem) (x : Int32) (k : Nat) : Bool := decide (¬ u 5 k = 0) && decide (u 1 k / 4 = x)
def Dn (u : Mem) (x : Int32) : Nat := rc (dz u x) 0 12
theorem lineOf_p {s : Nat → Int32} {u m : Mem} (h : Rel s u) (x : Int32) : ∀ (d i n : Nat), i + d = 12 → d < n → ∃ r : Int32, pX2_lineOf_2 u x n (nI i) = some r ∧ pX5_lineOf_2 (mp m s) x n (nI i) = some r ∧ ((r = -1 ∧ ∀ k, i ≤ k → k < 12 → ¬ u 1 k = x) ∨ ∃ k, k < 12 ∧ r = nI k ∧ u 1 k = x) := by
  intro d
  induction d with
  | zero =>
    intro i n hi hn
    obtain ⟨q, rfl⟩ : ∃ q, n = q + 1 := ⟨n - 1, by omega⟩
    obtain rfl : i = 12 := by omega
    refine ⟨-1, ?_, ?_, Or.inl ⟨rfl, fun k h1 h2 => absurd h1 (by omega)⟩⟩
    · show pX2_lineOf_2b u x _ (nI 12) = _
      unfold pX2_lineOf_2b
      rw [if_pos at12]
    · show pX5_lineOf_2b (mp m s) x _ (nI 12) = _
      unfold pX5_lineOf_2b
      rw [if_pos at12]
  | succ d ih =>
    intro i n hi hn
    obtain ⟨q, rfl⟩ : ∃ q, n = q + 1 := ⟨n - 1, by omega⟩
    have hi2 : i < 12 := by omega
    have e1 : pX2_lineOf_2 u x (q + 1) (nI i) = if u 1 i = x then some (nI i) else pX2_lineOf_2 u x q (nI (i + 1)) := by
      show pX2_lineOf_2b u x _ (nI i) = _
      unfold pX2_lineOf_2b
      rw [if_neg (ge12 hi2), ld_n hi2 (by decide), ob_some, nI_1]
    have e2 : pX5_lineOf_2 (mp m s) x (q + 1) (nI i) = if u 1 i = x then some (nI i) else pX5_lineOf_2 (mp m s) x q (nI (i + 1)) := by
      show pX5_lineOf_2b (mp m s) x _ (nI i) = _
      unfold pX5_lineOf_2b
      rw [if_neg (ge12 hi2), of0 hi2, ob_some, nI_1, Nat.add_zero, (h.2.2.2 i hi2).1]
    rw [e1, e2]
    by_cases c : u 1 i = x
    · rw [if_pos c, if_pos c]
      exact ⟨nI i, rfl, rfl, Or.inr ⟨i, hi2, rfl, c⟩⟩
    · rw [if_neg c, if_neg c]
      obtain ⟨r, g1, g2, g3⟩ := ih (i + 1) q (by omega) (by omega)
      refine ⟨r, g1, g2, g3.imp (fun g => ⟨g.1, fun k h1 h2 => ?_⟩) id⟩
      by_cases e : k = i
      · subst e; exact c
      · exact g.2 k (by omega) h2
theorem lineOf_r {s : Nat → Int32} {u m : Mem} (h : Rel s u) (x : Int32) : ∃ r : Int32, pX2_lineOf u x = some r ∧ pX5_lineOf (mp m s) x = some r ∧ ((r = -1 ∧ ∀ k, k < 12 → ¬ u 1 k = x) ∨ ∃ k, k < 12 ∧ r = nI k ∧ u 1 k = x) := by
  obtain ⟨r, g1, g2, g3⟩ := lineOf_p (m := m) h x 12 0 FU rfl (by decide)
  exact ⟨r, g1, g2, g3.imp (fun g => ⟨g.1, fun k hk => g.2 k (Nat.zero_le _) hk⟩) id⟩
def b2 (b : Bool) : Int32 := if b = true then 1 else 0
theorem b2_z (b : Bool) : isz (b2 b) = true := by cases b <;> decide
theorem isD_u {u : Mem} {x : Int32} {k : Nat} (hk : k < 12) : pX2_isDirtyOf u (nI k) x = some (b2 (dz u x k)) := by
  unfold pX2_isDirtyOf
  rw [if_neg (nI_pos (by omega)), if_neg (ge12 hk), ld_n hk (by decide), ob_some]
  by_cases c : u 5 k = 0
  · rw [if_pos c]
    unfold dz
    rw [decide_eq_false (not_not_intro c)]
    rfl
  · rw [if_neg c, ld_n hk (by decide), ob_some]
    unfold pX4_stripeOf
    rw [ob_some]
    unfold dz
    rw [decide_eq_true c]
    by_cases c2 : u 1 k / 4 = x
    · rw [if_pos c2, decide_eq_true c2]; rfl
    · rw [if_neg c2, decide_eq_false c2]; rfl
theorem isE_m {s : Nat → Int32} {u m : Mem} (h : Rel s u) {k : Nat} (hk : k < 12) : pX5_isEmpty (mp m s) (nI k) = some (b2 (decide (u 1 k = -1))) := by
  unfold pX5_isEmpty
  rw [of0 hk, ob_some, Nat.add_zero, (h.2.2.2 k hk).1]
  by_cases c : u 1 k = -1
  · rw [if_pos c, decide_eq_true c]; rfl
  · rw [if_neg c, decide_eq_false c]; rfl
theorem isD_m {s : Nat → Int32} {u m : Mem} (h : Rel s u) {x : Int32} {k : Nat} (hk : k < 12) (hl : LineOK u k) : pX5_isDirtyOf (mp m s) (nI k) x = some (b2 (dz u x k)) := by
  unfold pX5_isDirtyOf
  rw [isE_m h hk, ob_some]
  rcases hl with ⟨e1, e2⟩ | ⟨b, hb, e1, hs, hd, -⟩
  · rw [decide_eq_true e1]
    unfold dz
    rw [decide_eq_false (not_not_intro e2)]
    rfl
  · have hne : ¬ u 1 k = -1 := by rw [e1]; intro e; have := nI_pos (n := b) (by omega); rw [e] at this; exact this (by decide)
    rw [decide_eq_false hne, show b2 false = 0 from rfl, if_pos rfl, of4 hk, ob_some, (h.2.2.2 k hk).2.2.2.2 hne]
    unfold dz
    rcases hd with hd | hd
    · rw [hd]; rfl
    · rw [hd, if_pos rfl, of0 hk, ob_some, Nat.add_zero, (h.2.2.2 k hk).1, decide_eq_true (by decide : ¬ (1 : Int32) = 0)]
      by_cases c2 : u 1 k / 4 = x
      · rw [if_pos c2, decide_eq_true c2]; rfl
      · rw [if_neg c2, decide_eq_false c2]; rfl
theorem nI_b2 (a : Nat) (b : Bool) : nI a + b2 b = nI (a + b.toNat) := by
  cases b
  · show nI a + 0 = nI (a + 0); rw [Int32.add_zero]; rfl
  · exact nI_1 a
theorem dL_u {u : Mem} (x : Int32) : ∀ (d i n c : Nat), i + d = 12 → d < n → pX2_dirtyLinesOf_4 u x n (nI c) (nI i) = some (nI (c + rc (dz u x) i d)) := by
  intro d
  induction d with
  | zero =>
    intro i n c hi hn
    obtain ⟨q, rfl⟩ : ∃ q, n = q + 1 := ⟨n - 1, by omega⟩
    obtain rfl : i = 12 := by omega
    show pX2_dirtyLinesOf_4b u x _ (nI c) (nI 12) = _
    unfold pX2_dirtyLinesOf_4b
    rw [if_pos at12]; rfl
  | succ d ih =>
    intro i n c hi hn
    obtain ⟨q, rfl⟩ : ∃ q, n = q + 1 := ⟨n - 1, by omega⟩
    have hi2 : i < 12 := by omega
    show pX2_dirtyLinesOf_4b u x _ (nI c) (nI i) = some (nI (c + ((dz u x i).toNat + rc (dz u x) (i + 1) d)))
    unfold pX2_dirtyLinesOf_4b
    rw [if_neg (ge12 hi2), isD_u hi2, ob_some]
    unfold pX2_dirtyLinesOf_22
    cases hz : dz u x i
    · rw [show b2 false = 0 from rfl, if_pos rfl, nI_1, ih (i + 1) q c (by omega) (by omega)]
      simp
    · rw [show b2 true = 1 from rfl, if_neg (by decide), nI_1, nI_1, ih (i + 1) q (c + 1) (by omega) (by omega)]
      simp [Nat.add_assoc]
theorem dL_m {s : Nat → Int32} {u m : Mem} (h : Rel s u) (hl : ∀ k, k < 12 → LineOK u k) (x : Int32) : ∀ (d i n c : Nat), i + d = 12 → d < n → pX5_dirtyIn_4 (mp m s) x n (nI c) (nI i) = some (nI (c + rc (dz u x) i d)) := by
  intro d
  induction d with
  | zero =>
    intro i n c hi hn
    obtain ⟨q, rfl⟩ : ∃ q, n = q + 1 := ⟨n - 1, by omega⟩
    obtain rfl : i = 12 := by omega
    show pX5_dirtyIn_4b (mp m s) x _ (nI c) (nI 12) = _
    unfold pX5_dirtyIn_4b
    rw [if_pos at12]; rfl
  | succ d ih =>
    intro i n c hi hn
    obtain ⟨q, rfl⟩ : ∃ q, n = q + 1 := ⟨n - 1, by omega⟩
    have hi2 : i < 12 := by omega
    show pX5_dirtyIn_4b (mp m s) x _ (nI c) (nI i) = some (nI (c + ((dz u x i).toNat + rc (dz u x) (i + 1) d)))
    unfold pX5_dirtyIn_4b
    rw [if_neg (ge12 hi2), isD_m h hi2 (hl i hi2), ob_some]
    unfold pX5_dirtyIn_25
    cases hz : dz u x i
    · rw [show b2 false = 0 from rfl, if_pos rfl, nI_1, Int32.add_zero, ih (i + 1) q c (by omega) (by omega)]
      simp
    · rw [show b2 true = 1 from rfl, if_neg (by decide), nI_1, nI_1, ih (i + 1) q (c + 1) (by omega) (by omega)]
      simp [Nat.add_assoc]
theorem dirtyLinesOf_e {u : Mem} (x : Int32) : pX2_dirtyLinesOf u x = some (nI (Dn u x)) := by
  have := dL_u (u := u) x 12 0 FU 0 rfl (by decide)
  rw [Nat.zero_add] at this
  exact this
theorem dirtyIn_e {s : Nat → Int32} {u m : Mem} (h : Rel s u) (hl : ∀ k, k < 12 → LineOK u k) (x : Int32) : pX5_dirtyIn (mp m s) x = some (nI (Dn u x)) := by
  have := dL_m (m := m) h hl x 12 0 FU 0 rfl (by decide)
  rw [Nat.zero_add] at this
  exact this
theorem dz_set {u : Mem} {q k : Nat} (hq : q < 16) (hl : LineOK u k) (hz : dz u (nI q) k = true) : q % 4 = k / 3 := by
  unfold dz at hz
  simp only [Bool.and_eq_true, decide_eq_true_eq] at hz
  rcases hl with ⟨e1, e2⟩ | ⟨b, hb, e1, hs, -⟩
  · exact absurd e2 hz.1
  · rw [e1, div4 (by omega)] at hz
    have := (nI_eq (by omega) (by omega)).mp hz.2
    rw [← this]; exact hs
theorem Dn_3 {u : Mem} {q : Nat} (hq : q < 16) (hl : ∀ k, k < 12 → LineOK u k) : Dn u (nI q) ≤ 3 := by
  have hk : ∀ k, k < 12 → ¬ q % 4 = k / 3 → dz u (nI q) k = false := fun k h1 h2 => by
    cases hz : dz u (nI q) k
    · rfl
    · exact absurd (dz_set hq (hl k h1) hz) h2
  have hb : ∀ k, (dz u (nI q) k).toNat ≤ 1 := fun k => Bool.toNat_le _
  unfold Dn
  simp only [rc]
  rcases (show q % 4 = 0 ∨ q % 4 = 1 ∨ q % 4 = 2 ∨ q % 4 = 3 by omega) with e | e | e | e
  · rw [hk 3 (by omega) (by omega), hk 4 (by omega) (by omega), hk 5 (by omega) (by omega), hk 6 (by omega) (by omega), hk 7 (by omega) (by omega), hk 8 (by omega) (by omega), hk 9 (by omega) (by omega), hk 10 (by omega) (by omega), hk 11 (by omega) (by omega)]
    have := hb 0; have := hb 1; have := hb 2; simp; omega
  · rw [hk 0 (by omega) (by omega), hk 1 (by omega) (by omega), hk 2 (by omega) (by omega), hk 6 (by omega) (by omega), hk 7 (by omega) (by omega), hk 8 (by omega) (by omega), hk 9 (by omega) (by omega), hk 10 (by omega) (by omega), hk 11 (by omega) (by omega)]
    have := hb 3; have := hb 4; have := hb 5; simp; omega
  · rw [hk 0 (by omega) (by omega), hk 1 (by omega) (by omega), hk 2 (by omega) (by omega), hk 3 (by omega) (by omega), hk 4 (by omega) (by omega), hk 5 (by omega) (by omega), hk 9 (by omega) (by omega), hk 10 (by omega) (by omega), hk 11 (by omega) (by omega)]
    have := hb 6; have := hb 7; have := hb 8; simp; omega
  · rw [hk 0 (by omega) (by omega), hk 1 (by omega) (by omega), hk 2 (by omega) (by omega), hk 3 (by omega) (by omega), hk 4 (by omega) (by omega), hk 5 (by omega) (by omega), hk 6 (by omega) (by omega), hk 7 (by omega) (by omega), hk 8 (by omega) (by omega)]
    have := hb 9; have := hb 10; have := hb 11; simp; omega
/-- what it costs -/
theorem cost_eq {x : Nat} (h : x ≤ 3) : ∃ r : Int32, pX4_operationsToWrite (nI x) = some r ∧ pX5_cost (nI x) = some r := by
  rcases (show x = 0 ∨ x = 1 ∨ x = 2 ∨ x = 3 by omega) with rfl | rfl | rfl | rfl
  · exact ⟨0, by decide, by decide⟩
  · exact ⟨4, by decide, by decide⟩
  · exact ⟨5, by decide, by decide⟩
  · exact ⟨5, by decide, by decide⟩
theorem reads_eq {x : Nat} (h0 : 1 ≤ x) (h : x ≤ 3) : ∃ r : Int32, pX4_readsToWrite (nI x) = some r ∧ pX5_readsFor (nI x) = some r := by
  rcases (show x = 1 ∨ x = 2 ∨ x = 3 by omega) with rfl | rfl | rfl
  · exact ⟨2, by decide, by decide⟩
  · exact ⟨2, by decide, by decide⟩
  · exact ⟨1, by decide, by decide⟩
