/-! PURE ROWS OVER A MEMORY, taken over from the claim whole: reading and writing rows, the lines, sums. No machine here. -/
theorem beqF {a b : Nat} (h : ¬ a = b) : Nat.beq a b = false := by
  cases e : Nat.beq a b with
  | false => rfl
  | true => exact absurd (Nat.eq_of_beq_eq_true e) h
theorem mset_at (u : Mem) (k i : Nat) (v : Int32) (k' j : Nat) : mset u k i v k' j = if k' = k then (if j = i then v else u k j) else u k' j := by
  unfold mset upd
  by_cases h : k' = k
  · subst h; rw [Nat.beq_refl, if_pos rfl]; rfl
  · rw [beqF h, if_neg h]; rfl
theorem mset_ne {u : Mem} {k i : Nat} {v : Int32} {k' : Nat} (h : ¬ k' = k) : mset u k i v k' = u k' := by
  funext j
  rw [mset_at, if_neg h]
theorem upd_at (f : Nat → Int32) (k : Nat) (x : Int32) (j : Nat) : upd f k x j = if j = k then x else f j := rfl
theorem inB_nI {i n : Nat} (h : i < n) (hn : n < 2 ^ 31) : inB (nI i) n = true := in_inB (vp_in_nI h hn)
theorem ld_n {u : Mem} {k n i : Nat} (h : i < n) (hn : n < 2 ^ 31) : ld u k n (nI i) = some (u k i) := by
  unfold ld
  rw [if_pos (inB_nI h hn), nI_clamp (Nat.lt_trans h hn)]
theorem st_n {u : Mem} {k n i : Nat} {v : Int32} (h : i < n) (hn : n < 2 ^ 31) : st u k n (nI i) v = some (mset u k i v) := by
  unfold st
  rw [if_pos (inB_nI h hn), nI_clamp (Nat.lt_trans h hn)]
theorem stz_n {u : Mem} {k n i : Nat} {v : Int32} (hz : isz v = true) (h : i < n) (hn : n < 2 ^ 31) : stz u k n (nI i) v = some (mset u k i v) := by
  unfold stz
  rw [if_pos hz]
  exact st_n h hn
theorem pf_e {u : Mem} {k i : Nat} {v : Int32} : pf u k i v = some (mset u k i v) := rfl
theorem pz_e {u : Mem} {k i : Nat} {v : Int32} (h : isz v = true) : pz u k i v = some (mset u k i v) := by
  unfold pz
  rw [if_pos h]
theorem bd2_some {α : Type} (x : Int32) (u : Mem) (f : Int32 → Mem → Option α) : bd2 (some (x, u)) f = f x u := rfl
theorem ob_some {α β : Type} (x : α) (f : α → Option β) : (some x).bind f = f x := rfl
theorem ldc0 {u : Mem} : ld u 10 9 0 = some (u 10 0) := ld_n (i := 0) (by decide) (by decide)
theorem stc0 {u : Mem} {v : Int32} : st u 10 9 0 v = some (mset u 10 0 v) := st_n (i := 0) (by decide) (by decide)
theorem ldc1 {u : Mem} : ld u 10 9 1 = some (u 10 1) := ld_n (i := 1) (by decide) (by decide)
theorem stc1 {u : Mem} {v : Int32} : st u 10 9 1 v = some (mset u 10 1 v) := st_n (i := 1) (by decide) (by decide)
theorem ldc2 {u : Mem} : ld u 10 9 2 = some (u 10 2) := ld_n (i := 2) (by decide) (by decide)
theorem stc2 {u : Mem} {v : Int32} : st u 10 9 2 v = some (mset u 10 2 v) := st_n (i := 2) (by decide) (by decide)
theorem ldc3 {u : Mem} : ld u 10 9 3 = some (u 10 3) := ld_n (i := 3) (by decide) (by decide)
theorem stc3 {u : Mem} {v : Int32} : st u 10 9 3 v = some (mset u 10 3 v) := st_n (i := 3) (by decide) (by decide)
theorem ldc4 {u : Mem} : ld u 10 9 4 = some (u 10 4) := ld_n (i := 4) (by decide) (by decide)
theorem stc4 {u : Mem} {v : Int32} : st u 10 9 4 v = some (mset u 10 4 v) := st_n (i := 4) (by decide) (by decide)
theorem ldc5 {u : Mem} : ld u 10 9 5 = some (u 10 5) := ld_n (i := 5) (by decide) (by decide)
theorem stc5 {u : Mem} {v : Int32} : st u 10 9 5 v = some (mset u 10 5 v) := st_n (i := 5) (by decide) (by decide)
theorem ldc6 {u : Mem} : ld u 10 9 6 = some (u 10 6) := ld_n (i := 6) (by decide) (by decide)
theorem stc6 {u : Mem} {v : Int32} : st u 10 9 6 v = some (mset u 10 6 v) := st_n (i := 6) (by decide) (by decide)
theorem ldc7 {u : Mem} : ld u 10 9 7 = some (u 10 7) := ld_n (i := 7) (by decide) (by decide)
theorem stc7 {u : Mem} {v : Int32} : st u 10 9 7 v = some (mset u 10 7 v) := st_n (i := 7) (by decide) (by decide)
theorem ldc8 {u : Mem} : ld u 10 9 8 = some (u 10 8) := ld_n (i := 8) (by decide) (by decide)
theorem stc8 {u : Mem} {v : Int32} : st u 10 9 8 v = some (mset u 10 8 v) := st_n (i := 8) (by decide) (by decide)
theorem ge12 {i : Nat} (h : i < 12) : ¬ (12 : Int32) ≤ nI i := nI_ge (a := i) (b := 12) h (by decide)
theorem at12 : (12 : Int32) ≤ nI 12 := by decide
theorem ge16 {i : Nat} (h : i < 16) : ¬ (16 : Int32) ≤ nI i := nI_ge (a := i) (b := 16) h (by decide)
theorem at16 : (16 : Int32) ≤ nI 16 := by decide
theorem ge64 {i : Nat} (h : i < 64) : ¬ (64 : Int32) ≤ nI i := nI_ge (a := i) (b := 64) h (by decide)
theorem at64 : (64 : Int32) ≤ nI 64 := by decide
theorem ge6 {i : Nat} (h : i < 6) : ¬ (6 : Int32) ≤ nI i := nI_ge (a := i) (b := 6) h (by decide)
theorem at6 : (6 : Int32) ≤ nI 6 := by decide
/-- how many of d places from i on -/
def rc (f : Nat → Bool) : Nat → Nat → Nat
  | _, 0 => 0
  | i, d + 1 => (f i).toNat + rc f (i + 1) d
theorem rc_congr {f g : Nat → Bool} : ∀ (d i : Nat), (∀ k, i ≤ k → k < i + d → f k = g k) → rc f i d = rc g i d := by
  intro d
  induction d with
  | zero => intro i h; rfl
  | succ d ih =>
    intro i h
    show (f i).toNat + rc f (i + 1) d = (g i).toNat + rc g (i + 1) d
    rw [h i (Nat.le_refl _) (by omega), ih (i + 1) (fun k h1 h2 => h k (by omega) (by omega))]
theorem rc_le {f : Nat → Bool} : ∀ (d i : Nat), rc f i d ≤ d := by
  intro d
  induction d with
  | zero => intro i; exact Nat.le_refl 0
  | succ d ih =>
    intro i
    show (f i).toNat + rc f (i + 1) d ≤ d + 1
    have h1 := ih (i + 1)
    have h2 := Bool.toNat_le (f i)
    omega
theorem rc_0 {f : Nat → Bool} : ∀ (d i : Nat), (∀ k, i ≤ k → k < i + d → f k = false) → rc f i d = 0 := by
  intro d
  induction d with
  | zero => intro i h; rfl
  | succ d ih =>
    intro i h
    show (f i).toNat + rc f (i + 1) d = 0
    rw [h i (Nat.le_refl _) (by omega), ih (i + 1) (fun k h1 h2 => h k (by omega) (by omega))]
    rfl
theorem rc_pos {f : Nat → Bool} {k : Nat} (hk : f k = true) : ∀ (d i : Nat), i ≤ k → k < i + d → 0 < rc f i d := by
  intro d
  induction d with
  | zero => intro i h1 h2; omega
  | succ d ih =>
    intro i h1 h2
    show 0 < (f i).toNat + rc f (i + 1) d
    by_cases e : i = k
    · subst e; rw [hk]; show 0 < 1 + _; omega
    · have := ih (i + 1) (by omega) (by omega); omega
theorem isB_n {b : Nat} (h : b < 64) : pX4_isBlock (nI b) = some 1 := by
  unfold pX4_isBlock
  rw [if_neg (nI_pos (by omega)), if_neg (ge64 h)]
  rfl
theorem isL_n {k : Nat} (h : k < 12) : pX4_isLine (nI k) = some 1 := by
  unfold pX4_isLine
  rw [if_neg (nI_pos (by omega)), if_neg (ge12 h)]
  rfl
theorem isL_m1 : pX4_isLine (-1) = some 0 := by decide
theorem isB_m1 : pX4_isBlock (-1) = some 0 := by decide
/-- the block's own stripe and set -/
theorem div4 {b : Nat} (h : b < 2 ^ 31) : nI b / 4 = nI (b / 4) := pk_div (d := 4) h (by decide) (by decide)
theorem set4 {b : Nat} (h : b < 2 ^ 31) : nI b - nI b / 4 * 4 = nI (b % 4) := pk_rem (d := 4) h (by decide) (by decide)
/-- a dirty line of a stripe -/
def dz (u : Mem) (x : Int32) (k : Nat) : Bool := decide (¬ u 5 k = 0) && decide (u 1 k / 4 = x)
def Dn (u : Mem) (x : Int32) : Nat := rc (dz u x) 0 12
def b2 (b : Bool) : Int32 := if b = true then 1 else 0
theorem b2_z (b : Bool) : isz (b2 b) = true := by cases b <;> decide
theorem isD_u {u : Mem} {x : Int32} {k : Nat} (hk : k < 12) : pX2_isDirtyOf u (nI k) x = some (b2 (dz u x k)) := by
  unfold pX2_isDirtyOf
  rw [if_neg (nI_pos (by omega)), if_neg (ge12 hk), ld_n hk (by decide), ob_some]
  by_cases c : u 5 k = 0
  · rw [if_pos c]
    unfold dz
    rw [decide_eq_false (not_not_intro c)]
    rfl
  · rw [if_neg c, ld_n hk (by decide), ob_some]
    unfold pX4_stripeOf
    rw [ob_some]
    unfold dz
    rw [decide_eq_true c]
    by_cases c2 : u 1 k / 4 = x
    · rw [if_pos c2, decide_eq_true c2]; rfl
    · rw [if_neg c2, decide_eq_false c2]; rfl
theorem nI_b2 (a : Nat) (b : Bool) : nI a + b2 b = nI (a + b.toNat) := by
  cases b
  · show nI a + 0 = nI (a + 0); rw [Int32.add_zero]; rfl
  · exact nI_1 a
theorem dL_u {u : Mem} (x : Int32) : ∀ (d i n c : Nat), i + d = 12 → d < n → pX2_dirtyLinesOf_4 u x n (nI c) (nI i) = some (nI (c + rc (dz u x) i d)) := by
  intro d
  induction d with
  | zero =>
    intro i n c hi hn
    obtain ⟨q, rfl⟩ : ∃ q, n = q + 1 := ⟨n - 1, by omega⟩
    obtain rfl : i = 12 := by omega
    show pX2_dirtyLinesOf_4b u x _ (nI c) (nI 12) = _
    unfold pX2_dirtyLinesOf_4b
    rw [if_pos at12]; rfl
  | succ d ih =>
    intro i n c hi hn
    obtain ⟨q, rfl⟩ : ∃ q, n = q + 1 := ⟨n - 1, by omega⟩
    have hi2 : i < 12 := by omega
    show pX2_dirtyLinesOf_4b u x _ (nI c) (nI i) = some (nI (c + ((dz u x i).toNat + rc (dz u x) (i + 1) d)))
    unfold pX2_dirtyLinesOf_4b
    rw [if_neg (ge12 hi2), isD_u hi2, ob_some]
    unfold pX2_dirtyLinesOf_22
    cases hz : dz u x i
    · rw [show b2 false = 0 from rfl, if_pos rfl, nI_1, ih (i + 1) q c (by omega) (by omega)]
      simp
    · rw [show b2 true = 1 from rfl, if_neg (by decide), nI_1, nI_1, ih (i + 1) q (c + 1) (by omega) (by omega)]
      simp [Nat.add_assoc]
theorem dirtyLinesOf_e {u : Mem} (x : Int32) : pX2_dirtyLinesOf u x = some (nI (Dn u x)) := by
  have := dL_u (u := u) x 12 0 FU 0 rfl (by decide)
  rw [Nat.zero_add] at this
  exact this
theorem fl_step {u : Mem} {q i n : Nat} {x2 x3 : Int32} (hq : q < 4) (hi : i < 12) : pX2_freeLine_7 u (nI q) (n + 1) x2 x3 (nI i) = if i / 3 = q then (if u 5 i = 0 then (if u 1 i = -1 then some (nI i) else if x2 = -1 then pX2_freeLine_7 u (nI q) n (nI i) (u 4 i) (nI (i + 1)) else if x3 ≤ u 4 i then pX2_freeLine_7 u (nI q) n x2 x3 (nI (i + 1)) else pX2_freeLine_7 u (nI q) n (nI i) (u 4 i) (nI (i + 1))) else pX2_freeLine_7 u (nI q) n x2 x3 (nI (i + 1))) else pX2_freeLine_7 u (nI q) n x2 x3 (nI (i + 1)) := by
  show pX2_freeLine_7b u (nI q) _ x2 x3 (nI i) = _
  unfold pX2_freeLine_7b pX2_freeLine_62 pX2_freeLine_73
  rw [if_neg (ge12 hi), show nI i / 3 = nI (i / 3) from pk_div (d := 3) (by omega) (by decide) (by decide)]
  simp only [ld_n hi (by decide : (12 : Nat) < 2 ^ 31), ob_some, nI_1]
  by_cases c : i / 3 = q
  · rw [if_pos (congrArg nI c), if_pos c]
  · rw [if_neg (fun e => c ((nI_eq (by omega) (by omega)).mp e)), if_neg c]
theorem fl_end {u : Mem} {x : Int32} {n : Nat} {x2 x3 : Int32} : pX2_freeLine_7 u x (n + 1) x2 x3 (nI 12) = some x2 := by
  show pX2_freeLine_7b u x _ x2 x3 (nI 12) = _
  unfold pX2_freeLine_7b
  rw [if_pos at12]
theorem fl_tail {u : Mem} {q : Nat} (hq : q < 4) (x2 x3 : Int32) : ∀ (d i n : Nat), i + d = 12 → d < n → 3 * q + 3 ≤ i → pX2_freeLine_7 u (nI q) n x2 x3 (nI i) = some x2 := by
  intro d
  induction d with
  | zero =>
    intro i n hi hn h3
    obtain ⟨p, rfl⟩ : ∃ p, n = p + 1 := ⟨n - 1, by omega⟩
    obtain rfl : i = 12 := by omega
    exact fl_end
  | succ d ih =>
    intro i n hi hn h3
    obtain ⟨p, rfl⟩ : ∃ p, n = p + 1 := ⟨n - 1, by omega⟩
    rw [fl_step hq (by omega), if_neg (by omega)]
    exact ih (i + 1) p (by omega) (by omega) (by omega)
theorem fl_head {u : Mem} {q : Nat} (hq : q < 4) (x2 x3 : Int32) : ∀ (d i n : Nat), i + d = 3 * q → pX2_freeLine_7 u (nI q) (n + d) x2 x3 (nI i) = pX2_freeLine_7 u (nI q) n x2 x3 (nI (3 * q)) := by
  intro d
  induction d with
  | zero => intro i n hi; obtain rfl : i = 3 * q := by omega
            rfl
  | succ d ih =>
    intro i n hi
    rw [show n + (d + 1) = (n + d) + 1 by omega, fl_step hq (by omega), if_neg (by omega)]
    exact ih (i + 1) n (by omega)
theorem ne_m1 {u : Mem} {k b : Nat} (hb : b < 64) (e : u 1 k = nI b) : ¬ u 1 k = -1 := by
  rw [e]; intro e1; have := nI_pos (n := b) (by omega); rw [e1] at this; exact this (by decide)
theorem nI_m1 {k : Nat} (hk : k < 2 ^ 31) : ¬ nI k = -1 := by
  intro e1; have := nI_pos (n := k) hk; rw [e1] at this; exact this (by decide)
/-- the first of the fullest -/
def Top (D : Nat → Nat) (q k i : Nat) : Prop := k < 16 ∧ k % 4 = q ∧ ∀ j, j < i → j % 4 = q → D j ≤ D k ∧ (j < k → D j < D k)
theorem fs_p {u : Mem} {q : Nat} (hq : q < 4) (hD : ∀ j, j < 16 → Dn u (nI j) ≤ 3) : ∀ (d i n : Nat) (x2 : Int32) (c : Nat), i + d = 16 → d < n → c ≤ 3 → ((x2 = -1 ∧ c = 0 ∧ ∀ j, j < i → j % 4 = q → Dn u (nI j) = 0) ∨ ∃ k, k < i ∧ x2 = nI k ∧ c = Dn u (nI k) ∧ 0 < c ∧ Top (fun j => Dn u (nI j)) q k i) →
    ∃ r : Int32, pX2_fullestStripe_7 u (nI q) n x2 (nI c) (nI i) = some r ∧ ((r = -1 ∧ ∀ j, j < 16 → j % 4 = q → Dn u (nI j) = 0) ∨ ∃ k, r = nI k ∧ 0 < Dn u (nI k) ∧ Top (fun j => Dn u (nI j)) q k 16) := by
  intro d
  induction d with
  | zero =>
    intro i n x2 c hi hn hc hx
    obtain ⟨p, rfl⟩ : ∃ p, n = p + 1 := ⟨n - 1, by omega⟩
    obtain rfl : i = 16 := by omega
    refine ⟨x2, ?_, ?_⟩
    · show pX2_fullestStripe_7b u (nI q) _ x2 (nI c) (nI 16) = _
      unfold pX2_fullestStripe_7b
      rw [if_pos at16]
    · rcases hx with ⟨h1, h2, h3⟩ | ⟨k, h1, h2, h3, h4, h5⟩
      · exact Or.inl ⟨h1, h3⟩
      · exact Or.inr ⟨k, h2, by omega, h5⟩
  | succ d ih =>
    intro i n x2 c hi hn hc hx
    obtain ⟨p, rfl⟩ : ∃ p, n = p + 1 := ⟨n - 1, by omega⟩
    have hi2 : i < 16 := by omega
    have e1 : pX2_fullestStripe_7 u (nI q) (p + 1) x2 (nI c) (nI i) = if i % 4 = q then (if Dn u (nI i) ≤ c then pX2_fullestStripe_7 u (nI q) p x2 (nI c) (nI (i + 1)) else pX2_fullestStripe_7 u (nI q) p (nI i) (nI (Dn u (nI i))) (nI (i + 1))) else pX2_fullestStripe_7 u (nI q) p x2 (nI c) (nI (i + 1)) := by
      show pX2_fullestStripe_7b u (nI q) _ x2 (nI c) (nI i) = _
      unfold pX2_fullestStripe_7b pX2_fullestStripe_42
      rw [if_neg (ge16 hi2), set4 (by omega)]
      simp only [dirtyLinesOf_e, ob_some, nI_1]
      have hDi := hD i hi2
      by_cases c1 : i % 4 = q
      · rw [if_pos (congrArg nI c1), if_pos c1]
        by_cases c2 : Dn u (nI i) ≤ c
        · rw [if_pos (nI_le c2 (by omega)), if_pos c2]
        · rw [if_neg (nI_ge (by omega) (by omega)), if_neg c2]
      · rw [if_neg (fun e => c1 ((nI_eq (by omega) (by omega)).mp e)), if_neg c1]
    have hDi := hD i hi2
    rw [e1]
    by_cases c1 : i % 4 = q
    · rw [if_pos c1]
      by_cases c2 : Dn u (nI i) ≤ c
      · rw [if_pos c2]
        refine ih (i + 1) p x2 c (by omega) (by omega) hc ?_
        rcases hx with ⟨h1, h2, h3⟩ | ⟨k, h1, h2, h3, h4, h5, h6, h7⟩
        · refine Or.inl ⟨h1, h2, fun j j1 j2 => ?_⟩
          by_cases e : j = i
          · subst e; omega
          · exact h3 j (by omega) j2
        · refine Or.inr ⟨k, by omega, h2, h3, h4, h5, h6, fun j j1 j2 => ?_⟩
          by_cases e : j = i
          · subst e; exact ⟨by dsimp only; omega, fun h => by omega⟩
          · exact h7 j (by omega) j2
      · rw [if_neg c2]
        refine ih (i + 1) p (nI i) _ (by omega) (by omega) hDi (Or.inr ⟨i, by omega, rfl, rfl, by omega, hi2, c1, fun j j1 j2 => ?_⟩)
        by_cases e : j = i
        · subst e; exact ⟨Nat.le_refl _, fun h => by omega⟩
        · rcases hx with ⟨h1, h2, h3⟩ | ⟨k, h1, h2, h3, h4, h5, h6, h7⟩
          · have := h3 j (by omega) j2; dsimp only; omega
          · have := (h7 j (by omega) j2).1; dsimp only at this ⊢; omega
    · rw [if_neg c1]
      refine ih (i + 1) p x2 c (by omega) (by omega) hc ?_
      rcases hx with ⟨h1, h2, h3⟩ | ⟨k, h1, h2, h3, h4, h5, h6, h7⟩
      · refine Or.inl ⟨h1, h2, fun j j1 j2 => ?_⟩
        by_cases e : j = i
        · subst e; exact absurd j2 c1
        · exact h3 j (by omega) j2
      · refine Or.inr ⟨k, by omega, h2, h3, h4, h5, h6, fun j j1 j2 => ?_⟩
        by_cases e : j = i
        · subst e; exact absurd j2 c1
        · exact h7 j (by omega) j2
/-- one count raised -/
def ac (u : Mem) (i : Nat) (y : Int32) : Mem := mset u 10 i (u 10 i + y)
theorem ac_ne {u : Mem} {i : Nat} {y : Int32} {k : Nat} (hk : ¬ k = 10) : ac u i y k = u k := mset_ne hk
theorem mset_comm {u : Mem} {k k' i j : Nat} {v w : Int32} (hk : ¬ k = k') : mset (mset u k i v) k' j w = mset (mset u k' j w) k i v := by
  funext a c
  simp only [mset_at]
  grind
theorem ac_mset {u : Mem} {k i j : Nat} {v y : Int32} (hk : ¬ k = 10) : ac (mset u k j v) i y = mset (ac u i y) k j v := by
  unfold ac
  rw [mset_ne (fun e => hk e.symm), mset_comm hk]
theorem ac_ac {u : Mem} {i j : Nat} {v y : Int32} (hk : ¬ i = j) : ac (ac u i v) j y = ac (ac u j y) i v := by
  unfold ac
  funext a c
  simp only [mset_at]
  grind
theorem lineOf_c {u u' : Mem} (h : u' 1 = u 1) (x : Int32) : pX2_lineOf u' x = pX2_lineOf u x := by
  have : ∀ (n : Nat) (i : Int32), pX2_lineOf_2 u' x n i = pX2_lineOf_2 u x n i := by
    intro n
    induction n with
    | zero => intro i; rfl
    | succ n ih =>
      intro i
      show pX2_lineOf_2b u' x _ i = pX2_lineOf_2b u x _ i
      unfold pX2_lineOf_2b ld
      rw [h, ih]
  exact this FU 0
theorem b_ne0 {x : Int32} (h : x = 0 ∨ x = 1) (h0 : ¬ x = 0) : x = 1 := h.resolve_left h0
/-- a line filled -/
def fl (u : Mem) (k : Nat) (b x w d : Int32) : Mem := mset (mset (mset (mset (mset (mset u 0 0 (u 0 0 + 1)) 1 k b) 2 k x) 3 k w) 5 k d) 4 k (u 0 0 + 1)
theorem fill_u {u : Mem} {k : Nat} {b x w d : Int32} (hk : k < 12) (hd : isz d = true) : pX2_fill u (nI k) b x w d = some (fl u k b x w d) := by
  unfold pX2_fill pX2_fill_42 pX2_use pX2_use_27
  simp only [isL_n hk, ob_some, pf_e]
  rw [if_neg (by decide), st_n hk (by decide), ob_some, st_n hk (by decide), ob_some, st_n hk (by decide), ob_some, stz_n hd hk (by decide), ob_some, if_neg (by decide), st_n hk (by decide), ob_some]
  unfold fl
  have e0 : mset (mset (mset (mset u 1 k b) 2 k x) 3 k w) 5 k d 0 0 = u 0 0 := rfl
  rw [e0]
  have e1 : mset (mset (mset (mset (mset u 1 k b) 2 k x) 3 k w) 5 k d) 0 0 (u 0 0 + 1) = mset (mset (mset (mset (mset u 0 0 (u 0 0 + 1)) 1 k b) 2 k x) 3 k w) 5 k d := by
    rw [mset_comm (k := 5) (k' := 0) (by decide), mset_comm (k := 3) (k' := 0) (by decide), mset_comm (k := 2) (k' := 0) (by decide), mset_comm (k := 1) (k' := 0) (by decide)]
  rw [e1]
  rfl
theorem cw_1 {u : Mem} : pX1_countWrittenTogether u 1 = some (ac (ac u 0 2) 1 (1 + 1)) := by
  unfold pX1_countWrittenTogether pX4_writesToWrite
  simp only [ldc0, stc0, ldc1, stc1, ob_some, show pX4_readsToWrite 1 = some 2 by decide]
  rfl
theorem ac_rd {u : Mem} {i : Nat} {y : Int32} : u 10 i + y = ac u i y 10 i := by unfold ac; rw [mset_at, if_pos rfl, if_pos rfl]
theorem ac_0 (u : Mem) (i : Nat) : ac u i 0 = u := by
  unfold ac
  rw [Int32.add_zero]
  funext a c
  rw [mset_at]
  grind
theorem ac_add (u : Mem) (i : Nat) (a b : Int32) : ac (ac u i a) i b = ac u i (a + b) := by
  have e : ac u i a 10 i = u 10 i + a := ac_rd.symm
  have e2 : ac (ac u i a) i b = mset (mset u 10 i (u 10 i + a)) 10 i (u 10 i + a + b) := by
    show mset (ac u i a) 10 i (ac u i a 10 i + b) = _
    rw [e]; rfl
  rw [e2]
  show _ = mset u 10 i (u 10 i + (a + b))
  rw [← Int32.add_assoc]
  funext x y
  simp only [mset_at]
  grind
/-- any dirty line -/
def dy (u : Mem) (k : Nat) : Bool := decide (¬ u 5 k = 0)
def Dt (u : Mem) : Nat := rc (dy u) 0 12
theorem dl_p {u : Mem} : ∀ (d i n c : Nat), i + d = 12 → d < n → pX2_dirtyLines_4 u n (nI c) (nI i) = some (nI (c + rc (dy u) i d)) := by
  intro d
  induction d with
  | zero =>
    intro i n c hi hn
    obtain ⟨q, rfl⟩ : ∃ q, n = q + 1 := ⟨n - 1, by omega⟩
    obtain rfl : i = 12 := by omega
    show pX2_dirtyLines_4b u _ (nI c) (nI 12) = _
    unfold pX2_dirtyLines_4b
    rw [if_pos at12]; rfl
  | succ d ih =>
    intro i n c hi hn
    obtain ⟨q, rfl⟩ : ∃ q, n = q + 1 := ⟨n - 1, by omega⟩
    have hi2 : i < 12 := by omega
    show pX2_dirtyLines_4b u _ (nI c) (nI i) = some (nI (c + ((dy u i).toNat + rc (dy u) (i + 1) d)))
    unfold pX2_dirtyLines_4b pX2_dirtyLines_22
    rw [if_neg (ge12 hi2), ld_n hi2 (by decide), ob_some]
    by_cases hz : u 5 i = 0
    · rw [if_pos hz, nI_1, ih (i + 1) q c (by omega) (by omega), show dy u i = false from decide_eq_false (not_not_intro hz)]
      simp
    · rw [if_neg hz, nI_1, nI_1, ih (i + 1) q (c + 1) (by omega) (by omega), show dy u i = true from decide_eq_true hz]
      simp [Nat.add_assoc]
theorem dirtyLines_e {u : Mem} : pX2_dirtyLines u = some (nI (Dt u)) := by
  have := dl_p (u := u) 12 0 FU 0 rfl (by decide)
  rw [Nat.zero_add] at this
  exact this
theorem empty_u {u : Mem} {k : Nat} (hk : k < 12) : pX2_empty u (nI k) = some (mset (mset u 1 k (-1)) 5 k 0) := by
  unfold pX2_empty pX2_empty_21
  rw [isL_n hk, ob_some, if_neg (by decide), st_n hk (by decide), ob_some, stz_n (by decide) hk (by decide), ob_some]
theorem one0 : ¬ (1 : Int32) = 0 := by decide
theorem z01 {x : Int32} (hx : x = 0 ∨ x = 1) : isz x = true := by rcases hx with rfl | rfl <;> rfl
/-- sums over the stripes -/
def sm (f : Nat → Nat) : Nat → Nat → Nat
  | _, 0 => 0
  | i, d + 1 => f i + sm f (i + 1) d
theorem sm_add (f g : Nat → Nat) : ∀ (d i : Nat), sm (fun q => f q + g q) i d = sm f i d + sm g i d := by
  intro d
  induction d with
  | zero => intro i; rfl
  | succ d ih =>
    intro i
    show f i + g i + sm (fun q => f q + g q) (i + 1) d = f i + sm f (i + 1) d + (g i + sm g (i + 1) d)
    rw [ih]; omega
theorem sm_congr {f g : Nat → Nat} : ∀ (d i : Nat), (∀ k, i ≤ k → k < i + d → f k = g k) → sm f i d = sm g i d := by
  intro d
  induction d with
  | zero => intro i h; rfl
  | succ d ih =>
    intro i h
    show f i + sm f (i + 1) d = g i + sm g (i + 1) d
    rw [h i (Nat.le_refl _) (by omega), ih (i + 1) (fun k h1 h2 => h k (by omega) (by omega))]
theorem sm_one : ∀ t, t < 16 → sm (fun q => (decide (t = q)).toNat) 0 16 = 1 := by decide +kernel
theorem sm_zero : ∀ d i : Nat, sm (fun _ => 0) i d = 0 := by
  intro d
  induction d with
  | zero => intro i; rfl
  | succ d ih => intro i; show 0 + sm (fun _ => 0) (i + 1) d = 0; rw [ih]
theorem Dt_12 (u : Mem) : Dt u ≤ 12 := rc_le 12 0
theorem mrow_at (u : Mem) (k : Nat) (f : Nat → Int32) (k' : Nat) : mrow u k f k' = if k' = k then f else u k' := by
  unfold mrow
  by_cases h : k' = k
  · subst h; rw [Nat.beq_refl, if_pos rfl]; rfl
  · rw [beqF h, if_neg h]; rfl
theorem allz_of {f : Nat → Int32} : ∀ {n : Nat}, (∀ i, i < n → isz (f i) = true) → allz f n = true
  | 0, _ => rfl
  | n + 1, h => by
    simp only [allz, Bool.and_eq_true]
    exact ⟨allz_of (fun i hi => h i (by omega)), h n (by omega)⟩
theorem cpy_at (f g : Nat → Int32) (n i : Nat) (h : i < n) : va_cpy f g 0 0 n i = f i := by
  unfold va_cpy
  simp
  intro h2
  omega
theorem xor6 {x : Nat} (hx : x < 2 ^ 31) : 0 ≤ (nI x ^^^ 6) := by
  have h0 : (nI x).toBitVec.msb = false := by
    rw [BitVec.msb_eq_toInt]
    have := nI_toInt hx
    show decide ((nI x).toInt < 0) = false
    rw [this]
    exact decide_eq_false (by omega)
  have h1 : (nI x ^^^ 6).toBitVec.msb = false := by
    rw [Int32.toBitVec_xor, BitVec.msb_xor, h0]
    decide
  rw [BitVec.msb_eq_toInt] at h1
  have h2 := of_decide_eq_false h1
  rw [Int32.le_iff_toInt_le]
  exact Int.not_lt.mp h2
theorem fm6 {x : Nat} (hx : x < 2 ^ 31) : pJ9_floorMod_7cf53 (nI x) 6 = some (nI (x % 6)) := by
  unfold pJ9_floorMod_7cf53 pJ9_floorMod_7cf53_18
  rw [show nzr 6 = some () by decide, ob_some, if_pos (xor6 hx)]
  rw [show nI x - nI x / 6 * 6 = nI (x % 6) from pk_rem (d := 6) hx (by decide) (by decide)]
theorem upS_at (S : Nat → Mem) (j : Nat) (v : Mem) (k : Nat) : upS S j v k = if k = j then v else S k := by
  unfold upS
  by_cases h : k = j
  · subst h; rw [Nat.beq_refl, if_pos rfl]; rfl
  · rw [beqF h, if_neg h]; rfl
theorem bdH_some {α : Type} (h : Mem) (S : Nat → Mem) (f : Mem → (Nat → Mem) → Option α) : bdH (some (h, S)) f = f h S := rfl
theorem in2_p : ∀ (d i n : Nat) (u : Mem), i + d = 12 → d < n → ∃ u' : Mem, pX2_init_63 n (nI i) u = some u' ∧ (∀ k, k < 12 → i ≤ k → u' 1 k = -1) ∧ (∀ k, k < i → u' 1 k = u 1 k) ∧ ∀ K, ¬ K = 1 → u' K = u K := by
  intro d
  induction d with
  | zero =>
    intro i n u hi hn
    obtain ⟨p, rfl⟩ : ∃ p, n = p + 1 := ⟨n - 1, by omega⟩
    obtain rfl : i = 12 := by omega
    refine ⟨u, ?_, fun k h1 h2 => by omega, fun k h => rfl, fun K h => rfl⟩
    show pX2_init_63b _ (nI 12) u = _
    unfold pX2_init_63b
    rw [if_pos at12]
  | succ d ih =>
    intro i n u hi hn
    obtain ⟨p, rfl⟩ : ∃ p, n = p + 1 := ⟨n - 1, by omega⟩
    have hi2 : i < 12 := by omega
    obtain ⟨u', g1, g2, g3, g4⟩ := ih (i + 1) p (mset u 1 i (-1)) (by omega) (by omega)
    refine ⟨u', ?_, fun k k1 k2 => ?_, fun k k1 => ?_, fun K hK => (g4 K hK).trans (mset_ne hK)⟩
    · show pX2_init_63b _ (nI i) u = _
      unfold pX2_init_63b
      rw [if_neg (ge12 hi2), st_n hi2 (by decide), ob_some, nI_1]
      exact g1
    · by_cases e : k = i
      · subst e
        rw [g3 k (by omega), mset_at, if_pos rfl, if_pos rfl]
      · exact g2 k k1 (by omega)
    · rw [g3 k (by omega), mset_at, if_pos rfl, if_neg (by omega)]
