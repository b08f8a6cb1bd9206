/-! WHICH LINE IS TAKEN, AND WHICH STRIPE IS FULLEST, on both sides. -/
theorem fl_step {u : Mem} {q i n : Nat} {x2 x3 : Int32} (hq : q < 4) (hi : i < 12) : pX2_freeLine_7 u (nI q) (n + 1) x2 x3 (nI i) = if i / 3 = q then (if u 5 i = 0 then (if u 1 i = -1 then some (nI i) else if x2 = -1 then pX2_freeLine_7 u (nI q) n (nI i) (u 4 i) (nI (i + 1)) else if x3 ≤ u 4 i then pX2_freeLine_7 u (nI q) n x2 x3 (nI (i + 1)) else pX2_freeLine_7 u (nI q) n (nI i) (u 4 i) (nI (i + 1))) else pX2_freeLine_7 u (nI q) n x2 x3 (nI (i + 1))) else pX2_freeLine_7 u (nI q) n x2 x3 (nI (i + 1)) := by
  show pX2_freeLine_7b u (nI q) _ x2 x3 (nI i) = _
  unfold pX2_freeLine_7b pX2_freeLine_62 pX2_freeLine_73
  rw [if_neg (ge12 hi), show nI i / 3 = nI (i / 3) from pk_div (d := 3) (by omega) (by decide) (by decide)]
  simp only [ld_n hi (by decide : (12 : Nat) < 2 ^ 31), ob_some, nI_1]
  by_cases c : i / 3 = q
  · rw [if_pos (congrArg nI c), if_pos c]
  · rw [if_neg (fun e => c ((nI_eq (by omega) (by omega)).mp e)), if_neg c]
theorem fl_end {u : Mem} {x : Int32} {n : Nat} {x2 x3 : Int32} : pX2_freeLine_7 u x (n + 1) x2 x3 (nI 12) = some x2 := by
  show pX2_freeLine_7b u x _ x2 x3 (nI 12) = _
  unfold pX2_freeLine_7b
  rw [if_pos at12]
theorem fl_tail {u : Mem} {q : Nat} (hq : q < 4) (x2 x3 : Int32) : ∀ (d i n : Nat), i + d = 12 → d < n → 3 * q + 3 ≤ i → pX2_freeLine_7 u (nI q) n x2 x3 (nI i) = some x2 := by
  intro d
  induction d with
  | zero =>
    intro i n hi hn h3
    obtain ⟨p, rfl⟩ : ∃ p, n = p + 1 := ⟨n - 1, by omega⟩
    obtain rfl : i = 12 := by omega
    exact fl_end
  | succ d ih =>
    intro i n hi hn h3
    obtain ⟨p, rfl⟩ : ∃ p, n = p + 1 := ⟨n - 1, by omega⟩
    rw [fl_step hq (by omega), if_neg (by omega)]
    exact ih (i + 1) p (by omega) (by omega) (by omega)
theorem fl_head {u : Mem} {q : Nat} (hq : q < 4) (x2 x3 : Int32) : ∀ (d i n : Nat), i + d = 3 * q → pX2_freeLine_7 u (nI q) (n + d) x2 x3 (nI i) = pX2_freeLine_7 u (nI q) n x2 x3 (nI (3 * q)) := by
  intro d
  induction d with
  | zero => intro i n hi; obtain rfl : i = 3 * q := by omega
            rfl
  | succ d ih =>
    intro i n hi
    rw [show n + (d + 1) = (n + d) + 1 by omega, fl_step hq (by omega), if_neg (by omega)]
    exact ih (i + 1) n (by omega)
theorem tk_step {s : Nat → Int32} {u m : Mem} (h : Rel s u) {q i n : Nat} {x2 : Int32} (hq : q < 4) (hi : i < 12) (h3 : i < 3 * q + 3) : pX5_taken_6 (mp m s) (nI q) (n + 1) x2 (nI i) = if u 1 i = -1 then some (nI i) else if s (271 + 5 * i + 4) = 0 then (if x2 = -1 then pX5_taken_6 (mp m s) (nI q) n (nI i) (nI (i + 1)) else (pX5_of (mp m s) x2 3).bind fun y => if y ≤ u 4 i then pX5_taken_6 (mp m s) (nI q) n x2 (nI (i + 1)) else pX5_taken_6 (mp m s) (nI q) n (nI i) (nI (i + 1))) else pX5_taken_6 (mp m s) (nI q) n x2 (nI (i + 1)) := by
  show pX5_taken_6b (mp m s) (nI q) _ x2 (nI i) = _
  unfold pX5_taken_6b pX5_taken_39 pX5_taken_66 pX5_taken_70 pX5_taken_71
  have e3 : ((3 : Int32) * nI q) + 3 = nI (3 * q + 3) := by rw [show (3 : Int32) = nI 3 from rfl, pk_mul, nI_add]
  rw [e3, if_neg (nI_ge h3 (by omega)), isE_m h hi]
  simp only [of3 hi, of4 hi, ob_some, nI_1, (h.2.2.2 i hi).2.2.2.1]
  by_cases c : u 1 i = -1
  · rw [if_pos c, decide_eq_true c]; rfl
  · rw [if_neg c, decide_eq_false c, show b2 false = 0 from rfl, if_pos rfl]
    by_cases c2 : s (271 + 5 * i + 4) = 0
    · rw [if_pos c2, if_pos c2, if_neg (by decide)]
    · rw [if_neg c2, if_neg c2, if_pos True.intro]
theorem tk_end {s : Nat → Int32} {m : Mem} {q n : Nat} {x2 : Int32} : pX5_taken_6 (mp m s) (nI q) (n + 1) x2 (nI (3 * q + 3)) = some x2 := by
  show pX5_taken_6b (mp m s) (nI q) _ x2 (nI (3 * q + 3)) = _
  unfold pX5_taken_6b
  have e3 : ((3 : Int32) * nI q) + 3 = nI (3 * q + 3) := by rw [show (3 : Int32) = nI 3 from rfl, pk_mul, nI_add]
  rw [e3, if_pos (Int32.le_refl _)]
theorem ne_m1 {u : Mem} {k b : Nat} (hb : b < 64) (e : u 1 k = nI b) : ¬ u 1 k = -1 := by
  rw [e]; intro e1; have := nI_pos (n := b) (by omega); rw [e1] at this; exact this (by decide)
theorem nI_m1 {k : Nat} (hk : k < 2 ^ 31) : ¬ nI k = -1 := by
  intro e1; have := nI_pos (n := k) hk; rw [e1] at this; exact this (by decide)
theorem take_p {s : Nat → Int32} {u m : Mem} (h : Rel s u) (hl : ∀ k, k < 12 → LineOK u k) {q : Nat} (hq : q < 4) : ∀ (d i n n' : Nat) (x2 x3 : Int32), i + d = 3 * q + 3 → 3 * q ≤ i → 12 - i < n → d < n' → ((x2 = -1 ∧ ∀ k, 3 * q ≤ k → k < i → ¬ u 5 k = 0) ∨ ∃ k, k < 12 ∧ x2 = nI k ∧ x3 = u 4 k ∧ k / 3 = q ∧ u 5 k = 0) →
    ∃ r : Int32, pX2_freeLine_7 u (nI q) n x2 x3 (nI i) = some r ∧ pX5_taken_6 (mp m s) (nI q) n' x2 (nI i) = some r ∧ ((r = -1 ∧ ∀ k, 3 * q ≤ k → k < 3 * q + 3 → ¬ u 5 k = 0) ∨ ∃ k, k < 12 ∧ r = nI k ∧ k / 3 = q ∧ u 5 k = 0) := by
  intro d
  induction d with
  | zero =>
    intro i n n' x2 x3 hi h3 hn hn' hx
    obtain ⟨p, rfl⟩ : ∃ p, n' = p + 1 := ⟨n' - 1, by omega⟩
    obtain rfl : i = 3 * q + 3 := by omega
    refine ⟨x2, fl_tail hq x2 x3 (12 - (3 * q + 3)) _ n (by omega) (by omega) (by omega), tk_end, ?_⟩
    rcases hx with hx | ⟨k, h1, h2, h4, h5, h6⟩
    · exact Or.inl hx
    · exact Or.inr ⟨k, h1, h2, h5, h6⟩
  | succ d ih =>
    intro i n n' x2 x3 hi h3 hn hn' hx
    obtain ⟨p', rfl⟩ : ∃ p, n' = p + 1 := ⟨n' - 1, by omega⟩
    obtain ⟨p, rfl⟩ : ∃ p, n = p + 1 := ⟨n - 1, by omega⟩
    have hi2 : i < 12 := by omega
    rw [fl_step hq hi2, if_pos (show i / 3 = q by omega), tk_step h hq hi2 (by omega)]
    rcases hl i hi2 with ⟨e1, e2⟩ | ⟨b, hb, e1, hs, hd, -⟩
    · rw [if_pos e2, if_pos e1, if_pos e1]
      exact ⟨nI i, rfl, rfl, Or.inr ⟨i, hi2, rfl, by omega, e2⟩⟩
    · have hne := ne_m1 hb e1
      rw [if_neg hne, if_neg hne, (h.2.2.2 i hi2).2.2.2.2 hne]
      by_cases c : u 5 i = 0
      · rw [if_pos c, if_pos c]
        rcases hx with ⟨hx, -⟩ | ⟨k, k1, k2, k3, k4, k5⟩
        · rw [if_pos hx, if_pos hx]
          exact ih (i + 1) p p' (nI i) (u 4 i) (by omega) (by omega) (by omega) (by omega) (Or.inr ⟨i, hi2, rfl, rfl, by omega, c⟩)
        · subst k2
          rw [if_neg (nI_m1 (by omega)), if_neg (nI_m1 (by omega)), of3 k1, ob_some, (h.2.2.2 k k1).2.2.2.1, k3]
          by_cases c2 : u 4 k ≤ u 4 i
          · rw [if_pos c2, if_pos c2]
            exact ih (i + 1) p p' (nI k) (u 4 k) (by omega) (by omega) (by omega) (by omega) (Or.inr ⟨k, k1, rfl, rfl, k4, k5⟩)
          · rw [if_neg c2, if_neg c2]
            exact ih (i + 1) p p' (nI i) (u 4 i) (by omega) (by omega) (by omega) (by omega) (Or.inr ⟨i, hi2, rfl, rfl, by omega, c⟩)
      · rw [if_neg c, if_neg c]
        refine ih (i + 1) p p' x2 x3 (by omega) (by omega) (by omega) (by omega) ?_
        rcases hx with ⟨hx, hy⟩ | hx
        · refine Or.inl ⟨hx, fun k k1 k2 => ?_⟩
          by_cases e : k = i
          · subst e; exact c
          · exact hy k k1 (by omega)
        · exact Or.inr hx
theorem take_r {s : Nat → Int32} {u m : Mem} (h : Rel s u) (hl : ∀ k, k < 12 → LineOK u k) {q : Nat} (hq : q < 4) : ∃ r : Int32, pX2_freeLine u (nI q) = some r ∧ pX5_taken (mp m s) (nI q) = some r ∧ ((r = -1 ∧ ∀ k, 3 * q ≤ k → k < 3 * q + 3 → ¬ u 5 k = 0) ∨ ∃ k, k < 12 ∧ r = nI k ∧ k / 3 = q ∧ u 5 k = 0) := by
  obtain ⟨r, g1, g2, g3⟩ := take_p (m := m) h hl hq 3 (3 * q) (FU - 3 * q) FU (-1) 0 rfl (Nat.le_refl _) (by unfold FU; omega) (by decide) (Or.inl ⟨rfl, fun k h1 h2 => by omega⟩)
  refine ⟨r, ?_, ?_, g3⟩
  · have e := fl_head (u := u) hq (-1) 0 (3 * q) 0 (FU - 3 * q) (by omega)
    rw [show FU - 3 * q + 3 * q = FU by unfold FU; omega] at e
    exact e.trans g1
  · unfold pX5_taken
    rw [show (3 : Int32) * nI q = nI (3 * q) from pk_mul 3 q]
    exact g2
/-- the first of the fullest -/
def Top (D : Nat → Nat) (q k i : Nat) : Prop := k < 16 ∧ k % 4 = q ∧ ∀ j, j < i → j % 4 = q → D j ≤ D k ∧ (j < k → D j < D k)
theorem fs_p {u : Mem} {q : Nat} (hq : q < 4) (hD : ∀ j, j < 16 → Dn u (nI j) ≤ 3) : ∀ (d i n : Nat) (x2 : Int32) (c : Nat), i + d = 16 → d < n → c ≤ 3 → ((x2 = -1 ∧ c = 0 ∧ ∀ j, j < i → j % 4 = q → Dn u (nI j) = 0) ∨ ∃ k, k < i ∧ x2 = nI k ∧ c = Dn u (nI k) ∧ 0 < c ∧ Top (fun j => Dn u (nI j)) q k i) →
    ∃ r : Int32, pX2_fullestStripe_7 u (nI q) n x2 (nI c) (nI i) = some r ∧ ((r = -1 ∧ ∀ j, j < 16 → j % 4 = q → Dn u (nI j) = 0) ∨ ∃ k, r = nI k ∧ 0 < Dn u (nI k) ∧ Top (fun j => Dn u (nI j)) q k 16) := by
  intro d
  induction d with
  | zero =>
    intro i n x2 c hi hn hc hx
    obtain ⟨p, rfl⟩ : ∃ p, n = p + 1 := ⟨n - 1, by omega⟩
    obtain rfl : i = 16 := by omega
    refine ⟨x2, ?_, ?_⟩
    · show pX2_fullestStripe_7b u (nI q) _ x2 (nI c) (nI 16) = _
      unfold pX2_fullestStripe_7b
      rw [if_pos at16]
    · rcases hx with ⟨h1, h2, h3⟩ | ⟨k, h1, h2, h3, h4, h5⟩
      · exact Or.inl ⟨h1, h3⟩
      · exact Or.inr ⟨k, h2, by omega, h5⟩
  | succ d ih =>
    intro i n x2 c hi hn hc hx
    obtain ⟨p, rfl⟩ : ∃ p, n = p + 1 := ⟨n - 1, by omega⟩
    have hi2 : i < 16 := by omega
    have e1 : pX2_fullestStripe_7 u (nI q) (p + 1) x2 (nI c) (nI i) = if i % 4 = q then (if Dn u (nI i) ≤ c then pX2_fullestStripe_7 u (nI q) p x2 (nI c) (nI (i + 1)) else pX2_fullestStripe_7 u (nI q) p (nI i) (nI (Dn u (nI i))) (nI (i + 1))) else pX2_fullestStripe_7 u (nI q) p x2 (nI c) (nI (i + 1)) := by
      show pX2_fullestStripe_7b u (nI q) _ x2 (nI c) (nI i) = _
      unfold pX2_fullestStripe_7b pX2_fullestStripe_42
      rw [if_neg (ge16 hi2), set4 (by omega)]
      simp only [dirtyLinesOf_e, ob_some, nI_1]
      have hDi := hD i hi2
      by_cases c1 : i % 4 = q
      · rw [if_pos (congrArg nI c1), if_pos c1]
        by_cases c2 : Dn u (nI i) ≤ c
        · rw [if_pos (nI_le c2 (by omega)), if_pos c2]
        · rw [if_neg (nI_ge (by omega) (by omega)), if_neg c2]
      · rw [if_neg (fun e => c1 ((nI_eq (by omega) (by omega)).mp e)), if_neg c1]
    have hDi := hD i hi2
    rw [e1]
    by_cases c1 : i % 4 = q
    · rw [if_pos c1]
      by_cases c2 : Dn u (nI i) ≤ c
      · rw [if_pos c2]
        refine ih (i + 1) p x2 c (by omega) (by omega) hc ?_
        rcases hx with ⟨h1, h2, h3⟩ | ⟨k, h1, h2, h3, h4, h5, h6, h7⟩
        · refine Or.inl ⟨h1, h2, fun j j1 j2 => ?_⟩
          by_cases e : j = i
          · subst e; omega
          · exact h3 j (by omega) j2
        · refine Or.inr ⟨k, by omega, h2, h3, h4, h5, h6, fun j j1 j2 => ?_⟩
          by_cases e : j = i
          · subst e; exact ⟨by dsimp only; omega, fun h => by omega⟩
          · exact h7 j (by omega) j2
      · rw [if_neg c2]
        refine ih (i + 1) p (nI i) _ (by omega) (by omega) hDi (Or.inr ⟨i, by omega, rfl, rfl, by omega, hi2, c1, fun j j1 j2 => ?_⟩)
        by_cases e : j = i
        · subst e; exact ⟨Nat.le_refl _, fun h => by omega⟩
        · rcases hx with ⟨h1, h2, h3⟩ | ⟨k, h1, h2, h3, h4, h5, h6, h7⟩
          · have := h3 j (by omega) j2; dsimp only; omega
          · have := (h7 j (by omega) j2).1; dsimp only at this ⊢; omega
    · rw [if_neg c1]
      refine ih (i + 1) p x2 c (by omega) (by omega) hc ?_
      rcases hx with ⟨h1, h2, h3⟩ | ⟨k, h1, h2, h3, h4, h5, h6, h7⟩
      · refine Or.inl ⟨h1, h2, fun j j1 j2 => ?_⟩
        by_cases e : j = i
        · subst e; exact absurd j2 c1
        · exact h3 j (by omega) j2
      · refine Or.inr ⟨k, by omega, h2, h3, h4, h5, h6, fun j j1 j2 => ?_⟩
        by_cases e : j = i
        · subst e; exact absurd j2 c1
        · exact h7 j (by omega) j2
theorem fm_p {s : Nat → Int32} {u m : Mem} (h : Rel s u) (hl : ∀ k, k < 12 → LineOK u k) {q : Nat} (hq : q < 4) : ∀ (d i n k : Nat), i + 4 * d = q + 16 → d < n → k ≤ i → Top (fun j => Dn u (nI j)) q k i →
    ∃ k' : Nat, pX5_fullest_4 (mp m s) n (nI k) (nI i) = some (nI k') ∧ Top (fun j => Dn u (nI j)) q k' 16 := by
  intro d
  induction d with
  | zero =>
    intro i n k hi hn hki hx
    obtain ⟨p, rfl⟩ : ∃ p, n = p + 1 := ⟨n - 1, by omega⟩
    refine ⟨k, ?_, hx.1, hx.2.1, fun j j1 j2 => hx.2.2 j (by omega) j2⟩
    show pX5_fullest_4b (mp m s) _ (nI k) (nI i) = _
    unfold pX5_fullest_4b
    rw [if_pos (show (16 : Int32) ≤ nI i from nI_le (a := 16) (by omega) (by omega))]
  | succ d ih =>
    intro i n k hi hn hki hx
    obtain ⟨p, rfl⟩ : ∃ p, n = p + 1 := ⟨n - 1, by omega⟩
    have hi2 : i < 16 := by omega
    have hk := hx.1
    have hDi := Dn_3 hi2 hl
    have hDk := Dn_3 hk hl
    show ∃ k', pX5_fullest_4b (mp m s) _ (nI k) (nI i) = some (nI k') ∧ _
    unfold pX5_fullest_4b pX5_fullest_28
    rw [if_neg (ge16 hi2)]
    simp only [dirtyIn_e h hl, ob_some, show nI i + 4 = nI (i + 4) from nI_add i 4]
    by_cases c : Dn u (nI i) ≤ Dn u (nI k)
    · rw [if_pos (nI_le c (by omega))]
      refine ih (i + 4) p k (by omega) (by omega) (by omega) ⟨hx.1, hx.2.1, fun j j1 j2 => ?_⟩
      by_cases e : j < i
      · exact hx.2.2 j e j2
      · obtain rfl : j = i := by omega
        exact ⟨c, fun e2 => by omega⟩
    · rw [if_neg (nI_ge (by omega) (by omega))]
      refine ih (i + 4) p i (by omega) (by omega) (by omega) ⟨hi2, by omega, fun j j1 j2 => ?_⟩
      by_cases e : j < i
      · have := (hx.2.2 j e j2).1; dsimp only at this ⊢; omega
      · obtain rfl : j = i := by omega
        exact ⟨Nat.le_refl _, fun h => by omega⟩
theorem Top_one {D : Nat → Nat} {q k k' : Nat} (h : Top D q k 16) (h' : Top D q k' 16) : k = k' := by
  obtain ⟨a1, a2, a3⟩ := h
  obtain ⟨b1, b2, b3⟩ := h'
  have x1 := a3 k' b1 b2
  have x2 := b3 k a1 a2
  rcases Nat.lt_trichotomy k k' with e | e | e
  · have := x2.2 e; omega
  · exact e
  · have := x1.2 e; omega
/-- where all three lines of a set are dirty, both find the same fullest stripe, and it has dirty lines -/
theorem full_r {s : Nat → Int32} {u m : Mem} (h : Rel s u) (hl : ∀ k, k < 12 → LineOK u k) {q : Nat} (hq : q < 4) (hd : ∀ k, 3 * q ≤ k → k < 3 * q + 3 → ¬ u 5 k = 0) : ∃ k : Nat, k < 16 ∧ k % 4 = q ∧ 0 < Dn u (nI k) ∧ pX2_fullestStripe u (nI q) = some (nI k) ∧ pX5_fullest (mp m s) (nI q) = some (nI k) := by
  have hD : ∀ j, j < 16 → Dn u (nI j) ≤ 3 := fun j hj => Dn_3 hj hl
  obtain ⟨r, g1, g2⟩ := fs_p hq hD 16 0 FU (-1) 0 rfl (by decide) (by decide) (Or.inl ⟨rfl, rfl, fun j hj => by omega⟩)
  obtain ⟨k', g3, g4⟩ := fm_p (m := m) h hl hq 4 q FU q (by omega) (by decide) (Nat.le_refl _) ⟨by omega, by omega, fun j h1 h2 => by omega⟩
  have h0 := hd (3 * q) (Nat.le_refl _) (by omega)
  rcases hl (3 * q) (by omega) with ⟨-, e2⟩ | ⟨b, hb, e1, hs, -, -⟩
  · exact absurd e2 h0
  · have hpos : 0 < Dn u (nI (b / 4)) := by
      refine rc_pos (k := 3 * q) ?_ 12 0 (Nat.zero_le _) (by omega)
      unfold dz
      rw [decide_eq_true h0, e1, div4 (by omega), decide_eq_true rfl]
      rfl
    rcases g2 with ⟨-, g5⟩ | ⟨k, rfl, g5, g6⟩
    · have := g5 (b / 4) (by omega) (by omega); omega
    · have e := Top_one g6 g4
      subst e
      exact ⟨k, g6.1, g6.2.1, g5, g1, g3⟩
