/-! THE QUESTIONS, on both sides. -/
theorem fd_r {m : Mem} {N : Nat} {u : Mem} {s : Nat → Int32} (h : Rel s u) (hI : Inv N u) {b : Nat} (hb : b < 64) : ∃ g : Bool, pX1_finds u (nI b) = some (b2 g) ∧ pX5_found (mp m s) (nI b) = some (b2 g) := by
  obtain ⟨r, hr, hrm, hA⟩ := lineOf_r (m := m) h (nI b)
  obtain ⟨-, hd, hl⟩ := h.2.2.1 b hb
  have hf : ∀ s0 : Int32, pX5_found_34 (mp m s) (nI b) (u 9 b) s0 = if u 9 b = 0 then some 1 else if u 8 b = u 9 b then some 1 else if s0 = -1 then some 0 else (pX5_of (mp m s) s0 2).bind fun y => if y = u 9 b then some 1 else some 0 := by
    intro s0
    unfold pX5_found_34 pX5_found_71 pX5_found_75 pX5_found_76
    rw [ldm_ds hb, ob_some, hd]
    rfl
  have e1 : pX1_finds u (nI b) = if u 8 b = u 9 b then some 1 else (pX2_lineInReach u (nI b)).bind fun y6 => (pX4_isLine y6).bind fun y7 => if y7 = 0 then some 0 else (ld u 3 12 y6).bind fun y9 => if y9 = u 9 b then some 1 else some 0 := by
    unfold pX1_finds pX1_finds_64 pX1_finds_65
    rw [isB_n hb, ob_some, if_neg one0]
    simp only [ld_n hb (by decide : (64 : Nat) < 2 ^ 31), ob_some]
    rfl
  have e2 : pX5_found (mp m s) (nI b) = if u 0 3 = 1 then pX5_found_34 (mp m s) (nI b) (u 9 b) r else pX5_found_34 (mp m s) (nI b) (u 9 b) (-1) := by
    unfold pX5_found
    rw [ldm_la hb, ob_some, ldm0, ob_some, hl, h.1.1, hrm, ob_some]
  rw [e1, e2, hf, hf]
  by_cases c : u 8 b = u 9 b
  · rw [if_pos c, if_pos c]
    exact ⟨true, rfl, by split <;> split <;> rfl⟩
  · have c0 : ¬ u 9 b = 0 := fun e => c ((hI.2.2.2.2 b hb e).trans e.symm)
    simp only [if_neg c, if_neg c0]
    unfold pX2_lineInReach pX2_lineInReach_16
    rw [hr, ob_some]
    have none_ : ∃ g : Bool, ((some (-1) : Option Int32).bind fun y6 => (pX4_isLine y6).bind fun y7 => if y7 = 0 then some 0 else (ld u 3 12 y6).bind fun y9 => if y9 = u 9 b then some 1 else some 0) = some (b2 g) ∧ (if (-1 : Int32) = -1 then some 0 else (pX5_of (mp m s) (-1) 2).bind fun y => if y = u 9 b then some 1 else some 0) = some (b2 g) := by
      refine ⟨false, ?_, by rw [if_pos rfl]; rfl⟩
      rw [ob_some, isL_m1, ob_some, if_pos rfl]; rfl
    rcases hI.1.1 with e | e
    · rw [e, if_pos rfl, if_neg (by decide)]; exact none_
    · rw [e, if_neg one0, if_pos rfl]
      rcases hA with ⟨rfl, -⟩ | ⟨k, hk, rfl, -⟩
      · exact none_
      · rw [ob_some, isL_n hk, ob_some, if_neg one0, if_neg (nI_m1 (by omega)), ld_n hk (by decide), ob_some, of2 hk, ob_some, (h.2.2.2 k hk).2.2.1]
        by_cases c2 : u 3 k = u 9 b
        · rw [if_pos c2]; exact ⟨true, rfl, rfl⟩
        · rw [if_neg c2]; exact ⟨false, rfl, rfl⟩
theorem mi_p {m : Mem} {N : Nat} {u : Mem} {s : Nat → Int32} (h : Rel s u) (hI : Inv N u) (t hh : Mem) (S : Nat → Mem) : ∀ (d i n : Nat) (c : Int32), i + d = 64 → d < n → ∃ r : Int32, pX4_missing_4 t u hh S n c (nI i) = some r ∧ pX5_missing_9 n c (nI i) (mp m s) = some (r, mp m s) := by
  intro d
  induction d with
  | zero =>
    intro i n c hi hn
    obtain ⟨q, rfl⟩ : ∃ q, n = q + 1 := ⟨n - 1, by omega⟩
    obtain rfl : i = 64 := by omega
    refine ⟨c, ?_, ?_⟩
    · show pX4_missing_4b t u hh S _ c (nI 64) = _
      unfold pX4_missing_4b
      rw [if_pos at64]
    · show pX5_missing_9b _ c (nI 64) (mp m s) = _
      unfold pX5_missing_9b
      rw [if_pos at64]
  | succ d ih =>
    intro i n c hi hn
    obtain ⟨q, rfl⟩ : ∃ q, n = q + 1 := ⟨n - 1, by omega⟩
    have hi2 : i < 64 := by omega
    obtain ⟨g, g1, g2⟩ := fd_r (m := m) h hI hi2
    show ∃ r : Int32, pX4_missing_4b t u hh S (pX4_missing_4 t u hh S q) c (nI i) = some r ∧ pX5_missing_9b (pX5_missing_9 q) c (nI i) (mp m s) = some (r, mp m s)
    unfold pX4_missing_4b pX4_missing_24 pX5_missing_9b pX5_missing_29
    rw [if_neg (ge64 hi2), if_neg (ge64 hi2), g1, g2, ob_some, ob_some, nI_1]
    cases g
    · rw [if_pos (show b2 false = 0 from rfl), if_pos (show b2 false = 0 from rfl)]
      exact ih (i + 1) q (c + 1) (by omega) (by omega)
    · rw [if_neg (show ¬ b2 true = 0 by decide), if_neg (show ¬ b2 true = 0 by decide), Int32.add_zero]
      exact ih (i + 1) q c (by omega) (by omega)
theorem us_p {m : Mem} {u : Mem} {s : Nat → Int32} (h : Rel s u) : ∀ (d i n : Nat) (c : Int32), i + d = 12 → d < n → ∃ r : Int32, pX2_usedLines_4 u n c (nI i) = some r ∧ pX5_used_9 n c (nI i) (mp m s) = some (r, mp m s) := by
  intro d
  induction d with
  | zero =>
    intro i n c hi hn
    obtain ⟨q, rfl⟩ : ∃ q, n = q + 1 := ⟨n - 1, by omega⟩
    obtain rfl : i = 12 := by omega
    refine ⟨c, ?_, ?_⟩
    · show pX2_usedLines_4b u _ c (nI 12) = _
      unfold pX2_usedLines_4b
      rw [if_pos at12]
    · show pX5_used_9b _ c (nI 12) (mp m s) = _
      unfold pX5_used_9b
      rw [if_pos at12]
  | succ d ih =>
    intro i n c hi hn
    obtain ⟨q, rfl⟩ : ∃ q, n = q + 1 := ⟨n - 1, by omega⟩
    have hi2 : i < 12 := by omega
    show ∃ r : Int32, pX2_usedLines_4b u (pX2_usedLines_4 u q) c (nI i) = some r ∧ pX5_used_9b (pX5_used_9 q) c (nI i) (mp m s) = some (r, mp m s)
    unfold pX2_usedLines_4b pX2_usedLines_23 pX5_used_9b pX5_used_29
    rw [if_neg (ge12 hi2), if_neg (ge12 hi2), ld_n hi2 (by decide), ob_some, isE_m h hi2, ob_some, nI_1]
    by_cases e : u 1 i = -1
    · rw [if_pos e, decide_eq_true e, if_neg (show ¬ b2 true = 0 by decide), Int32.add_zero]
      exact ih (i + 1) q c (by omega) (by omega)
    · rw [if_neg e, decide_eq_false e, if_pos (show b2 false = 0 from rfl)]
      exact ih (i + 1) q (c + 1) (by omega) (by omega)
/-- sums over the stripes -/
def sm (f : Nat → Nat) : Nat → Nat → Nat
  | _, 0 => 0
  | i, d + 1 => f i + sm f (i + 1) d
theorem sm_add (f g : Nat → Nat) : ∀ (d i : Nat), sm (fun q => f q + g q) i d = sm f i d + sm g i d := by
  intro d
  induction d with
  | zero => intro i; rfl
  | succ d ih =>
    intro i
    show f i + g i + sm (fun q => f q + g q) (i + 1) d = f i + sm f (i + 1) d + (g i + sm g (i + 1) d)
    rw [ih]; omega
theorem sm_congr {f g : Nat → Nat} : ∀ (d i : Nat), (∀ k, i ≤ k → k < i + d → f k = g k) → sm f i d = sm g i d := by
  intro d
  induction d with
  | zero => intro i h; rfl
  | succ d ih =>
    intro i h
    show f i + sm f (i + 1) d = g i + sm g (i + 1) d
    rw [h i (Nat.le_refl _) (by omega), ih (i + 1) (fun k h1 h2 => h k (by omega) (by omega))]
theorem sm_one : ∀ t, t < 16 → sm (fun q => (decide (t = q)).toNat) 0 16 = 1 := by decide +kernel
theorem sm_zero : ∀ d i : Nat, sm (fun _ => 0) i d = 0 := by
  intro d
  induction d with
  | zero => intro i; rfl
  | succ d ih => intro i; show 0 + sm (fun _ => 0) (i + 1) d = 0; rw [ih]
theorem sm_line {u : Mem} {k : Nat} (hl : LineOK u k) : sm (fun q => (dz u (nI q) k).toNat) 0 16 = (dy u k).toNat := by
  rcases hl with ⟨a1, a2⟩ | ⟨b, b1, b2', b3, b4, -⟩
  · rw [show dy u k = false from decide_eq_false (not_not_intro a2), show (fun q => (dz u (nI q) k).toNat) = fun _ => 0 by funext q; unfold dz; rw [decide_eq_false (not_not_intro a2)]; rfl]
    exact sm_zero 16 0
  · by_cases hz : u 5 k = 0
    · rw [show dy u k = false from decide_eq_false (not_not_intro hz), show (fun q => (dz u (nI q) k).toNat) = fun _ => 0 by funext q; unfold dz; rw [decide_eq_false (not_not_intro hz)]; rfl]
      exact sm_zero 16 0
    · rw [show dy u k = true from decide_eq_true hz, ← show _ = (true.toNat) from sm_one (b / 4) (by omega)]
      refine sm_congr 16 0 (fun q q1 q2 => ?_)
      unfold dz
      rw [decide_eq_true hz, b2', div4 (by omega), Bool.true_and]
      by_cases e : b / 4 = q
      · rw [decide_eq_true e, decide_eq_true (congrArg nI e)]
      · rw [decide_eq_false e, decide_eq_false (fun e1 => e ((nI_eq (by omega) (by omega)).mp e1))]
theorem sm_all {u : Mem} (hl : ∀ k, k < 12 → LineOK u k) : ∀ (d i : Nat), i + d ≤ 12 → sm (fun q => rc (dz u (nI q)) i d) 0 16 = rc (dy u) i d := by
  intro d
  induction d with
  | zero => intro i hi; exact sm_zero 16 0
  | succ d ih =>
    intro i hi
    show sm (fun q => (dz u (nI q) i).toNat + rc (dz u (nI q)) (i + 1) d) 0 16 = (dy u i).toNat + rc (dy u) (i + 1) d
    rw [sm_add, sm_line (hl i (by omega)), ih (i + 1) (by omega)]
theorem dm_p {m : Mem} {u : Mem} {s : Nat → Int32} (h : Rel s u) (hl : ∀ k, k < 12 → LineOK u k) : ∀ (d i n c : Nat), i + d = 16 → d < n → pX5_dirtyLines_4 (mp m s) n (nI c) (nI i) = some (nI (c + sm (fun q => Dn u (nI q)) i d)) := by
  intro d
  induction d with
  | zero =>
    intro i n c hi hn
    obtain ⟨q, rfl⟩ : ∃ q, n = q + 1 := ⟨n - 1, by omega⟩
    obtain rfl : i = 16 := by omega
    show pX5_dirtyLines_4b (mp m s) _ (nI c) (nI 16) = _
    unfold pX5_dirtyLines_4b
    rw [if_pos at16]; rfl
  | succ d ih =>
    intro i n c hi hn
    obtain ⟨q, rfl⟩ : ∃ q, n = q + 1 := ⟨n - 1, by omega⟩
    have hi2 : i < 16 := by omega
    show pX5_dirtyLines_4b (mp m s) _ (nI c) (nI i) = some (nI (c + (Dn u (nI i) + sm (fun q => Dn u (nI q)) (i + 1) d)))
    unfold pX5_dirtyLines_4b
    rw [if_neg (ge16 hi2), dirtyIn_e h hl, ob_some, nI_add, nI_1, ih (i + 1) q _ (by omega) (by omega), Nat.add_assoc]
theorem dirtyLines_m {m : Mem} {u : Mem} {s : Nat → Int32} (h : Rel s u) (hl : ∀ k, k < 12 → LineOK u k) : pX5_dirtyLines (mp m s) = some (nI (Dt u)) := by
  have := dm_p (m := m) h hl 16 0 FU 0 rfl (by decide)
  rw [Nat.zero_add, show (fun q => Dn u (nI q)) = fun q => rc (dz u (nI q)) 0 12 from rfl, sm_all hl 12 0 (by decide)] at this
  exact this
theorem Dt_12 (u : Mem) : Dt u ≤ 12 := rc_le 12 0
/-- what a write would cost -/
theorem ow_r {m : Mem} {N : Nat} {u : Mem} {s : Nat → Int32} (h : Rel s u) (hI : Inv N u) {b : Nat} (hb : b < 64) : ∃ r : Int32, pX1_operationsIfWritten u (nI b) = some r ∧ ((pX5_isGathered (mp m s)).bind fun y106 => if y106 = 0 then (pX5_cost 1).bind fun y115 => some (y115, mp m s) else (pX5_lineOf (mp m s) (nI b)).bind fun y108 => if y108 = (-1) then (pX5_taken (mp m s) ((nI b / 4) - (nI b / 4) / 4 * 4)).bind fun y110 => if y110 = (-1) then (pX5_fullest (mp m s) ((nI b / 4) - (nI b / 4) / 4 * 4)).bind fun y112 => (pX5_dirtyIn (mp m s) y112).bind fun y113 => (pX5_cost y113).bind fun y114 => pX5_ifWritten_84 y114 (mp m s) else pX5_ifWritten_68 (mp m s) else pX5_ifWritten_68 (mp m s)) = some (r, mp m s) := by
  obtain ⟨g, g1, g2, -⟩ := gath_r (m := m) h hI
  unfold pX1_operationsIfWritten pX1_operationsIfWritten_47 pX5_ifWritten_68 pX5_ifWritten_84
  rw [g1, g2, ob_some, ob_some]
  have hl := hI.2.2.2.1
  cases g
  · rw [if_pos (show b2 false = 0 from rfl), if_pos (show b2 false = 0 from rfl)]
    exact ⟨4, by decide, rfl⟩
  · rw [if_neg (show ¬ b2 true = 0 by decide), if_neg (show ¬ b2 true = 0 by decide)]
    obtain ⟨r, hr, hrm, hA⟩ := lineOf_r (m := m) h (nI b)
    have hA2 : At u (nI b) r := hA
    unfold pX4_stripeOf
    rw [ob_some, hr, hrm, ob_some, ob_some, isL_r hA2, ob_some]
    simp only [div4 (show b < 2 ^ 31 by omega), set4 (show b / 4 < 2 ^ 31 by omega)]
    have hq : b / 4 % 4 < 4 := Nat.mod_lt _ (by decide)
    by_cases c : r = -1
    · rw [if_pos c, if_pos c, if_pos rfl]
      obtain ⟨r2, k1, k2, k3⟩ := take_r (m := m) h hl hq
      rw [k1, k2, ob_some, ob_some]
      rcases k3 with ⟨rfl, k3⟩ | ⟨k, hk, rfl, -⟩
      · rw [isL_m1, ob_some, if_pos rfl, if_pos rfl]
        obtain ⟨k, q1, q2, q3, q4, q5⟩ := full_r (m := m) h hl hq k3
        obtain ⟨r3, p1, p2⟩ := cost_eq (Dn_3 q1 hl)
        rw [q4, q5, ob_some, ob_some, dirtyLinesOf_e, dirtyIn_e h hl, ob_some, ob_some, p1, p2]
        exact ⟨r3, rfl, rfl⟩
      · rw [isL_n hk, ob_some, if_neg one0, if_neg (nI_m1 (by omega))]
        exact ⟨0, rfl, rfl⟩
    · rw [if_neg c, if_neg c, if_neg one0]
      exact ⟨0, rfl, rfl⟩
/-- what destaging all would cost -/
theorem od_p {m : Mem} {N : Nat} {u : Mem} {s : Nat → Int32} (h : Rel s u) (hI : Inv N u) : ∀ (d i n : Nat) (c : Int32), i + d = 16 → d < n → ∃ r : Int32, pX1_operationsIfDestaged_4 u n c (nI i) = some r ∧ pX5_ifDestaged_9 n c (nI i) (mp m s) = (pX5_isCharging (mp m s)).bind fun y => if y = 0 then some (-1, mp m s) else some (r, mp m s) := by
  intro d
  induction d with
  | zero =>
    intro i n c hi hn
    obtain ⟨q, rfl⟩ : ∃ q, n = q + 1 := ⟨n - 1, by omega⟩
    obtain rfl : i = 16 := by omega
    refine ⟨c, ?_, ?_⟩
    · show pX1_operationsIfDestaged_4b u _ c (nI 16) = _
      unfold pX1_operationsIfDestaged_4b
      rw [if_pos at16]
    · show pX5_ifDestaged_9b _ c (nI 16) (mp m s) = _
      unfold pX5_ifDestaged_9b
      rw [if_pos at16]
      rfl
  | succ d ih =>
    intro i n c hi hn
    obtain ⟨q, rfl⟩ : ∃ q, n = q + 1 := ⟨n - 1, by omega⟩
    have hi2 : i < 16 := by omega
    obtain ⟨r3, p1, p2⟩ := cost_eq (Dn_3 hi2 hI.2.2.2.1)
    show ∃ r : Int32, pX1_operationsIfDestaged_4b u (pX1_operationsIfDestaged_4 u q) c (nI i) = some r ∧ pX5_ifDestaged_9b (pX5_ifDestaged_9 q) c (nI i) (mp m s) = _
    unfold pX1_operationsIfDestaged_4b pX5_ifDestaged_9b
    rw [if_neg (ge16 hi2), if_neg (ge16 hi2), dirtyLinesOf_e, dirtyIn_e h hI.2.2.2.1, ob_some, ob_some, p1, p2, ob_some, ob_some, nI_1]
    exact ih (i + 1) q (c + r3) (by omega) (by omega)
/-- a line's part -/
theorem pt_r {m : Mem} {N : Nat} {u : Mem} {s : Nat → Int32} (h : Rel s u) (hI : Inv N u) {k j : Nat} (hk : k < 12) (hj : j < 5) : ∃ r : Int32, pX2_partOf u (nI k) (nI j) = some r ∧ ((pX5_isEmpty (mp m s) (nI k)).bind fun y204 => if y204 = 0 then (pX5_of (mp m s) (nI k) (nI j)).bind fun y206 => pX5_line_71 y206 (mp m s) else pX5_line_71 (-1) (mp m s)) = some (r, mp m s) := by
  unfold pX2_partOf pX2_partOf_17 pX2_partOf_98 pX5_line_71
  rw [isL_n hk, ob_some, if_neg one0, isE_m h hk, ob_some, of_n hk hj, ob_some]
  simp only [ld_n hk (by decide : (12 : Nat) < 2 ^ 31), ob_some]
  obtain ⟨r0, r1, r2, r3, r4⟩ := h.2.2.2 k hk
  rcases hI.2.2.2.1 k hk with ⟨a1, a2⟩ | ⟨b, b1, b2', b3, b4, -⟩
  · rw [if_pos a1, decide_eq_true a1, if_neg (show ¬ b2 true = 0 by decide)]
    exact ⟨_, rfl, rfl⟩
  · have hne := ne_m1 b1 b2'
    rw [if_neg hne, decide_eq_false hne, if_pos (show b2 false = 0 from rfl)]
    rcases (show j = 0 ∨ j = 1 ∨ j = 2 ∨ j = 3 ∨ j = 4 by omega) with rfl | rfl | rfl | rfl | rfl
    · rw [if_pos (by decide)]; exact ⟨_, rfl, by rw [← r0]; rfl⟩
    · rw [if_neg (by decide), if_pos (by decide)]; exact ⟨_, rfl, by rw [← r1]⟩
    · rw [if_neg (by decide), if_neg (by decide), if_pos (by decide)]; exact ⟨_, rfl, by rw [← r2]⟩
    · rw [if_neg (by decide), if_neg (by decide), if_neg (by decide), if_pos (by decide)]; exact ⟨_, rfl, by rw [← r3]⟩
    · rw [if_neg (by decide), if_neg (by decide), if_neg (by decide), if_neg (by decide), if_pos (by decide), r4 hne]
      rcases b4 with b4 | b4
      · rw [b4, if_pos rfl]; exact ⟨_, rfl, rfl⟩
      · rw [b4, if_neg one0]; exact ⟨_, rfl, rfl⟩
