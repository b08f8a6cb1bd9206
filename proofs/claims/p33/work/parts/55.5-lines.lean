/-! TIME, THE LIMIT, THE POWER, THE STICK, piece 5. -/
/-- lines that are not empty -/
def us (u : Mem) (k : Nat) : Bool := decide (¬ u 1 k = -1)
def Us (u : Mem) : Nat := rc (us u) 0 12
theorem us_p {u : Mem} : ∀ (d i n c : Nat), i + d = 12 → d < n → pX2_usedLines_4 u n (nI c) (nI i) = some (nI (c + rc (us u) i d)) := by
  intro d
  induction d with
  | zero =>
    intro i n c hi hn
    obtain ⟨q, rfl⟩ : ∃ q, n = q + 1 := ⟨n - 1, by omega⟩
    obtain rfl : i = 12 := by omega
    show pX2_usedLines_4b u _ (nI c) (nI 12) = _
    unfold pX2_usedLines_4b
    rw [if_pos at12]; rfl
  | succ d ih =>
    intro i n c hi hn
    obtain ⟨q, rfl⟩ : ∃ q, n = q + 1 := ⟨n - 1, by omega⟩
    have hi2 : i < 12 := by omega
    show pX2_usedLines_4b u _ (nI c) (nI i) = some (nI (c + ((us u i).toNat + rc (us u) (i + 1) d)))
    unfold pX2_usedLines_4b pX2_usedLines_23
    rw [if_neg (ge12 hi2), ld_n hi2 (by decide), ob_some]
    by_cases hz : u 1 i = -1
    · rw [if_pos hz, nI_1, ih (i + 1) q c (by omega) (by omega), show us u i = false from decide_eq_false (not_not_intro hz)]
      simp
    · rw [if_neg hz, nI_1, nI_1, ih (i + 1) q (c + 1) (by omega) (by omega), show us u i = true from decide_eq_true hz]
      simp [Nat.add_assoc]
theorem usedLines_e {u : Mem} : pX2_usedLines u = some (nI (Us u)) := by
  have := us_p (u := u) 12 0 FU 0 rfl (by decide)
  rw [Nat.zero_add] at this
  exact this
theorem Us_12 (u : Mem) : Us u ≤ 12 := rc_le 12 0
/-- a line emptied -/
def em (u : Mem) (i : Nat) : Mem := mset (mset u 1 i (-1)) 5 i 0
theorem em_1 (u : Mem) (i k : Nat) : em u i 1 k = if k = i then -1 else u 1 k := by unfold em; rw [mset_ne (by decide), mset_at, if_pos rfl]
theorem em_5 (u : Mem) (i k : Nat) : em u i 5 k = if k = i then 0 else u 5 k := by unfold em; rw [mset_at, if_pos rfl, mset_ne (by decide)]
theorem em_core {N : Nat} {lat : Nat → Int32} {u : Mem} {i : Nat} (h : Core N lat u) : Core N lat (em u i) := by
  obtain ⟨c1, ⟨L, c, l1, l2, l3, l4, l5, l6⟩, c3, c4, c5, c6⟩ := h
  refine ⟨c1, ⟨L, c, l1, l2, l3, l4, l5, fun e k hk => ?_⟩, c3, c4, fun k hk => ?_, fun a b ha hb hn e => ?_⟩
  · rw [em_1]; split
    · rfl
    · exact l6 e k hk
  · by_cases e : k = i
    · exact Or.inl ⟨by rw [em_1, if_pos e], by rw [em_5, if_pos e]⟩
    · rcases c5 k hk with q | ⟨b, B⟩
      · exact Or.inl ⟨by rw [em_1, if_neg e]; exact q.1, by rw [em_5, if_neg e]; exact q.2⟩
      · refine Or.inr ⟨b, B.1, by rw [em_1, if_neg e]; exact B.2.1, B.2.2.1, by rw [em_5, if_neg e]; exact B.2.2.2.1, B.2.2.2.2.1, B.2.2.2.2.2.1, B.2.2.2.2.2.2.1, fun q => ?_⟩
        rw [em_5, if_neg e] at q
        exact B.2.2.2.2.2.2.2 q
  · rw [em_1] at hn
    rw [em_1, em_1] at e
    by_cases ea : a = i
    · rw [if_pos ea] at hn; exact absurd rfl hn
    · rw [if_neg ea] at hn
      by_cases eb : b = i
      · rw [if_neg ea, if_pos eb] at e; exact absurd e hn
      · rw [if_neg ea, if_neg eb] at e
        exact c6 a b ha hb hn e
/-- a line that is the latest write -/
def Up (lat : Nat → Int32) (u : Mem) (k : Nat) : Prop := ∀ b, b < 64 → u 1 k = nI b → u 3 k = u 9 b ∧ u 2 k = lat b
def Kr (u u' : Mem) : Prop := u' 0 = u 0 ∧ u' 2 = u 2 ∧ u' 3 = u 3 ∧ u' 6 = u 6 ∧ u' 8 = u 8 ∧ u' 9 = u 9 ∧ u' 10 = u 10
theorem Kr.rf (u : Mem) : Kr u u := ⟨rfl, rfl, rfl, rfl, rfl, rfl, rfl⟩
theorem Kr.tr {u u1 u2 : Mem} (h : Kr u u1) (g : Kr u1 u2) : Kr u u2 := ⟨g.1.trans h.1, g.2.1.trans h.2.1, g.2.2.1.trans h.2.2.1, g.2.2.2.1.trans h.2.2.2.1, g.2.2.2.2.1.trans h.2.2.2.2.1, g.2.2.2.2.2.1.trans h.2.2.2.2.2.1, g.2.2.2.2.2.2.trans h.2.2.2.2.2.2⟩
theorem Kr.em (u : Mem) (i : Nat) : Kr u (em u i) := ⟨rfl, rfl, rfl, rfl, rfl, rfl, rfl⟩
theorem em_mi {u : Mem} {i b : Nat} (hb : b < 64) (h1 : u 1 i = nI b) (h3 : ¬ u 3 i = u 9 b) {x : Nat} (hx : x < 64) : mi (em u i) x = mi u x := by
  unfold mi
  refine decide_eq_decide.mpr ⟨fun h => ⟨h.1, fun k hk q => ?_⟩, fun h => ⟨h.1, fun k hk q => ?_⟩⟩
  · by_cases e : k = i
    · subst e
      have := nI_inj (by omega) (by omega) (h1.symm.trans q.1)
      subst this
      exact h3 q.2
    · exact h.2 k hk ⟨by rw [em_1, if_neg e]; exact q.1, q.2⟩
  · rw [em_1] at q
    by_cases e : k = i
    · rw [if_pos e] at q
      exact nI_m1 (show x < 2 ^ 31 by omega) q.1.symm
    · rw [if_neg e] at q
      exact h.2 k hk q
theorem eo_p {N : Nat} {lat : Nat → Int32} : ∀ (d i n c : Nat) (u : Mem), i + d = 12 → d < n → Core N lat u → u 0 3 = 0 →
    ∃ (r : Nat) (u' : Mem), pX1_emptyOutdatedLines_4 n (nI c) (nI i) (mset u 0 3 1) = some (nI (c + r), mset u' 0 3 1) ∧ r + rc (us u') i d = rc (us u) i d ∧ Core N lat u' ∧ Kr u u' ∧ (∀ k, k < i → u' 1 k = u 1 k) ∧ (∀ k, i ≤ k → k < 12 → Up lat u' k) ∧ ∀ b, b < 64 → mi u' b = mi u b := by
  intro d
  induction d with
  | zero =>
    intro i n c u hi hn h h0
    obtain ⟨p, rfl⟩ : ∃ p, n = p + 1 := ⟨n - 1, by omega⟩
    obtain rfl : i = 12 := by omega
    refine ⟨0, u, ?_, by rw [Nat.zero_add], h, Kr.rf u, fun _ _ => rfl, fun k h1 h2 => by omega, fun _ _ => rfl⟩
    show pX1_emptyOutdatedLines_4b _ (nI c) (nI 12) _ = _
    unfold pX1_emptyOutdatedLines_4b
    rw [if_pos at12]; rfl
  | succ d ih =>
    intro i n c u hi hn h h0
    obtain ⟨p, rfl⟩ : ∃ p, n = p + 1 := ⟨n - 1, by omega⟩
    have hi2 : i < 12 := by omega
    have skip : Up lat u i → ∃ (r : Nat) (u' : Mem), pX1_emptyOutdatedLines_56 (pX1_emptyOutdatedLines_4 p) (nI c) (nI i) (mset u 0 3 1) = some (nI (c + r), mset u' 0 3 1) ∧ r + rc (us u') i (d + 1) = rc (us u) i (d + 1) ∧ Core N lat u' ∧ Kr u u' ∧ (∀ k, k < i → u' 1 k = u 1 k) ∧ (∀ k, i ≤ k → k < 12 → Up lat u' k) ∧ ∀ b, b < 64 → mi u' b = mi u b := by
      intro hU
      unfold pX1_emptyOutdatedLines_56
      rw [nI_1]
      obtain ⟨r, u', g1, g2, g3, g4, g5, g6, g7⟩ := ih (i + 1) p c u (by omega) (by omega) h h0
      have ei := g5 i (by omega)
      refine ⟨r, u', g1, ?_, g3, g4, fun k hk => g5 k (by omega), fun k k1 k2 => ?_, g7⟩
      · show r + ((us u' i).toNat + rc (us u') (i + 1) d) = (us u i).toNat + rc (us u) (i + 1) d
        rw [show us u' i = us u i by unfold us; rw [ei]]
        omega
      · by_cases e : k = i
        · subst e
          intro b hb q
          rw [ei] at q
          rw [g4.2.2.1, g4.2.2.2.2.2.1, g4.2.1]
          exact hU b hb q
        · exact g6 k (by omega) k2
    show ∃ (r : Nat) (u' : Mem), pX1_emptyOutdatedLines_4b (pX1_emptyOutdatedLines_4 p) (nI c) (nI i) (mset u 0 3 1) = _ ∧ _
    unfold pX1_emptyOutdatedLines_4b
    rw [if_neg (ge12 hi2), ld_n hi2 (by decide), ob_some, show mset u 0 3 1 1 i = u 1 i from rfl]
    rcases h.2.2.2.2.1 i hi2 with ⟨a1, a2⟩ | ⟨b, B⟩
    · rw [a1, isB_m1, ob_some, if_pos rfl]
      exact skip (fun b hb q => absurd (a1.symm.trans q).symm (nI_m1 (by omega)))
    · rw [B.2.1, isB_n B.1, ob_some, if_neg (by decide)]
      simp only [ld_n hi2 (by decide : (12 : Nat) < 2 ^ 31), ld_n B.1 (by decide : (64 : Nat) < 2 ^ 31), ob_some]
      rw [show mset u 0 3 1 3 i = u 3 i from rfl, show mset u 0 3 1 8 b = u 8 b from rfl]
      have hB := h.2.2.2.1 b B.1
      by_cases c2 : u 8 b ≤ u 3 i
      · rw [if_pos c2]
        refine skip (fun b' hb' q => ?_)
        have := nI_inj (by omega) (by have := B.1; omega) (q.symm.trans B.2.1)
        subst this
        rcases B.2.2.2.2.2.2.1 with w | ⟨w1, w2, w3⟩
        · exact w
        · rw [w2] at c2
          exact absurd w3 (Int32.not_lt.mpr c2)
      · rw [if_neg c2]
        have w3 : ¬ u 3 i = u 9 b := fun q => c2 (by rw [q]; exact hB.1)
        rw [empty_u hi2, ob_some]
        unfold pX1_emptyOutdatedLines_56
        rw [nI_1, nI_1, show mset (mset (mset u 0 3 1) 1 i (-1)) 5 i 0 = mset (em u i) 0 3 1 by unfold em; rw [mset_comm (k := 0) (k' := 1) (by decide), mset_comm (k := 0) (k' := 5) (by decide)]]
        obtain ⟨r, u', g1, g2, g3, g4, g5, g6, g7⟩ := ih (i + 1) p (c + 1) (em u i) (by omega) (by omega) (em_core h) h0
        have ei : u' 1 i = -1 := by rw [g5 i (by omega), em_1, if_pos rfl]
        refine ⟨r + 1, u', by rw [g1]; congr 3; omega, ?_, g3, (Kr.em u i).tr g4, fun k hk => ?_, fun k k1 k2 => ?_, fun x hx => (g7 x hx).trans (em_mi B.1 B.2.1 w3 hx)⟩
        · show r + 1 + ((us u' i).toNat + rc (us u') (i + 1) d) = (us u i).toNat + rc (us u) (i + 1) d
          have e1 : us u' i = false := decide_eq_false (not_not_intro ei)
          have e2 : us u i = true := decide_eq_true B.ne
          have e3 : rc (us (em u i)) (i + 1) d = rc (us u) (i + 1) d := rc_congr d (i + 1) (fun k k1 k2 => by unfold us; rw [em_1, if_neg (by omega)])
          rw [e1, e2, ← e3, ← g2]
          show r + 1 + (0 + rc (us u') (i + 1) d) = 1 + (r + rc (us u') (i + 1) d)
          omega
        · rw [g5 k (by omega), em_1, if_neg (by omega)]
        · by_cases e : k = i
          · subst e
            exact fun b' hb' q => absurd (ei.symm.trans q).symm (nI_m1 (by omega))
          · exact g6 k (by omega) k2
