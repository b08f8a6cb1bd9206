/-! TIME, THE LIMIT, THE POWER, THE STICK, piece 2. -/
theorem can_e {u : Mem} (h : Bits u) : pX1_canDestage u = some (b2 (decide (u 6 1 = 1 ∧ u 0 3 = 1))) := by
  unfold pX1_canDestage pX1_canDestage_21 pX1_canDestage_22
  rcases h.2 with e | e
  · rw [e]; rfl
  · rw [e, if_neg (by decide)]
    rcases h.1 with e | e
    · rw [e]; rfl
    · rw [e]; rfl
/-- another charge -/
theorem ch_core {N : Nat} {lat : Nat → Int32} {u : Mem} (h : Core N lat u) {c : Nat} (hc : ∀ L, u 0 1 = nI L → L ≤ 100 → c ≤ L) (h0 : c = 0 → ∀ k, k < 12 → u 1 k = -1) : Core N lat (mset u 0 2 (nI c)) := by
  obtain ⟨c1, ⟨L, c', l1, l2, l3, l4, l5, l6⟩, c3, c4, c5, c6⟩ := h
  exact ⟨c1, ⟨L, c, l1, l2, hc L l4 l2, l4, rfl, h0⟩, c3, c4, c5, c6⟩
/-- every line emptied -/
theorem em_p : ∀ (d i n : Nat) (y : Int32) (u : Mem), i + d = 12 → d < n → ∃ u' : Mem, pX2_drain_30 y n (nI i) u = some (y, u') ∧ (∀ k, k < 12 → i ≤ k → u' 1 k = -1 ∧ u' 5 k = 0) ∧ (∀ k, k < i → u' 1 k = u 1 k ∧ u' 5 k = u 5 k) ∧ ∀ K, ¬ K = 1 → ¬ K = 5 → u' K = u K := by
  intro d
  induction d with
  | zero =>
    intro i n y u hi hn
    obtain ⟨p, rfl⟩ : ∃ p, n = p + 1 := ⟨n - 1, by omega⟩
    obtain rfl : i = 12 := by omega
    refine ⟨u, ?_, fun k h1 h2 => by omega, fun k _ => ⟨rfl, rfl⟩, fun K _ _ => rfl⟩
    show pX2_drain_30b y _ (nI 12) u = _
    unfold pX2_drain_30b
    rw [if_pos at12]
  | succ d ih =>
    intro i n y u hi hn
    obtain ⟨p, rfl⟩ : ∃ p, n = p + 1 := ⟨n - 1, by omega⟩
    have hi2 : i < 12 := by omega
    have v1 : ∀ k, mset (mset u 1 i (-1)) 5 i 0 1 k = if k = i then -1 else u 1 k := fun k => by rw [mset_ne (by decide), mset_at, if_pos rfl]
    have v5 : ∀ k, mset (mset u 1 i (-1)) 5 i 0 5 k = if k = i then 0 else u 5 k := fun k => by rw [mset_at, if_pos rfl, mset_ne (by decide)]
    obtain ⟨u', g1, g2, g3, g4⟩ := ih (i + 1) p y (mset (mset u 1 i (-1)) 5 i 0) (by omega) (by omega)
    refine ⟨u', ?_, fun k k1 k2 => ?_, fun k k1 => ?_, fun K K1 K2 => ?_⟩
    · show pX2_drain_30b y _ (nI i) u = _
      unfold pX2_drain_30b
      rw [if_neg (ge12 hi2), empty_u hi2, ob_some, nI_1]
      exact g1
    · by_cases e : k = i
      · subst e
        have := g3 k (by omega)
        rw [v1, v5, if_pos rfl, if_pos rfl] at this
        exact this
      · exact g2 k k1 (by omega)
    · have := g3 k (by omega)
      rw [v1, v5, if_neg (by omega), if_neg (by omega)] at this
      exact this
    · rw [g4 K K1 K2, mset_ne K2, mset_ne K1]
/-- a tick without power from outside -/
theorem dr_r {N c : Nat} {lat : Nat → Int32} {u : Mem} (h : Core N lat u) (hc : u 0 2 = nI c) (hcl : c ≤ 100) :
    ∃ (y : Nat) (u' : Mem), pX2_drain u = some (nI y, u') ∧ Core N lat u' ∧ u' 0 2 = nI (c - 1) ∧ u' 0 3 = u 0 3 ∧ u' 6 = u 6 ∧ u' 10 = u 10 ∧ (y = if c ≤ 1 then Dt u else 0) ∧ Mi' u' ≤ Mi' u + y ∧ (2 ≤ c → u' 1 = u 1 ∧ u' 5 = u 5) := by
  obtain ⟨L, c', l1, l2, l3, l4, l5, l6⟩ := id h.2.1
  have e : c' = c := nI_inj (by omega) (by omega) (l5.symm.trans hc)
  subst e
  unfold pX2_drain
  have e1 : (if u 0 2 - 1 < 0 then (0 : Int32) else u 0 2 - 1) = nI (c' - 1) := by
    rw [hc]
    rcases Nat.eq_zero_or_pos c' with e | e
    · subst e; decide
    · rw [show nI c' - 1 = nI (c' - 1) from pk_sub (b := 1) e, if_neg (nI_pos (by omega))]
  rw [e1, pf_e, ob_some]
  have e2 : mset u 0 2 (nI (c' - 1)) 0 2 = nI (c' - 1) := by rw [mset_at, if_pos rfl, if_pos rfl]
  rw [e2]
  by_cases c1 : c' ≤ 1
  · rw [show c' - 1 = 0 by omega, if_pos (show nI 0 ≤ 0 by decide), dirtyLines_e, ob_some]
    have hD : Dt (mset u 0 2 (nI 0)) = Dt u := rfl
    rw [hD]
    obtain ⟨u', g1, g2, -, g4⟩ := em_p 12 0 FU (nI (Dt u)) (mset u 0 2 (nI 0)) rfl (by decide)
    have g1 : pX2_drain_30 (nI (Dt u)) FU 0 (mset u 0 2 (nI 0)) = some (nI (Dt u), u') := g1
    have r0 : u' 0 = mset u 0 2 (nI 0) 0 := g4 0 (by decide) (by decide)
    have r6 : u' 6 = u 6 := g4 6 (by decide) (by decide)
    have r8 : u' 8 = u 8 := g4 8 (by decide) (by decide)
    have r9 : u' 9 = u 9 := g4 9 (by decide) (by decide)
    have r7 : u' 7 = u 7 := g4 7 (by decide) (by decide)
    have r10 : u' 10 = u 10 := g4 10 (by decide) (by decide)
    have hem : ∀ k, k < 12 → u' 1 k = -1 ∧ u' 5 k = 0 := fun k hk => g2 k hk (Nat.zero_le _)
    refine ⟨Dt u, u', g1, ⟨?_, ?_, ?_, fun b hb => ?_, fun k hk => Or.inl (hem k hk), fun k k' hk _ hn => absurd (hem k hk).1 hn⟩, ?_, ?_, r6, r10, by rw [if_pos c1], ?_, fun q => by omega⟩
    · unfold Bits; rw [r0, r6]; exact h.1
    · refine ⟨L, 0, l1, l2, Nat.zero_le _, ?_, ?_, fun _ k hk => (hem k hk).1⟩
      · rw [r0]; exact l4
      · rw [r0, mset_at, if_pos rfl, if_pos rfl]
    · unfold Nx; rw [r0, r6]; exact h.2.2.1
    · unfold BI; rw [r8, r9, r6, r7]; exact h.2.2.2.1 b hb
    · rw [r0, mset_at, if_pos rfl, if_pos rfl]
    · rw [r0]; rfl
    · rw [Mi_e, Mi_e]
      refine cover (fun b hb e => ?_)
      unfold mi at e
      rw [r8, r9] at e
      have e := (@of_decide_eq_true _ (Classical.propDecidable _) e).1
      by_cases q : mi u b = true
      · exact Or.inl q
      · right
        unfold mi at q
        have q := fun h => q (@decide_eq_true _ (Classical.propDecidable _) h)
        have q2 : ∃ k, k < 12 ∧ u 1 k = nI b ∧ u 3 k = u 9 b := by
          refine Classical.byContradiction fun q3 => q ⟨e, fun k hk q4 => q3 ⟨k, hk, q4⟩⟩
        obtain ⟨k, hk, q3, q4⟩ := q2
        have B := LB.of (h.2.2.2.2.1 k hk) hb q3
        refine ⟨k, hk, decide_eq_true fun h5 => e (B.2.2.2.2.2.2.2 h5), q3⟩
  · rw [if_neg (nI_nle (by omega) (by omega))]
    refine ⟨0, _, rfl, ch_core h (fun L' q _ => ?_) (fun q => by omega), e2, rfl, rfl, rfl, by rw [if_neg c1], ?_, fun _ => ⟨rfl, rfl⟩⟩
    · have := nI_inj (by omega) (by omega) (l4.symm.trans q); omega
    · rw [Nat.add_zero]
      exact Nat.le_of_eq (Mi_c fun b _ => congrFun (mi_of rfl rfl rfl rfl) b)
