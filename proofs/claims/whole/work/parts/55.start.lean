/-! THE FIRST STATE, AND ALL CALLS TOGETHER. -/
theorem in2_p : ∀ (d i n : Nat) (u : Mem), i + d = 12 → d < n → ∃ u' : Mem, pX2_init_63 n (nI i) u = some u' ∧ (∀ k, k < 12 → i ≤ k → u' 1 k = -1) ∧ (∀ k, k < i → u' 1 k = u 1 k) ∧ ∀ K, ¬ K = 1 → u' K = u K := by
  intro d
  induction d with
  | zero =>
    intro i n u hi hn
    obtain ⟨p, rfl⟩ : ∃ p, n = p + 1 := ⟨n - 1, by omega⟩
    obtain rfl : i = 12 := by omega
    refine ⟨u, ?_, fun k h1 h2 => by omega, fun k h => rfl, fun K h => rfl⟩
    show pX2_init_63b _ (nI 12) u = _
    unfold pX2_init_63b
    rw [if_pos at12]
  | succ d ih =>
    intro i n u hi hn
    obtain ⟨p, rfl⟩ : ∃ p, n = p + 1 := ⟨n - 1, by omega⟩
    have hi2 : i < 12 := by omega
    obtain ⟨u', g1, g2, g3, g4⟩ := ih (i + 1) p (mset u 1 i (-1)) (by omega) (by omega)
    refine ⟨u', ?_, fun k k1 k2 => ?_, fun k k1 => ?_, fun K hK => (g4 K hK).trans (mset_ne hK)⟩
    · show pX2_init_63b _ (nI i) u = _
      unfold pX2_init_63b
      rw [if_neg (ge12 hi2), st_n hi2 (by decide), ob_some, nI_1]
      exact g1
    · by_cases e : k = i
      · subst e
        rw [g3 k (by omega), mset_at, if_pos rfl, if_pos rfl]
      · exact g2 k k1 (by omega)
    · rw [g3 k (by omega), mset_at, if_pos rfl, if_neg (by omega)]
theorem in5_p {m : Mem} : ∀ (d i n : Nat) (s : Nat → Int32), i + d = 12 → d < n → ∃ s' : Nat → Int32, pX5_init_53 n (nI i) (mp m s) = some (mp m s') ∧ (∀ k, k < 12 → i ≤ k → s' (271 + 5 * k) = -1) ∧ (∀ a, (∀ k, k < 12 → i ≤ k → ¬ a = 271 + 5 * k) → s' a = s a) := by
  intro d
  induction d with
  | zero =>
    intro i n s hi hn
    obtain ⟨p, rfl⟩ : ∃ p, n = p + 1 := ⟨n - 1, by omega⟩
    obtain rfl : i = 12 := by omega
    refine ⟨s, ?_, fun k h1 h2 => by omega, fun a h => rfl⟩
    show pX5_init_53b _ (nI 12) _ = _
    unfold pX5_init_53b
    rw [if_pos at12]
  | succ d ih =>
    intro i n s hi hn
    obtain ⟨p, rfl⟩ : ∃ p, n = p + 1 := ⟨n - 1, by omega⟩
    have hi2 : i < 12 := by omega
    obtain ⟨s', g1, g2, g3⟩ := ih (i + 1) p (upd s (271 + 5 * i) (-1)) (by omega) (by omega)
    refine ⟨s', ?_, fun k k1 k2 => ?_, fun a ha => ?_⟩
    · show pX5_init_53b _ (nI i) _ = _
      unfold pX5_init_53b
      rw [if_neg (ge12 hi2), show (271 : Int32) + 5 * nI i = nI (271 + 5 * i) by rw [show (5 : Int32) = nI 5 from rfl, pk_mul, show (271 : Int32) = nI 271 from rfl, nI_add], st_m (by omega), ob_some, nI_1]
      exact g1
    · by_cases e : k = i
      · subst e
        rw [g3 _ (fun q q1 q2 => by omega), upd_at, if_pos rfl]
      · exact g2 k k1 (by omega)
    · rw [g3 a (fun q q1 q2 => ha q q1 (by omega)), upd_at, if_neg (ha i hi2 (Nat.le_refl _))]
theorem first_state : ∃ v w : Mem, pX5_init m0 = some v ∧ pX2_init m0 = some w ∧ Sim 0 v m0 (uS w) m0 (fun _ => uS w) := by
  obtain ⟨w, a1, a2, -, a4⟩ := in2_p 12 0 FU (mset (mset (mset m0 0 1 100) 0 2 100) 0 3 1) rfl (by decide)
  obtain ⟨s, b1, b2', b3⟩ := in5_p (m := m0) 12 0 FU (upd (upd (upd (upd (fun _ => 0) 0 1) 1 1) 2 100) 3 100) rfl (by decide)
  have e0 : m0 = mp m0 (fun _ => 0) := by
    funext k
    unfold mp
    cases Nat.beq k 1 <;> rfl
  have hs : ∀ a, a < 271 → s a = upd (upd (upd (upd (fun _ => 0) 0 1) 1 1) 2 100) 3 100 a := fun a ha => b3 a (fun k k1 k2 => by omega)
  have hz : ∀ a, 4 ≤ a → a < 271 → s a = 0 := fun a h1 h2 => by
    rw [hs a h2, upd_at, if_neg (by omega), upd_at, if_neg (by omega), upd_at, if_neg (by omega), upd_at, if_neg (by omega)]
  have hz2 : ∀ k j, k < 12 → 1 ≤ j → j < 5 → s (271 + 5 * k + j) = 0 := fun k j h1 h2 h3 => by
    rw [b3 _ (fun q q1 q2 => by omega), upd_at, if_neg (by omega), upd_at, if_neg (by omega), upd_at, if_neg (by omega), upd_at, if_neg (by omega)]
  have w0 : uS w 0 = mset (mset (mset m0 0 1 100) 0 2 100) 0 3 1 0 := a4 0 (by decide)
  have w1 : ∀ k, k < 12 → uS w 1 k = -1 := fun k hk => a2 k hk (Nat.zero_le _)
  have wz : ∀ K k, K = 2 ∨ K = 3 ∨ K = 4 ∨ K = 5 → uS w K k = 0 := fun K k hK => by
    rcases hK with rfl | rfl | rfl | rfl
    · exact congrFun (a4 2 (by decide)) k
    · exact congrFun (a4 3 (by decide)) k
    · exact congrFun (a4 4 (by decide)) k
    · exact congrFun (a4 5 (by decide)) k
  have R : Rel s (uS w) := by
    unfold Rel
    rw [w0]
    refine ⟨⟨hs 0 (by decide), hs 1 (by decide), hs 2 (by decide), hs 3 (by decide), hz 4 (by decide) (by decide), hz 5 (by decide) (by decide)⟩, fun i hi => hz (6 + i) (by omega) (by omega), fun b hb => ⟨hz _ (by omega) (by omega), hz _ (by omega) (by omega), hz _ (by omega) (by omega)⟩, fun k hk => ⟨?_, ?_, ?_, ?_, fun e => absurd (w1 k hk) e⟩⟩
    · rw [w1 k hk]; exact b2' k hk (Nat.zero_le _)
    · rw [wz 2 k (by simp)]; exact hz2 k 1 hk (by decide) (by decide)
    · rw [wz 3 k (by simp)]; exact hz2 k 2 hk (by decide) (by decide)
    · rw [wz 4 k (by simp)]; exact hz2 k 3 hk (by decide) (by decide)
  have I : Inv 0 (uS w) := by
    refine ⟨⟨Or.inr (by rw [w0]; rfl), Or.inr rfl⟩, ⟨100, 100, by decide, by decide, by decide, by rw [w0]; rfl, by rw [w0]; rfl, fun e => by cases e⟩, ⟨0, by decide, rfl⟩, fun k hk => Or.inl ⟨w1 k hk, wz 5 k (by simp)⟩, fun b hb _ => rfl⟩
  refine ⟨mp m0 s, w, ?_, ?_, R, I, ⟨0, 0, by decide, by decide, by decide, rfl, rfl, rfl, fun i hi => absurd hi (Nat.not_lt_zero i)⟩, 0, fun _ => 0, ⟨by decide, fun i hi => absurd hi (Nat.not_lt_zero i)⟩, by decide, rfl, rfl, fun i hi => absurd hi (Nat.not_lt_zero i)⟩
  · refine (congrArg pX5_init e0).trans ?_
    unfold pX5_init
    rw [stm0, ob_some, stm1, ob_some, stm2, ob_some, stm3, ob_some]
    exact b1
  · unfold pX2_init
    rw [pf_e, ob_some, pf_e, ob_some, pz_e (by decide), ob_some]
    exact a1
theorem all_steps : Oks Sim := by
  intro n v t u hh S hn hs
  exact ⟨step_write hn hs, step_read hn hs, step_destage hn hs, step_destageAll hn hs, step_pass hn hs, step_setLimit hn hs, step_power hn hs, step_moveStick hn hs, step_appendText hs, step_clearText hs, step_errorPosition hs, step_runText hn hs, step_undo hn hs, step_isOn hs, step_isIn hs, step_charge hs, step_line hs, step_dirtyOf hs, step_dirty hs, step_used hs, step_onDisk hs, step_isFound hs, step_missing hs, step_ifWritten hs, step_ifDestaged hs, step_ticksToLoss hs, step_count hs, step_F hs, step_savedStates hs, step_textLength hs, step_idle hs⟩
