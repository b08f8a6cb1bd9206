/-! COUNTING, TIME, THE LIMIT, THE POWER, THE STICK. -/
theorem rc_mono {f g : Nat → Bool} : ∀ (d i : Nat), (∀ k, i ≤ k → k < i + d → f k = true → g k = true) → rc f i d ≤ rc g i d := by
  intro d
  induction d with
  | zero => intro i _; exact Nat.le_refl _
  | succ d ih =>
    intro i h
    show (f i).toNat + rc f (i + 1) d ≤ (g i).toNat + rc g (i + 1) d
    have h1 := ih (i + 1) (fun k a b => h k (by omega) (by omega))
    have h2 : (f i).toNat ≤ (g i).toNat := by
      cases e : f i
      · exact Nat.zero_le _
      · rw [h i (Nat.le_refl _) (by omega) e]; exact Nat.le_refl _
    omega
/-- but one place alike: at most one more -/
theorem rc_one {f g : Nat → Bool} {b0 : Nat} : ∀ (d i : Nat), (∀ k, i ≤ k → k < i + d → ¬ k = b0 → f k = g k) → rc f i d ≤ rc g i d + 1 := by
  intro d
  induction d with
  | zero => intro i _; exact Nat.zero_le _
  | succ d ih =>
    intro i h
    show (f i).toNat + rc f (i + 1) d ≤ (g i).toNat + rc g (i + 1) d + 1
    by_cases e : i = b0
    · have h1 : rc f (i + 1) d = rc g (i + 1) d := rc_congr d (i + 1) (fun k a b => h k (by omega) (by omega) (by omega))
      have h2 := Bool.toNat_le (f i)
      omega
    · have h1 := ih (i + 1) (fun k a b c => h k (by omega) (by omega) c)
      rw [h i (Nat.le_refl _) (by omega) e]
      omega
/-- blocks that are covered by other blocks and by lines -/
theorem cover_p {Q : Nat → Bool} {u : Mem} : ∀ (d i : Nat) (P : Nat → Bool), (∀ b, b < 64 → P b = true → Q b = true ∨ ∃ k, i ≤ k ∧ k < i + d ∧ dy u k = true ∧ u 1 k = nI b) → rc P 0 64 ≤ rc Q 0 64 + rc (dy u) i d := by
  intro d
  induction d with
  | zero =>
    intro i P h
    refine Nat.le_trans (rc_mono 64 0 (fun b _ hb e => ?_)) (Nat.le_add_right _ _)
    rcases h b (by omega) e with q | ⟨k, k1, k2, -⟩
    · exact q
    · omega
  | succ d ih =>
    intro i P h
    show rc P 0 64 ≤ rc Q 0 64 + ((dy u i).toNat + rc (dy u) (i + 1) d)
    cases hd : dy u i
    · have := ih (i + 1) P (fun b hb e => (h b hb e).imp id (fun ⟨k, k1, k2, k3, k4⟩ => ⟨k, by
        by_cases q : k = i
        · subst q; rw [hd] at k3; cases k3
        · omega, by omega, k3, k4⟩))
      simpa using this
    · have h1 := ih (i + 1) (fun b => P b && !decide (u 1 i = nI b)) (fun b hb e => by
        simp only [Bool.and_eq_true, Bool.not_eq_true', decide_eq_false_iff_not] at e
        refine (h b hb e.1).imp id (fun ⟨k, k1, k2, k3, k4⟩ => ⟨k, ?_, by omega, k3, k4⟩)
        by_cases q : k = i
        · subst q; exact absurd k4 e.2
        · omega)
      have h2 : rc P 0 64 ≤ rc (fun b => P b && !decide (u 1 i = nI b)) 0 64 + 1 := by
        by_cases hex : ∃ b0, b0 < 64 ∧ u 1 i = nI b0
        · obtain ⟨b0, q1, q2⟩ := hex
          refine rc_one (b0 := b0) 64 0 (fun k _ hk e => ?_)
          show P k = (P k && !decide (u 1 i = nI k))
          rw [decide_eq_false (fun q => e (nI_inj (by omega) (by omega) (q.symm.trans q2)))]
          simp
        · refine Nat.le_trans (Nat.le_of_eq (rc_congr 64 0 (fun k _ hk => ?_))) (Nat.le_add_right _ _)
          show P k = (P k && !decide (u 1 i = nI k))
          rw [decide_eq_false (fun q => hex ⟨k, by omega, q⟩)]
          simp
      have h3 : Bool.toNat true = 1 := rfl
      omega
theorem cover {P Q : Nat → Bool} {u : Mem} (h : ∀ b, b < 64 → P b = true → Q b = true ∨ ∃ k, k < 12 ∧ dy u k = true ∧ u 1 k = nI b) : rc P 0 64 ≤ rc Q 0 64 + Dt u :=
  cover_p 12 0 P (fun b hb e => (h b hb e).imp id (fun ⟨k, k1, k2, k3⟩ => ⟨k, Nat.zero_le _, by omega, k2, k3⟩))
/-- how the counts go on -/
def Cd (u u' : Mem) : Prop := ∃ e : Nat → Nat, (∀ i, i < 9 → u' 10 i = u 10 i + nI (e i) ∧ e i ≤ 100) ∧ e 5 ≤ e 0 ∧ e 8 ≤ 3 * e 7 ∧ Mi' u' ≤ Mi' u + e 6
theorem Cn.step {N : Nat} {u u' : Mem} (h : Cn N u) (g : Cd u u') : Cn (N + 1) u' := by
  obtain ⟨c, c1, c2, c3, c4⟩ := h
  obtain ⟨e, e1, e2, e3, e4⟩ := g
  refine ⟨fun i => c i + e i, fun i hi => ⟨?_, ?_⟩, ?_, ?_, ?_⟩
  · rw [(e1 i hi).1, (c1 i hi).1, nI_add]
  · have := (e1 i hi).2; have := (c1 i hi).2; show c i + e i ≤ _; omega
  · show c 5 + e 5 ≤ c 0 + e 0; omega
  · show c 8 + e 8 ≤ 3 * (c 7 + e 7); omega
  · show Mi' u' ≤ c 6 + e 6; omega
theorem sm_le {f g : Nat → Nat} : ∀ (d i : Nat), (∀ k, i ≤ k → k < i + d → f k ≤ g k) → sm f i d ≤ sm g i d := by
  intro d
  induction d with
  | zero => intro i _; exact Nat.le_refl _
  | succ d ih =>
    intro i h
    show f i + sm f (i + 1) d ≤ g i + sm g (i + 1) d
    have := h i (Nat.le_refl _) (by omega)
    have := ih (i + 1) (fun k a b => h k (by omega) (by omega))
    omega
theorem sm_mul (c : Nat) (f : Nat → Nat) : ∀ (d i : Nat), sm (fun q => c * f q) i d = c * sm f i d := by
  intro d
  induction d with
  | zero => intro i; rfl
  | succ d ih =>
    intro i
    show c * f i + sm (fun q => c * f q) (i + 1) d = c * (f i + sm f (i + 1) d)
    rw [ih, Nat.mul_add]
theorem sm_con (c : Nat) : ∀ (d i : Nat), sm (fun _ => c) i d = c * d := by
  intro d
  induction d with
  | zero => intro i; rfl
  | succ d ih =>
    intro i
    show c + sm (fun _ => c) (i + 1) d = c * (d + 1)
    rw [ih, Nat.mul_succ, Nat.add_comm]
theorem dcs_4 {x i : Nat} (h : x ≤ 3) : dcs x i ≤ 4 := by
  unfold dcs rdN
  repeat' split
  all_goals omega
theorem dcs_8 {x : Nat} : dcs x 8 ≤ 3 * dcs x 7 ∨ 3 < x := by
  by_cases h : 3 < x
  · exact Or.inr h
  · left
    rcases (show x = 0 ∨ x = 1 ∨ x = 2 ∨ x = 3 by omega) with rfl | rfl | rfl | rfl <;> decide
theorem dcs_5 (x : Nat) : dcs x 5 = 0 := by unfold dcs; split <;> rfl
theorem dcs_6 (x : Nat) : dcs x 6 = 0 := by unfold dcs; split <;> rfl
theorem dcs_2 (x : Nat) : dcs x 2 = 0 := by unfold dcs; split <;> rfl
theorem dcs_3 (x : Nat) : dcs x 3 = 0 := by unfold dcs; split <;> rfl
/-- the counts of all stripes' destaging -/
theorem da_cd {lat : Nat → Int32} {u u' : Mem} (hl : ∀ k, k < 12 → LI lat u k) (hm : ∀ b, b < 64 → mi u' b = mi u b) (h : ∀ j, u' 10 j = u 10 j + nI (sm (fun q => dcs (Dn u (nI q)) j) 0 16)) : Cd u u' := by
  have hD : ∀ q, q < 16 → Dn u (nI q) ≤ 3 := fun q hq => Dn_3 hq hl
  refine ⟨fun j => sm (fun q => dcs (Dn u (nI q)) j) 0 16, fun i _ => ⟨h i, ?_⟩, ?_, ?_, ?_⟩
  · have := sm_le (f := fun q => dcs (Dn u (nI q)) i) (g := fun _ => 4) 16 0 (fun k _ hk => dcs_4 (hD k (by omega)))
    rw [sm_con] at this
    show sm (fun q => dcs (Dn u (nI q)) i) 0 16 ≤ 100
    omega
  · show sm (fun q => dcs (Dn u (nI q)) 5) 0 16 ≤ _
    rw [show (fun q => dcs (Dn u (nI q)) 5) = fun _ => 0 from funext fun q => dcs_5 _, sm_zero]
    exact Nat.zero_le _
  · show sm (fun q => dcs (Dn u (nI q)) 8) 0 16 ≤ 3 * sm (fun q => dcs (Dn u (nI q)) 7) 0 16
    rw [← sm_mul]
    exact sm_le 16 0 (fun k _ hk => (dcs_8 (x := Dn u (nI k))).resolve_right (by have := hD k (by omega); omega))
  · rw [Mi_c hm]
    exact Nat.le_add_right _ _
theorem can_e {u : Mem} (h : Bits u) : pX1_canDestage u = some (b2 (decide (u 6 1 = 1 ∧ u 0 3 = 1))) := by
  unfold pX1_canDestage pX1_canDestage_21 pX1_canDestage_22
  rcases h.2 with e | e
  · rw [e]; rfl
  · rw [e, if_neg (by decide)]
    rcases h.1 with e | e
    · rw [e]; rfl
    · rw [e]; rfl
/-- another charge -/
theorem ch_core {N : Nat} {lat : Nat → Int32} {u : Mem} (h : Core N lat u) {c : Nat} (hc : ∀ L, u 0 1 = nI L → L ≤ 100 → c ≤ L) (h0 : c = 0 → ∀ k, k < 12 → u 1 k = -1) : Core N lat (mset u 0 2 (nI c)) := by
  obtain ⟨c1, ⟨L, c', l1, l2, l3, l4, l5, l6⟩, c3, c4, c5, c6⟩ := h
  exact ⟨c1, ⟨L, c, l1, l2, hc L l4 l2, l4, rfl, h0⟩, c3, c4, c5, c6⟩
/-- every line emptied -/
theorem em_p : ∀ (d i n : Nat) (y : Int32) (u : Mem), i + d = 12 → d < n → ∃ u' : Mem, pX2_drain_30 y n (nI i) u = some (y, u') ∧ (∀ k, k < 12 → i ≤ k → u' 1 k = -1 ∧ u' 5 k = 0) ∧ (∀ k, k < i → u' 1 k = u 1 k ∧ u' 5 k = u 5 k) ∧ ∀ K, ¬ K = 1 → ¬ K = 5 → u' K = u K := by
  intro d
  induction d with
  | zero =>
    intro i n y u hi hn
    obtain ⟨p, rfl⟩ : ∃ p, n = p + 1 := ⟨n - 1, by omega⟩
    obtain rfl : i = 12 := by omega
    refine ⟨u, ?_, fun k h1 h2 => by omega, fun k _ => ⟨rfl, rfl⟩, fun K _ _ => rfl⟩
    show pX2_drain_30b y _ (nI 12) u = _
    unfold pX2_drain_30b
    rw [if_pos at12]
  | succ d ih =>
    intro i n y u hi hn
    obtain ⟨p, rfl⟩ : ∃ p, n = p + 1 := ⟨n - 1, by omega⟩
    have hi2 : i < 12 := by omega
    have v1 : ∀ k, mset (mset u 1 i (-1)) 5 i 0 1 k = if k = i then -1 else u 1 k := fun k => by rw [mset_ne (by decide), mset_at, if_pos rfl]
    have v5 : ∀ k, mset (mset u 1 i (-1)) 5 i 0 5 k = if k = i then 0 else u 5 k := fun k => by rw [mset_at, if_pos rfl, mset_ne (by decide)]
    obtain ⟨u', g1, g2, g3, g4⟩ := ih (i + 1) p y (mset (mset u 1 i (-1)) 5 i 0) (by omega) (by omega)
    refine ⟨u', ?_, fun k k1 k2 => ?_, fun k k1 => ?_, fun K K1 K2 => ?_⟩
    · show pX2_drain_30b y _ (nI i) u = _
      unfold pX2_drain_30b
      rw [if_neg (ge12 hi2), empty_u hi2, ob_some, nI_1]
      exact g1
    · by_cases e : k = i
      · subst e
        have := g3 k (by omega)
        rw [v1, v5, if_pos rfl, if_pos rfl] at this
        exact this
      · exact g2 k k1 (by omega)
    · have := g3 k (by omega)
      rw [v1, v5, if_neg (by omega), if_neg (by omega)] at this
      exact this
    · rw [g4 K K1 K2, mset_ne K2, mset_ne K1]
/-- a tick without power from outside -/
theorem dr_r {N c : Nat} {lat : Nat → Int32} {u : Mem} (h : Core N lat u) (hc : u 0 2 = nI c) (hcl : c ≤ 100) :
    ∃ (y : Nat) (u' : Mem), pX2_drain u = some (nI y, u') ∧ Core N lat u' ∧ u' 0 2 = nI (c - 1) ∧ u' 0 3 = u 0 3 ∧ u' 6 = u 6 ∧ u' 10 = u 10 ∧ (y = if c ≤ 1 then Dt u else 0) ∧ Mi' u' ≤ Mi' u + y ∧ (2 ≤ c → u' 1 = u 1 ∧ u' 5 = u 5) := by
  obtain ⟨L, c', l1, l2, l3, l4, l5, l6⟩ := id h.2.1
  have e : c' = c := nI_inj (by omega) (by omega) (l5.symm.trans hc)
  subst e
  unfold pX2_drain
  have e1 : (if u 0 2 - 1 < 0 then (0 : Int32) else u 0 2 - 1) = nI (c' - 1) := by
    rw [hc]
    rcases Nat.eq_zero_or_pos c' with e | e
    · subst e; decide
    · rw [show nI c' - 1 = nI (c' - 1) from pk_sub (b := 1) e, if_neg (nI_pos (by omega))]
  rw [e1, pf_e, ob_some]
  have e2 : mset u 0 2 (nI (c' - 1)) 0 2 = nI (c' - 1) := by rw [mset_at, if_pos rfl, if_pos rfl]
  rw [e2]
  by_cases c1 : c' ≤ 1
  · rw [show c' - 1 = 0 by omega, if_pos (show nI 0 ≤ 0 by decide), dirtyLines_e, ob_some]
    have hD : Dt (mset u 0 2 (nI 0)) = Dt u := rfl
    rw [hD]
    obtain ⟨u', g1, g2, -, g4⟩ := em_p 12 0 FU (nI (Dt u)) (mset u 0 2 (nI 0)) rfl (by decide)
    have g1 : pX2_drain_30 (nI (Dt u)) FU 0 (mset u 0 2 (nI 0)) = some (nI (Dt u), u') := g1
    have r0 : u' 0 = mset u 0 2 (nI 0) 0 := g4 0 (by decide) (by decide)
    have r6 : u' 6 = u 6 := g4 6 (by decide) (by decide)
    have r8 : u' 8 = u 8 := g4 8 (by decide) (by decide)
    have r9 : u' 9 = u 9 := g4 9 (by decide) (by decide)
    have r7 : u' 7 = u 7 := g4 7 (by decide) (by decide)
    have r10 : u' 10 = u 10 := g4 10 (by decide) (by decide)
    have hem : ∀ k, k < 12 → u' 1 k = -1 ∧ u' 5 k = 0 := fun k hk => g2 k hk (Nat.zero_le _)
    refine ⟨Dt u, u', g1, ⟨?_, ?_, ?_, fun b hb => ?_, fun k hk => Or.inl (hem k hk), fun k k' hk _ hn => absurd (hem k hk).1 hn⟩, ?_, ?_, r6, r10, by rw [if_pos c1], ?_, fun q => by omega⟩
    · unfold Bits; rw [r0, r6]; exact h.1
    · refine ⟨L, 0, l1, l2, Nat.zero_le _, ?_, ?_, fun _ k hk => (hem k hk).1⟩
      · rw [r0]; exact l4
      · rw [r0, mset_at, if_pos rfl, if_pos rfl]
    · unfold Nx; rw [r0, r6]; exact h.2.2.1
    · unfold BI; rw [r8, r9, r6, r7]; exact h.2.2.2.1 b hb
    · rw [r0, mset_at, if_pos rfl, if_pos rfl]
    · rw [r0]; rfl
    · refine cover (fun b hb e => ?_)
      unfold mi at e
      rw [r8, r9] at e
      have e := (@of_decide_eq_true _ (Classical.propDecidable _) e).1
      by_cases q : mi u b = true
      · exact Or.inl q
      · right
        unfold mi at q
        have q := fun h => q (@decide_eq_true _ (Classical.propDecidable _) h)
        have q2 : ∃ k, k < 12 ∧ u 1 k = nI b ∧ u 3 k = u 9 b := by
          refine Classical.byContradiction fun q3 => q ⟨e, fun k hk q4 => q3 ⟨k, hk, q4⟩⟩
        obtain ⟨k, hk, q3, q4⟩ := q2
        have B := LB.of (h.2.2.2.2.1 k hk) hb q3
        refine ⟨k, hk, decide_eq_true fun h5 => e (B.2.2.2.2.2.2.2 h5), q3⟩
  · rw [if_neg (nI_nle (by omega) (by omega))]
    refine ⟨0, _, rfl, ch_core h (fun L' q _ => ?_) (fun q => by omega), e2, rfl, rfl, rfl, by rw [if_neg c1], ?_, fun _ => ⟨rfl, rfl⟩⟩
    · have := nI_inj (by omega) (by omega) (l4.symm.trans q); omega
    · exact Nat.le_refl _
/-- the ticks of a pass, with power from outside -/
theorem up_p {N x : Nat} {lat : Nat → Int32} (hx : x < 2 ^ 20) : ∀ (d i n c : Nat) (u : Mem), i + d = x → d < n → Core N lat u → u 6 1 = 1 → u 0 3 = 1 → u 0 2 = nI c → c ≤ 100 →
    ∃ (c' : Nat) (u' : Mem), pX1_letPass_2 (nI x) n (nI i) u = some u' ∧ Core N lat u' ∧ (∀ b, mi u' b = mi u b) ∧ u' 10 = u 10 ∧ u' 0 3 = 1 ∧ u' 6 = u 6 ∧ u' 0 2 = nI c' ∧ c ≤ c' ∧ c' ≤ c + 2 * d ∧ c' ≤ 100 := by
  intro d
  induction d with
  | zero =>
    intro i n c u hi hn h hon hin hc hcl
    obtain ⟨p, rfl⟩ : ∃ p, n = p + 1 := ⟨n - 1, by omega⟩
    obtain rfl : i = x := by omega
    refine ⟨c, u, ?_, h, fun b => rfl, rfl, hin, rfl, hc, Nat.le_refl _, by omega, hcl⟩
    show pX1_letPass_2b (nI i) _ (nI i) u = _
    unfold pX1_letPass_2b
    rw [if_pos (Int32.le_refl _)]
  | succ d ih =>
    intro i n c u hi hn h hon hin hc hcl
    obtain ⟨p, rfl⟩ : ∃ p, n = p + 1 := ⟨n - 1, by omega⟩
    obtain ⟨L, c0, l1, l2, l3, l4, l5, l6⟩ := id h.2.1
    have e := nI_inj (by omega) (by omega) (l5.symm.trans hc)
    subst e
    have hlt : ¬ nI x ≤ nI i := nI_ge (by omega) (by omega)
    have e1 : pX1_letPass_2 (nI x) (p + 1) (nI i) u = pX1_letPass_2 (nI x) p (nI (i + 1)) (mset u 0 2 (nI (if L < c0 + 2 then L else c0 + 2))) := by
      show pX1_letPass_2b (nI x) _ (nI i) u = _
      unfold pX1_letPass_2b pX1_letPass_41 pX2_load
      rw [if_neg hlt, can_e h.1, ob_some, decide_eq_true ⟨hon, hin⟩, if_neg (show ¬ b2 true = 0 by decide), l4, l5, pf_e, ob_some, ob_some, nI_1]
      rw [show nI c0 + 2 = nI (c0 + 2) from nI_add c0 2]
      by_cases q : L < c0 + 2
      · rw [if_pos (nI_lt q (by omega)), if_pos q]
      · rw [if_neg (nI_nlt (by omega) (by omega)), if_neg q]
    rw [e1]
    have hk : c0 ≤ (if L < c0 + 2 then L else c0 + 2) ∧ (if L < c0 + 2 then L else c0 + 2) ≤ c0 + 2 ∧ (if L < c0 + 2 then L else c0 + 2) ≤ L := by split <;> omega
    obtain ⟨k1, k2, k3⟩ := hk
    generalize (if L < c0 + 2 then L else c0 + 2) = c1 at k1 k2 k3
    have C1 : Core N lat (mset u 0 2 (nI c1)) := ch_core h (fun L' q _ => by
      have := nI_inj (by omega) (by omega) (l4.symm.trans q); omega) (fun q => l6 (by omega))
    obtain ⟨c2, u2, g1, g2, g3, g4, g5, g6, g7, g8, g9, g10⟩ := ih (i + 1) p c1 (mset u 0 2 (nI c1)) (by omega) (by omega) C1 hon (by rw [mset_at, if_pos rfl, if_neg (by decide)]; exact hin) (by rw [mset_at, if_pos rfl, if_pos rfl]) (by omega)
    exact ⟨c2, u2, g1, g2, fun b => (g3 b).trans rfl, g4.trans rfl, g5, g6.trans rfl, g7, by omega, by omega, g10⟩
/-- what a pass of d ticks loses -/
def los (u : Mem) (c d : Nat) : Nat := if 0 < c ∧ c ≤ d then Dt u else 0
/-- the ticks of a pass, without -/
theorem dn_p {N x : Nat} {lat : Nat → Int32} (hx : x < 2 ^ 20) : ∀ (d i n c : Nat) (u : Mem), i + d = x → d < n → Core N lat u → ¬ (u 6 1 = 1 ∧ u 0 3 = 1) → u 0 2 = nI c → c ≤ 100 →
    ∃ u' : Mem, pX1_letPass_2 (nI x) n (nI i) u = some u' ∧ Core N lat u' ∧ Mi' u' ≤ Mi' u + los u c d ∧ (∀ j, u' 10 j = u 10 j + nI (if j = 6 then los u c d else 0)) ∧ u' 0 3 = u 0 3 ∧ u' 6 = u 6 ∧ u' 0 2 = nI (c - d) := by
  intro d
  induction d with
  | zero =>
    intro i n c u hi hn h hnr hc hcl
    obtain ⟨p, rfl⟩ : ∃ p, n = p + 1 := ⟨n - 1, by omega⟩
    obtain rfl : i = x := by omega
    have z : los u c 0 = 0 := by unfold los; rw [if_neg (by omega)]
    refine ⟨u, ?_, h, Nat.le_add_right _ _, fun j => ?_, rfl, rfl, hc⟩
    · show pX1_letPass_2b (nI i) _ (nI i) u = _
      unfold pX1_letPass_2b
      rw [if_pos (Int32.le_refl _)]
    · rw [z]; split <;> exact (Int32.add_zero _).symm
  | succ d ih =>
    intro i n c u hi hn h hnr hc hcl
    obtain ⟨p, rfl⟩ : ∃ p, n = p + 1 := ⟨n - 1, by omega⟩
    have hlt : ¬ nI x ≤ nI i := nI_ge (by omega) (by omega)
    obtain ⟨y, v, v1, v2, v3, v4, v5, v6, v7, v8, v9⟩ := dr_r h hc hcl
    have e1 : pX1_letPass_2 (nI x) (p + 1) (nI i) u = pX1_letPass_2 (nI x) p (nI (i + 1)) (ac v 6 (nI y)) := by
      show pX1_letPass_2b (nI x) _ (nI i) u = _
      unfold pX1_letPass_2b pX1_letPass_41
      rw [if_neg hlt, can_e h.1, ob_some, decide_eq_false hnr, if_pos (show b2 false = 0 from rfl), ldc6, ob_some, v1, bd2_some, stc6, ob_some, nI_1]
      unfold ac
      rw [v6]
    rw [e1]
    have hnr' : ¬ (ac v 6 (nI y) 6 1 = 1 ∧ ac v 6 (nI y) 0 3 = 1) := by
      rw [show ac v 6 (nI y) 6 = v 6 from rfl, show ac v 6 (nI y) 0 = v 0 from rfl, v5, v4]; exact hnr
    obtain ⟨u2, g1, g2, g3, g4, g5, g6, g7⟩ := ih (i + 1) p (c - 1) (ac v 6 (nI y)) (by omega) (by omega) (core_ac v2 6 _) hnr' v3 (by omega)
    have hM : Mi' (ac v 6 (nI y)) = Mi' v := by unfold Mi'; rw [mi_ac]
    have hs : y + los (ac v 6 (nI y)) (c - 1) d = los u c (d + 1) := by
      unfold los
      rw [v7]
      by_cases q : c ≤ 1
      · rw [if_pos q, if_neg (show ¬ (0 < c - 1 ∧ c - 1 ≤ d) by omega)]
        by_cases q2 : 0 < c
        · rw [if_pos ⟨q2, by omega⟩]; rfl
        · rw [if_neg (fun w => q2 w.1)]
          -- the charge is 0: every line is empty
          obtain ⟨L, c0, l1, l2, l3, l4, l5, l6⟩ := id h.2.1
          have e := nI_inj (by omega) (by omega) (l5.symm.trans hc)
          have : Dt u = 0 := rc_0 12 0 (fun k _ hk => by
            rcases h.2.2.2.2.1 k (by omega) with w | ⟨b, B⟩
            · exact decide_eq_false (not_not_intro w.2)
            · exact absurd (l6 (by omega) k (by omega)) B.ne)
          omega
      · rw [if_neg q]
        have eD : Dt (ac v 6 (nI y)) = Dt u := by
          show rc (dy (ac v 6 (nI y))) 0 12 = rc (dy u) 0 12
          refine rc_congr 12 0 (fun k _ _ => ?_)
          unfold dy
          rw [show ac v 6 (nI y) 5 = v 5 from rfl, (v9 (by omega)).2]
        rw [← v7, eD]
        rw [v7, if_neg q]
        by_cases q2 : c ≤ d + 1
        · rw [if_pos ⟨by omega, by omega⟩, if_pos ⟨by omega, q2⟩, Nat.zero_add]
        · rw [if_neg (by omega), if_neg (by omega)]
    refine ⟨u2, g1, g2, by rw [← hs]; rw [hM] at g3; omega, fun j => ?_, g5.trans v4, g6.trans v5, by rw [g7]; congr 1; omega⟩
    rw [g4 j, ac_at, v6]
    by_cases e : j = 6
    · subst e
      rw [if_pos rfl, if_pos rfl, if_pos rfl, ← hs, Int32.add_assoc, nI_add]
    · rw [if_neg e, if_neg e, if_neg e]
/-- a pass -/
theorem pass_r {N x : Nat} {lat : Nat → Int32} {u : Mem} (hx : x < 900) (h : Core N lat u) : ∃ (c c' : Nat) (u' : Mem), pX1_letPass u (nI x) = some u' ∧ u 0 2 = nI c ∧ c ≤ 100 ∧ u' 0 2 = nI c' ∧ c' ≤ 100 ∧ Core N lat u' ∧ u' 0 3 = u 0 3 ∧ u' 6 = u 6 ∧ ((u 6 1 = 1 ∧ u 0 3 = 1 → c ≤ c' ∧ c' ≤ c + 2 * x) ∧ (¬ (u 6 1 = 1 ∧ u 0 3 = 1) → c' = c - x)) ∧ Mi' u' ≤ Mi' u + (if u 6 1 = 1 ∧ u 0 3 = 1 then 0 else los u c x) ∧ ∀ j, u' 10 j = u 10 j + nI (if j = 6 then (if u 6 1 = 1 ∧ u 0 3 = 1 then 0 else los u c x) else 0) := by
  obtain ⟨L, c, l1, l2, l3, l4, l5, l6⟩ := id h.2.1
  by_cases r : u 6 1 = 1 ∧ u 0 3 = 1
  · obtain ⟨c', u', g1, g2, g3, g4, g5, g6, g7, g8, g9, g10⟩ := up_p (x := x) (by omega) x 0 FU c u (Nat.zero_add x) (by unfold FU; omega) h r.1 r.2 l5 (by omega)
    refine ⟨c, c', u', g1, l5, by omega, g7, g10, g2, g5.trans r.2.symm, g6, ⟨fun _ => ⟨g8, g9⟩, fun q => absurd r q⟩, ?_, fun j => ?_⟩
    · rw [if_pos r, Mi_c (fun b _ => g3 b)]; exact Nat.le_refl _
    · rw [if_pos r, g4]; split <;> exact (Int32.add_zero _).symm
  · obtain ⟨u', g1, g2, g3, g4, g5, g6, g7⟩ := dn_p (x := x) (by omega) x 0 FU c u (Nat.zero_add x) (by unfold FU; omega) h r l5 (by omega)
    refine ⟨c, c - x, u', g1, l5, by omega, g7, by omega, g2, g5, g6, ⟨fun q => absurd q r, fun _ => rfl⟩, ?_, fun j => ?_⟩
    · rw [if_neg r]; exact g3
    · rw [if_neg r]; exact g4 j
theorem los_12 (u : Mem) (c d : Nat) : los u c d ≤ 12 := by
  unfold los
  split
  · exact Dt_12 u
  · exact Nat.zero_le _
/-- counts that stay, but lost lines -/
theorem lost_cd {u u' : Mem} {y : Nat} (hy : y ≤ 12) (hm : Mi' u' ≤ Mi' u + y) (h : ∀ j, u' 10 j = u 10 j + nI (if j = 6 then y else 0)) : Cd u u' := by
  refine ⟨fun j => if j = 6 then y else 0, fun i _ => ⟨h i, ?_⟩, Nat.le_refl _, Nat.zero_le _, hm⟩
  show (if i = 6 then y else 0) ≤ 100
  split <;> omega
theorem same_cd {u u' : Mem} (hm : Mi' u' = Mi' u) (h : u' 10 = u 10) : Cd u u' :=
  lost_cd (y := 0) (by decide) (by omega) (fun j => by rw [h]; split <;> exact (Int32.add_zero _).symm)
/-- a new limit -/
theorem limit_r {N x : Nat} {lat : Nat → Int32} {u : Mem} (h1 : 1 ≤ x) (hx : x ≤ 100) (h : Core N lat u) : ∃ (c : Nat) (u' : Mem), pX2_limitTo u (nI x) = some u' ∧ u 0 2 = nI c ∧ c ≤ 100 ∧ u' 0 2 = nI (min c x) ∧ Core N lat u' ∧ Cd u u' ∧ u' 10 = u 10 := by
  obtain ⟨c1, ⟨L, c, l1, l2, l3, l4, l5, l6⟩, c3, c4, c5, c6⟩ := h
  have e : pX2_limitTo u (nI x) = some (mset (mset u 0 1 (nI x)) 0 2 (nI (min c x))) := by
    unfold pX2_limitTo
    rw [pf_e, ob_some, pf_e, ob_some]
    rw [show mset u 0 1 (nI x) 0 1 = nI x by rw [mset_at, if_pos rfl, if_pos rfl], show mset u 0 1 (nI x) 0 2 = nI c by rw [mset_at, if_pos rfl, if_neg (by decide)]; exact l5]
    by_cases q : x < c
    · rw [if_pos (nI_lt q (by omega)), show min c x = x by omega]
    · rw [if_neg (nI_nlt (by omega) (by omega)), show min c x = c by omega]
  refine ⟨c, _, e, l5, by omega, by rw [mset_at, if_pos rfl, if_pos rfl], ⟨c1, ⟨x, min c x, h1, hx, by omega, ?_, ?_, fun q => l6 (by omega)⟩, c3, c4, c5, c6⟩, same_cd rfl rfl, rfl⟩
  · rw [mset_at, if_pos rfl, if_neg (by decide), mset_at, if_pos rfl, if_pos rfl]
  · rw [mset_at, if_pos rfl, if_pos rfl]
theorem on_core {N : Nat} {lat : Nat → Int32} {u : Mem} (h : Core N lat u) {x : Int32} (hx : x = 0 ∨ x = 1) : Core N lat (mset u 6 1 x) := ⟨⟨h.1.1, hx⟩, h.2⟩
/-- the power switched -/
theorem power_r {N : Nat} {lat : Nat → Int32} {u : Mem} (h : Core N lat u) {x : Int32} (hx : x = 0 ∨ x = 1) : ∃ (r : Nat) (u' : Mem), pX1_switchPower u x = some (nI r, u') ∧ (r = if x = 1 ∧ u 6 1 = 0 ∧ u 0 3 = 1 ∧ u 0 2 < 20 then Dt u else 0) ∧ r ≤ 12 ∧ Core N lat u' ∧ u' 6 1 = x ∧ Cd u u' ∧ u' 10 2 = u 10 2 ∧ u' 10 3 = u 10 3 := by
  have C1 := on_core h hx
  have nop : ∃ u' : Mem, (some (0, mset u 6 1 x) : Option (Int32 × Mem)) = some (nI 0, u') ∧ Core N lat u' ∧ u' 6 1 = x ∧ Cd u u' ∧ u' 10 2 = u 10 2 ∧ u' 10 3 = u 10 3 := ⟨_, rfl, C1, by rw [mset_at, if_pos rfl, if_pos rfl], same_cd rfl rfl, rfl, rfl⟩
  unfold pX1_switchPower pX1_switchPower_15 pX1_switchPower_16 pX1_switchPower_53
  rw [pz_e (z01 hx)]
  simp only [ob_some]
  by_cases c : x = 1 ∧ u 6 1 = 0 ∧ u 0 3 = 1 ∧ u 0 2 < 20
  · obtain ⟨k1, k2, k3, k4⟩ := id c
    subst k1
    rw [if_neg (by decide), if_pos k2, if_neg (by decide), show mset u 6 1 1 0 3 = u 0 3 from rfl, k3, if_neg (by decide), show mset u 6 1 1 0 2 = u 0 2 from rfl, if_neg (Int32.not_le.mpr k4)]
    obtain ⟨u', g1, g2, g3, g4, g5, g6⟩ := da_r C1 (show mset u 6 1 1 0 3 = 1 from k3)
    rw [g1, bd2_some]
    refine ⟨Dt u, u', rfl, by rw [if_pos c], Dt_12 u, g2, ?_, ?_, ?_, ?_⟩
    · rw [g4.2.2.2.2.2.1, mset_at, if_pos rfl, if_pos rfl]
    · exact da_cd (u := mset u 6 1 1) C1.2.2.2.2.1 g3 g6
    · rw [g6, show (fun q => dcs (Dn (mset u 6 1 1) (nI q)) 2) = fun _ => 0 from funext fun q => dcs_2 _, sm_zero]; exact Int32.add_zero _
    · rw [g6, show (fun q => dcs (Dn (mset u 6 1 1) (nI q)) 3) = fun _ => 0 from funext fun q => dcs_3 _, sm_zero]; exact Int32.add_zero _
  · obtain ⟨u', g1, g2, g3, g4⟩ := nop
    refine ⟨0, u', ?_, by rw [if_neg c], by decide, g2, g3, g4⟩
    rw [← g1]
    rcases hx with rfl | rfl
    · rw [if_pos rfl, if_pos rfl]
    · rw [if_neg (by decide)]
      by_cases q1 : u 6 1 = 0
      · rw [if_pos q1, if_neg (by decide), show mset u 6 1 1 0 3 = u 0 3 from rfl, show mset u 6 1 1 0 2 = u 0 2 from rfl]
        rcases h.1.1 with e | e
        · rw [e, if_pos rfl]
        · rw [e, if_neg (by decide), if_pos (Int32.not_lt.mp fun q => c ⟨rfl, q1, e, q⟩)]
      · rw [if_neg q1, if_pos rfl]
/-- lines that are not empty -/
def us (u : Mem) (k : Nat) : Bool := decide (¬ u 1 k = -1)
def Us (u : Mem) : Nat := rc (us u) 0 12
theorem us_p {u : Mem} : ∀ (d i n c : Nat), i + d = 12 → d < n → pX2_usedLines_4 u n (nI c) (nI i) = some (nI (c + rc (us u) i d)) := by
  intro d
  induction d with
  | zero =>
    intro i n c hi hn
    obtain ⟨q, rfl⟩ : ∃ q, n = q + 1 := ⟨n - 1, by omega⟩
    obtain rfl : i = 12 := by omega
    show pX2_usedLines_4b u _ (nI c) (nI 12) = _
    unfold pX2_usedLines_4b
    rw [if_pos at12]; rfl
  | succ d ih =>
    intro i n c hi hn
    obtain ⟨q, rfl⟩ : ∃ q, n = q + 1 := ⟨n - 1, by omega⟩
    have hi2 : i < 12 := by omega
    show pX2_usedLines_4b u _ (nI c) (nI i) = some (nI (c + ((us u i).toNat + rc (us u) (i + 1) d)))
    unfold pX2_usedLines_4b pX2_usedLines_23
    rw [if_neg (ge12 hi2), ld_n hi2 (by decide), ob_some]
    by_cases hz : u 1 i = -1
    · rw [if_pos hz, nI_1, ih (i + 1) q c (by omega) (by omega), show us u i = false from decide_eq_false (not_not_intro hz)]
      simp
    · rw [if_neg hz, nI_1, nI_1, ih (i + 1) q (c + 1) (by omega) (by omega), show us u i = true from decide_eq_true hz]
      simp [Nat.add_assoc]
theorem usedLines_e {u : Mem} : pX2_usedLines u = some (nI (Us u)) := by
  have := us_p (u := u) 12 0 FU 0 rfl (by decide)
  rw [Nat.zero_add] at this
  exact this
theorem Us_12 (u : Mem) : Us u ≤ 12 := rc_le 12 0
/-- a line emptied -/
def em (u : Mem) (i : Nat) : Mem := mset (mset u 1 i (-1)) 5 i 0
theorem em_1 (u : Mem) (i k : Nat) : em u i 1 k = if k = i then -1 else u 1 k := by unfold em; rw [mset_ne (by decide), mset_at, if_pos rfl]
theorem em_5 (u : Mem) (i k : Nat) : em u i 5 k = if k = i then 0 else u 5 k := by unfold em; rw [mset_at, if_pos rfl, mset_ne (by decide)]
theorem em_core {N : Nat} {lat : Nat → Int32} {u : Mem} {i : Nat} (h : Core N lat u) : Core N lat (em u i) := by
  obtain ⟨c1, ⟨L, c, l1, l2, l3, l4, l5, l6⟩, c3, c4, c5, c6⟩ := h
  refine ⟨c1, ⟨L, c, l1, l2, l3, l4, l5, fun e k hk => ?_⟩, c3, c4, fun k hk => ?_, fun a b ha hb hn e => ?_⟩
  · rw [em_1]; split
    · rfl
    · exact l6 e k hk
  · by_cases e : k = i
    · exact Or.inl ⟨by rw [em_1, if_pos e], by rw [em_5, if_pos e]⟩
    · rcases c5 k hk with q | ⟨b, B⟩
      · exact Or.inl ⟨by rw [em_1, if_neg e]; exact q.1, by rw [em_5, if_neg e]; exact q.2⟩
      · refine Or.inr ⟨b, B.1, by rw [em_1, if_neg e]; exact B.2.1, B.2.2.1, by rw [em_5, if_neg e]; exact B.2.2.2.1, B.2.2.2.2.1, B.2.2.2.2.2.1, B.2.2.2.2.2.2.1, fun q => ?_⟩
        rw [em_5, if_neg e] at q
        exact B.2.2.2.2.2.2.2 q
  · rw [em_1] at hn
    rw [em_1, em_1] at e
    by_cases ea : a = i
    · rw [if_pos ea] at hn; exact absurd rfl hn
    · rw [if_neg ea] at hn
      by_cases eb : b = i
      · rw [if_neg ea, if_pos eb] at e; exact absurd e hn
      · rw [if_neg ea, if_neg eb] at e
        exact c6 a b ha hb hn e
/-- a line that is the latest write -/
def Up (lat : Nat → Int32) (u : Mem) (k : Nat) : Prop := ∀ b, b < 64 → u 1 k = nI b → u 3 k = u 9 b ∧ u 2 k = lat b
def Kr (u u' : Mem) : Prop := u' 0 = u 0 ∧ u' 2 = u 2 ∧ u' 3 = u 3 ∧ u' 6 = u 6 ∧ u' 8 = u 8 ∧ u' 9 = u 9 ∧ u' 10 = u 10
theorem Kr.rf (u : Mem) : Kr u u := ⟨rfl, rfl, rfl, rfl, rfl, rfl, rfl⟩
theorem Kr.tr {u u1 u2 : Mem} (h : Kr u u1) (g : Kr u1 u2) : Kr u u2 := ⟨g.1.trans h.1, g.2.1.trans h.2.1, g.2.2.1.trans h.2.2.1, g.2.2.2.1.trans h.2.2.2.1, g.2.2.2.2.1.trans h.2.2.2.2.1, g.2.2.2.2.2.1.trans h.2.2.2.2.2.1, g.2.2.2.2.2.2.trans h.2.2.2.2.2.2⟩
theorem Kr.em (u : Mem) (i : Nat) : Kr u (em u i) := ⟨rfl, rfl, rfl, rfl, rfl, rfl, rfl⟩
theorem em_mi {u : Mem} {i b : Nat} (hb : b < 64) (h1 : u 1 i = nI b) (h3 : ¬ u 3 i = u 9 b) {x : Nat} (hx : x < 64) : mi (em u i) x = mi u x := by
  unfold mi
  refine decide_eq_decide.mpr ⟨fun h => ⟨h.1, fun k hk q => ?_⟩, fun h => ⟨h.1, fun k hk q => ?_⟩⟩
  · by_cases e : k = i
    · subst e
      have := nI_inj (by omega) (by omega) (h1.symm.trans q.1)
      subst this
      exact h3 q.2
    · exact h.2 k hk ⟨by rw [em_1, if_neg e]; exact q.1, q.2⟩
  · rw [em_1] at q
    by_cases e : k = i
    · rw [if_pos e] at q
      exact nI_m1 (show x < 2 ^ 31 by omega) q.1.symm
    · rw [if_neg e] at q
      exact h.2 k hk q
theorem eo_p {N : Nat} {lat : Nat → Int32} : ∀ (d i n c : Nat) (u : Mem), i + d = 12 → d < n → Core N lat u → u 0 3 = 0 →
    ∃ (r : Nat) (u' : Mem), pX1_emptyOutdatedLines_4 n (nI c) (nI i) (mset u 0 3 1) = some (nI (c + r), mset u' 0 3 1) ∧ r + rc (us u') i d = rc (us u) i d ∧ Core N lat u' ∧ Kr u u' ∧ (∀ k, k < i → u' 1 k = u 1 k) ∧ (∀ k, i ≤ k → k < 12 → Up lat u' k) ∧ ∀ b, b < 64 → mi u' b = mi u b := by
  intro d
  induction d with
  | zero =>
    intro i n c u hi hn h h0
    obtain ⟨p, rfl⟩ : ∃ p, n = p + 1 := ⟨n - 1, by omega⟩
    obtain rfl : i = 12 := by omega
    refine ⟨0, u, ?_, by rw [Nat.zero_add], h, Kr.rf u, fun _ _ => rfl, fun k h1 h2 => by omega, fun _ _ => rfl⟩
    show pX1_emptyOutdatedLines_4b _ (nI c) (nI 12) _ = _
    unfold pX1_emptyOutdatedLines_4b
    rw [if_pos at12]; rfl
  | succ d ih =>
    intro i n c u hi hn h h0
    obtain ⟨p, rfl⟩ : ∃ p, n = p + 1 := ⟨n - 1, by omega⟩
    have hi2 : i < 12 := by omega
    have skip : Up lat u i → ∃ (r : Nat) (u' : Mem), pX1_emptyOutdatedLines_56 (pX1_emptyOutdatedLines_4 p) (nI c) (nI i) (mset u 0 3 1) = some (nI (c + r), mset u' 0 3 1) ∧ r + rc (us u') i (d + 1) = rc (us u) i (d + 1) ∧ Core N lat u' ∧ Kr u u' ∧ (∀ k, k < i → u' 1 k = u 1 k) ∧ (∀ k, i ≤ k → k < 12 → Up lat u' k) ∧ ∀ b, b < 64 → mi u' b = mi u b := by
      intro hU
      unfold pX1_emptyOutdatedLines_56
      rw [nI_1]
      obtain ⟨r, u', g1, g2, g3, g4, g5, g6, g7⟩ := ih (i + 1) p c u (by omega) (by omega) h h0
      have ei := g5 i (by omega)
      refine ⟨r, u', g1, ?_, g3, g4, fun k hk => g5 k (by omega), fun k k1 k2 => ?_, g7⟩
      · show r + ((us u' i).toNat + rc (us u') (i + 1) d) = (us u i).toNat + rc (us u) (i + 1) d
        rw [show us u' i = us u i by unfold us; rw [ei]]
        omega
      · by_cases e : k = i
        · subst e
          intro b hb q
          rw [ei] at q
          rw [g4.2.2.1, g4.2.2.2.2.2.1, g4.2.1]
          exact hU b hb q
        · exact g6 k (by omega) k2
    show ∃ (r : Nat) (u' : Mem), pX1_emptyOutdatedLines_4b (pX1_emptyOutdatedLines_4 p) (nI c) (nI i) (mset u 0 3 1) = _ ∧ _
    unfold pX1_emptyOutdatedLines_4b
    rw [if_neg (ge12 hi2), ld_n hi2 (by decide), ob_some, show mset u 0 3 1 1 i = u 1 i from rfl]
    rcases h.2.2.2.2.1 i hi2 with ⟨a1, a2⟩ | ⟨b, B⟩
    · rw [a1, isB_m1, ob_some, if_pos rfl]
      exact skip (fun b hb q => absurd (a1.symm.trans q).symm (nI_m1 (by omega)))
    · rw [B.2.1, isB_n B.1, ob_some, if_neg (by decide)]
      simp only [ld_n hi2 (by decide : (12 : Nat) < 2 ^ 31), ld_n B.1 (by decide : (64 : Nat) < 2 ^ 31), ob_some]
      rw [show mset u 0 3 1 3 i = u 3 i from rfl, show mset u 0 3 1 8 b = u 8 b from rfl]
      have hB := h.2.2.2.1 b B.1
      by_cases c2 : u 8 b ≤ u 3 i
      · rw [if_pos c2]
        refine skip (fun b' hb' q => ?_)
        have := nI_inj (by omega) (by have := B.1; omega) (q.symm.trans B.2.1)
        subst this
        rcases B.2.2.2.2.2.2.1 with w | ⟨w1, w2, w3⟩
        · exact w
        · rw [w2] at c2
          exact absurd w3 (Int32.not_lt.mpr c2)
      · rw [if_neg c2]
        have w3 : ¬ u 3 i = u 9 b := fun q => c2 (by rw [q]; exact hB.1)
        rw [empty_u hi2, ob_some]
        unfold pX1_emptyOutdatedLines_56
        rw [nI_1, nI_1, show mset (mset (mset u 0 3 1) 1 i (-1)) 5 i 0 = mset (em u i) 0 3 1 by unfold em; rw [mset_comm (k := 0) (k' := 1) (by decide), mset_comm (k := 0) (k' := 5) (by decide)]]
        obtain ⟨r, u', g1, g2, g3, g4, g5, g6, g7⟩ := ih (i + 1) p (c + 1) (em u i) (by omega) (by omega) (em_core h) h0
        have ei : u' 1 i = -1 := by rw [g5 i (by omega), em_1, if_pos rfl]
        refine ⟨r + 1, u', by rw [g1]; congr 3; omega, ?_, g3, (Kr.em u i).tr g4, fun k hk => ?_, fun k k1 k2 => ?_, fun x hx => (g7 x hx).trans (em_mi B.1 B.2.1 w3 hx)⟩
        · show r + 1 + ((us u' i).toNat + rc (us u') (i + 1) d) = (us u i).toNat + rc (us u) (i + 1) d
          have e1 : us u' i = false := decide_eq_false (not_not_intro ei)
          have e2 : us u i = true := decide_eq_true B.ne
          have e3 : rc (us (em u i)) (i + 1) d = rc (us u) (i + 1) d := rc_congr d (i + 1) (fun k k1 k2 => by unfold us; rw [em_1, if_neg (by omega)])
          rw [e1, e2, ← e3, ← g2]
          show r + 1 + (0 + rc (us u') (i + 1) d) = 1 + (r + rc (us u') (i + 1) d)
          omega
        · rw [g5 k (by omega), em_1, if_neg (by omega)]
        · by_cases e : k = i
          · subst e
            exact fun b' hb' q => absurd (ei.symm.trans q).symm (nI_m1 (by omega))
          · exact g6 k (by omega) k2
/-- the stick put in, every line up to date -/
theorem in_core {N : Nat} {lat : Nat → Int32} {u : Mem} (h : Core N lat u) {x : Int32} (hx : x = 0 ∨ x = 1) (hU : x = 1 → u 0 3 = 0 → ∀ k, k < 12 → Up lat u k) : Core N lat (mset u 0 3 x) := by
  obtain ⟨c1, c2, c3, c4, c5, c6⟩ := h
  refine ⟨⟨by rw [mset_at, if_pos rfl, if_pos rfl]; exact hx, c1.2⟩, c2, c3, c4, fun k hk => ?_, c6⟩
  rcases c5 k hk with q | ⟨b, B⟩
  · exact Or.inl q
  · refine Or.inr ⟨b, B.1, B.2.1, B.2.2.1, B.2.2.2.1, B.2.2.2.2.1, B.2.2.2.2.2.1, ?_, B.2.2.2.2.2.2.2⟩
    rw [mset_at, if_pos rfl, if_pos rfl]
    rcases B.2.2.2.2.2.2.1 with w | ⟨w1, w2, w3⟩
    · exact Or.inl w
    · rcases hx with rfl | rfl
      · exact Or.inr ⟨rfl, w2, w3⟩
      · exact Or.inl (hU rfl w1 k hk b B.1 B.2.1)
/-- the stick put in or taken out -/
theorem stick_r {N : Nat} {lat : Nat → Int32} {u : Mem} (h : Core N lat u) {x : Int32} (hx : x = 0 ∨ x = 1) : ∃ (r : Nat) (u' : Mem), pX1_placeStick u x = some (nI r, u') ∧ Core N lat u' ∧ u' 0 3 = x ∧ r + Us u' = Us u ∧ (x = 0 → r = 0) ∧ Cd u u' ∧ u' 10 2 = u 10 2 ∧ u' 10 3 = u 10 3 := by
  unfold pX1_placeStick pX1_placeStick_18 pX1_placeStick_19 pX1_placeStick_40
  rw [pz_e (z01 hx)]
  simp only [ob_some]
  have nop : (x = 1 → ¬ u 0 3 = 0) → ∃ (r : Nat) (u' : Mem), (some (0, mset u 0 3 x) : Option (Int32 × Mem)) = some (nI r, u') ∧ Core N lat u' ∧ u' 0 3 = x ∧ r + Us u' = Us u ∧ (x = 0 → r = 0) ∧ Cd u u' ∧ u' 10 2 = u 10 2 ∧ u' 10 3 = u 10 3 := fun hn =>
    ⟨0, _, rfl, in_core h hx (fun e e2 => absurd e2 (hn e)), by rw [mset_at, if_pos rfl, if_pos rfl], Nat.zero_add _, fun _ => rfl, same_cd rfl rfl, rfl, rfl⟩
  rcases hx with rfl | rfl
  · rw [if_pos rfl, if_pos rfl]
    exact nop (fun q => absurd q (by decide))
  · rw [if_neg (by decide)]
    by_cases c : u 0 3 = 0
    · rw [if_pos c, if_neg (by decide)]
      obtain ⟨r, u', g1, g2, g3, g4, g5, g6, g7⟩ := eo_p 12 0 FU 0 u rfl (by decide) h c
      rw [Nat.zero_add] at g1
      rw [show pX1_emptyOutdatedLines (mset u 0 3 1) = some (nI r, mset u' 0 3 1) from g1, bd2_some]
      refine ⟨r, _, rfl, in_core g3 (Or.inr rfl) (fun _ _ k hk => g6 k (Nat.zero_le _) hk), by rw [mset_at, if_pos rfl, if_pos rfl], g2, fun q => absurd q (by decide), same_cd (Mi_c (fun b hb => ?_)) g4.2.2.2.2.2.2, congrFun g4.2.2.2.2.2.2 2, congrFun g4.2.2.2.2.2.2 3⟩
      rw [← g7 b hb]
      rfl
    · rw [if_neg c, if_pos rfl]
      exact nop (fun _ => c)
