/-! COUNTING, TIME, THE LIMIT, THE POWER, THE STICK. -/
theorem rc_mono {f g : Nat → Bool} : ∀ (d i : Nat), (∀ k, i ≤ k → k < i + d → f k = true → g k = true) → rc f i d ≤ rc g i d := by
  intro d
  induction d with
  | zero => intro i _; exact Nat.le_refl _
  | succ d ih =>
    intro i h
    show (f i).toNat + rc f (i + 1) d ≤ (g i).toNat + rc g (i + 1) d
    have h1 := ih (i + 1) (fun k a b => h k (by omega) (by omega))
    have h2 : (f i).toNat ≤ (g i).toNat := by
      cases e : f i
      · exact Nat.zero_le _
      · rw [h i (Nat.le_refl _) (by omega) e]; exact Nat.le_refl _
    omega
/-- but one place alike: at most one more -/
theorem rc_one {f g : Nat → Bool} {b0 : Nat} : ∀ (d i : Nat), (∀ k, i ≤ k → k < i + d → ¬ k = b0 → f k = g k) → rc f i d ≤ rc g i d + 1 := by
  intro d
  induction d with
  | zero => intro i _; exact Nat.zero_le _
  | succ d ih =>
    intro i h
    show (f i).toNat + rc f (i + 1) d ≤ (g i).toNat + rc g (i + 1) d + 1
    by_cases e : i = b0
    · have h1 : rc f (i + 1) d = rc g (i + 1) d := rc_congr d (i + 1) (fun k a b => h k (by omega) (by omega) (by omega))
      have h2 := Bool.toNat_le (f i)
      omega
    · have h1 := ih (i + 1) (fun k a b c => h k (by omega) (by omega) c)
      rw [h i (Nat.le_refl _) (by omega) e]
      omega
/-- blocks that are covered by other blocks and by lines -/
theorem cover_p {Q : Nat → Bool} {u : Mem} : ∀ (d i : Nat) (P : Nat → Bool), (∀ b, b < 64 → P b = true → Q b = true ∨ ∃ k, i ≤ k ∧ k < i + d ∧ dy u k = true ∧ u 1 k = nI b) → rc P 0 64 ≤ rc Q 0 64 + rc (dy u) i d := by
  intro d
  induction d with
  | zero =>
    intro i P h
    refine Nat.le_trans (rc_mono 64 0 (fun b _ hb e => ?_)) (Nat.le_add_right _ _)
    rcases h b (by omega) e with q | ⟨k, k1, k2, -⟩
    · exact q
    · omega
  | succ d ih =>
    intro i P h
    show rc P 0 64 ≤ rc Q 0 64 + ((dy u i).toNat + rc (dy u) (i + 1) d)
    cases hd : dy u i
    · have := ih (i + 1) P (fun b hb e => (h b hb e).imp id (fun ⟨k, k1, k2, k3, k4⟩ => ⟨k, by
        by_cases q : k = i
        · subst q; rw [hd] at k3; cases k3
        · omega, by omega, k3, k4⟩))
      simpa using this
    · have h1 := ih (i + 1) (fun b => P b && !decide (u 1 i = nI b)) (fun b hb e => by
        simp only [Bool.and_eq_true, Bool.not_eq_true', decide_eq_false_iff_not] at e
        refine (h b hb e.1).imp id (fun ⟨k, k1, k2, k3, k4⟩ => ⟨k, ?_, by omega, k3, k4⟩)
        by_cases q : k = i
        · subst q; exact absurd k4 e.2
        · omega)
      have h2 : rc P 0 64 ≤ rc (fun b => P b && !decide (u 1 i = nI b)) 0 64 + 1 := by
        by_cases hex : ∃ b0, b0 < 64 ∧ u 1 i = nI b0
        · obtain ⟨b0, q1, q2⟩ := hex
          refine rc_one (b0 := b0) 64 0 (fun k _ hk e => ?_)
          show P k = (P k && !decide (u 1 i = nI k))
          rw [decide_eq_false (fun q => e (nI_inj (by omega) (by omega) (q.symm.trans q2)))]
          simp
        · refine Nat.le_trans (Nat.le_of_eq (rc_congr 64 0 (fun k _ hk => ?_))) (Nat.le_add_right _ _)
          show P k = (P k && !decide (u 1 i = nI k))
          rw [decide_eq_false (fun q => hex ⟨k, by omega, q⟩)]
          simp
      have h3 : Bool.toNat true = 1 := rfl
      omega
theorem cover {P Q : Nat → Bool} {u : Mem} (h : ∀ b, b < 64 → P b = true → Q b = true ∨ ∃ k, k < 12 ∧ dy u k = true ∧ u 1 k = nI b) : rc P 0 64 ≤ rc Q 0 64 + Dt u :=
  cover_p 12 0 P (fun b hb e => (h b hb e).imp id (fun ⟨k, k1, k2, k3⟩ => ⟨k, Nat.zero_le _, by omega, k2, k3⟩))
/-- how the counts go on -/
def Cd (u u' : Mem) : Prop := ∃ e : Nat → Nat, (∀ i, i < 9 → u' 10 i = u 10 i + nI (e i) ∧ e i ≤ 100) ∧ e 5 ≤ e 0 ∧ e 8 ≤ 3 * e 7 ∧ Mi' u' ≤ Mi' u + e 6
theorem Cn.step {N : Nat} {u u' : Mem} (h : Cn N u) (g : Cd u u') : Cn (N + 1) u' := by
  obtain ⟨c, c1, c2, c3, c4⟩ := h
  obtain ⟨e, e1, e2, e3, e4⟩ := g
  refine ⟨fun i => c i + e i, fun i hi => ⟨?_, ?_⟩, ?_, ?_, ?_⟩
  · rw [(e1 i hi).1, (c1 i hi).1, nI_add]
  · have := (e1 i hi).2; have := (c1 i hi).2; show c i + e i ≤ _; omega
  · show c 5 + e 5 ≤ c 0 + e 0; omega
  · show c 8 + e 8 ≤ 3 * (c 7 + e 7); omega
  · show Mi' u' ≤ c 6 + e 6; omega
theorem sm_le {f g : Nat → Nat} : ∀ (d i : Nat), (∀ k, i ≤ k → k < i + d → f k ≤ g k) → sm f i d ≤ sm g i d := by
  intro d
  induction d with
  | zero => intro i _; exact Nat.le_refl _
  | succ d ih =>
    intro i h
    show f i + sm f (i + 1) d ≤ g i + sm g (i + 1) d
    have := h i (Nat.le_refl _) (by omega)
    have := ih (i + 1) (fun k a b => h k (by omega) (by omega))
    omega
theorem sm_mul (c : Nat) (f : Nat → Nat) : ∀ (d i : Nat), sm (fun q => c * f q) i d = c * sm f i d := by
  intro d
  induction d with
  | zero => intro i; rfl
  | succ d ih =>
    intro i
    show c * f i + sm (fun q => c * f q) (i + 1) d = c * (f i + sm f (i + 1) d)
    rw [ih, Nat.mul_add]
theorem sm_con (c : Nat) : ∀ (d i : Nat), sm (fun _ => c) i d = c * d := by
  intro d
  induction d with
  | zero => intro i; rfl
  | succ d ih =>
    intro i
    show c + sm (fun _ => c) (i + 1) d = c * (d + 1)
    rw [ih, Nat.mul_succ, Nat.add_comm]
theorem dcs_4 {x i : Nat} (h : x ≤ 3) : dcs x i ≤ 4 := by
  unfold dcs rdN
  repeat' split
  all_goals omega
theorem dcs_8 {x : Nat} : dcs x 8 ≤ 3 * dcs x 7 ∨ 3 < x := by
  by_cases h : 3 < x
  · exact Or.inr h
  · left
    rcases (show x = 0 ∨ x = 1 ∨ x = 2 ∨ x = 3 by omega) with rfl | rfl | rfl | rfl <;> decide
theorem dcs_5 (x : Nat) : dcs x 5 = 0 := by unfold dcs; split <;> rfl
theorem dcs_6 (x : Nat) : dcs x 6 = 0 := by unfold dcs; split <;> rfl
theorem dcs_2 (x : Nat) : dcs x 2 = 0 := by unfold dcs; split <;> rfl
theorem dcs_3 (x : Nat) : dcs x 3 = 0 := by unfold dcs; split <;> rfl
/-- the counts of all stripes' destaging -/
theorem da_cd {lat : Nat → Int32} {u u' : Mem} (hl : ∀ k, k < 12 → LI lat u k) (hm : ∀ b, b < 64 → mi u' b = mi u b) (h : ∀ j, u' 10 j = u 10 j + nI (sm (fun q => dcs (Dn u (nI q)) j) 0 16)) : Cd u u' := by
  have hD : ∀ q, q < 16 → Dn u (nI q) ≤ 3 := fun q hq => Dn_3 hq hl
  refine ⟨fun j => sm (fun q => dcs (Dn u (nI q)) j) 0 16, fun i _ => ⟨h i, ?_⟩, ?_, ?_, ?_⟩
  · have := sm_le (f := fun q => dcs (Dn u (nI q)) i) (g := fun _ => 4) 16 0 (fun k _ hk => dcs_4 (hD k (by omega)))
    rw [sm_con] at this
    show sm (fun q => dcs (Dn u (nI q)) i) 0 16 ≤ 100
    omega
  · show sm (fun q => dcs (Dn u (nI q)) 5) 0 16 ≤ _
    rw [show (fun q => dcs (Dn u (nI q)) 5) = fun _ => 0 from funext fun q => dcs_5 _, sm_zero]
    exact Nat.zero_le _
  · show sm (fun q => dcs (Dn u (nI q)) 8) 0 16 ≤ 3 * sm (fun q => dcs (Dn u (nI q)) 7) 0 16
    rw [← sm_mul]
    exact sm_le 16 0 (fun k _ hk => (dcs_8 (x := Dn u (nI k))).resolve_right (by have := hD k (by omega); omega))
  · rw [Mi_c hm]
    exact Nat.le_add_right _ _
