/-! TIME, THE LIMIT, THE POWER AND THE STICK, on both sides. -/
theorem rel_congr {s : Nat → Int32} {u v : Mem} (h : Rel s v) (e0 : u 0 0 = v 0 0 ∧ u 0 1 = v 0 1 ∧ u 0 2 = v 0 2 ∧ u 0 3 = v 0 3) (e6 : u 6 = v 6) (e7 : u 7 = v 7) (e8 : u 8 = v 8) (e9 : u 9 = v 9) (e10 : ∀ i, i < 9 → u 10 i = v 10 i) (e2 : u 2 = v 2) (e3 : u 3 = v 3) (e4 : u 4 = v 4) (e1 : ∀ k, k < 12 → u 1 k = v 1 k) (e5 : ∀ k, k < 12 → u 5 k = v 5 k) : Rel s u := by
  unfold Rel
  rw [e0.1, e0.2.1, e0.2.2.1, e0.2.2.2, e6, e7, e8, e9, e2, e3, e4]
  refine ⟨h.1, fun i hi => by rw [e10 i hi]; exact h.2.1 i hi, h.2.2.1, fun k hk => ?_⟩
  rw [e1 k hk, e5 k hk]
  exact h.2.2.2 k hk
theorem ac_0 (u : Mem) (i : Nat) : ac u i 0 = u := by
  unfold ac
  rw [Int32.add_zero]
  funext a c
  rw [mset_at]
  grind
theorem ac_add (u : Mem) (i : Nat) (a b : Int32) : ac (ac u i a) i b = ac u i (a + b) := by
  have e : ac u i a 10 i = u 10 i + a := ac_rd.symm
  have e2 : ac (ac u i a) i b = mset (mset u 10 i (u 10 i + a)) 10 i (u 10 i + a + b) := by
    show mset (ac u i a) 10 i (ac u i a 10 i + b) = _
    rw [e]; rfl
  rw [e2]
  show _ = mset u 10 i (u 10 i + (a + b))
  rw [← Int32.add_assoc]
  funext x y
  simp only [mset_at]
  grind
/-- any dirty line -/
def dy (u : Mem) (k : Nat) : Bool := decide (¬ u 5 k = 0)
def Dt (u : Mem) : Nat := rc (dy u) 0 12
theorem dl_p {u : Mem} : ∀ (d i n c : Nat), i + d = 12 → d < n → pX2_dirtyLines_4 u n (nI c) (nI i) = some (nI (c + rc (dy u) i d)) := by
  intro d
  induction d with
  | zero =>
    intro i n c hi hn
    obtain ⟨q, rfl⟩ : ∃ q, n = q + 1 := ⟨n - 1, by omega⟩
    obtain rfl : i = 12 := by omega
    show pX2_dirtyLines_4b u _ (nI c) (nI 12) = _
    unfold pX2_dirtyLines_4b
    rw [if_pos at12]; rfl
  | succ d ih =>
    intro i n c hi hn
    obtain ⟨q, rfl⟩ : ∃ q, n = q + 1 := ⟨n - 1, by omega⟩
    have hi2 : i < 12 := by omega
    show pX2_dirtyLines_4b u _ (nI c) (nI i) = some (nI (c + ((dy u i).toNat + rc (dy u) (i + 1) d)))
    unfold pX2_dirtyLines_4b pX2_dirtyLines_22
    rw [if_neg (ge12 hi2), ld_n hi2 (by decide), ob_some]
    by_cases hz : u 5 i = 0
    · rw [if_pos hz, nI_1, ih (i + 1) q c (by omega) (by omega), show dy u i = false from decide_eq_false (not_not_intro hz)]
      simp
    · rw [if_neg hz, nI_1, nI_1, ih (i + 1) q (c + 1) (by omega) (by omega), show dy u i = true from decide_eq_true hz]
      simp [Nat.add_assoc]
theorem dirtyLines_e {u : Mem} : pX2_dirtyLines u = some (nI (Dt u)) := by
  have := dl_p (u := u) 12 0 FU 0 rfl (by decide)
  rw [Nat.zero_add] at this
  exact this
theorem empty_u {u : Mem} {k : Nat} (hk : k < 12) : pX2_empty u (nI k) = some (mset (mset u 1 k (-1)) 5 k 0) := by
  unfold pX2_empty pX2_empty_21
  rw [isL_n hk, ob_some, if_neg (by decide), st_n hk (by decide), ob_some, stz_n (by decide) hk (by decide), ob_some]
/-- the charge runs out: every line empty, on both sides -/
theorem lo_p {m : Mem} {y : Int32} : ∀ (d i n n' c : Nat) (u : Mem) (s : Nat → Int32), i + d = 12 → d < n → d < n' → Rel s (ac u 6 (nI c)) → (∀ k, k < 12 → LineOK u k) →
    ∃ (u' : Mem) (s' : Nat → Int32), pX2_drain_30 y n (nI i) u = some (y, u') ∧ pX5_loses_2 n' (nI i) (mp m s) = some (mp m s') ∧ Rel s' (ac u' 6 (nI (c + rc (dy u) i d))) ∧ Same s s' ∧ (∀ k, k < 12 → i ≤ k → u' 1 k = -1 ∧ u' 5 k = 0) ∧ (∀ k, k < 12 → k < i → u' 1 k = u 1 k ∧ u' 5 k = u 5 k) ∧ ∀ K, ¬ K = 1 → ¬ K = 5 → u' K = u K := by
  intro d
  induction d with
  | zero =>
    intro i n n' c u s hi hn hn' h hl
    obtain ⟨p, rfl⟩ : ∃ p, n = p + 1 := ⟨n - 1, by omega⟩
    obtain ⟨p', rfl⟩ : ∃ p, n' = p + 1 := ⟨n' - 1, by omega⟩
    obtain rfl : i = 12 := by omega
    refine ⟨u, s, ?_, ?_, h, Same.rf s, fun k h1 h2 => by omega, fun k h1 h2 => ⟨rfl, rfl⟩, fun K h1 h2 => rfl⟩
    · show pX2_drain_30b y _ (nI 12) u = _
      unfold pX2_drain_30b
      rw [if_pos at12]
    · show pX5_loses_2b _ (nI 12) (mp m s) = _
      unfold pX5_loses_2b
      rw [if_pos at12]
  | succ d ih =>
    intro i n n' c u s hi hn hn' h hl
    obtain ⟨p, rfl⟩ : ∃ p, n = p + 1 := ⟨n - 1, by omega⟩
    obtain ⟨p', rfl⟩ : ∃ p, n' = p + 1 := ⟨n' - 1, by omega⟩
    have hi2 : i < 12 := by omega
    have hu1 : ∀ k, ac u 6 (nI c) 1 k = u 1 k := fun k => by rw [ac_ne (by decide)]
    have hu5 : ∀ k, ac u 6 (nI c) 5 k = u 5 k := fun k => by rw [ac_ne (by decide)]
    have e1 : pX2_drain_30 y (p + 1) (nI i) u = pX2_drain_30 y p (nI (i + 1)) (mset (mset u 1 i (-1)) 5 i 0) := by
      show pX2_drain_30b y _ (nI i) u = _
      unfold pX2_drain_30b
      rw [if_neg (ge12 hi2), empty_u hi2, ob_some, nI_1]
    have e2 : pX5_loses_2 (p' + 1) (nI i) (mp m s) = pX5_loses_2 p' (nI (i + 1)) (mp m (upd (acs s 6 (b2 (dy u i))) (271 + 5 * i + 0) (-1))) := by
      show pX5_loses_2b _ (nI i) (mp m s) = _
      unfold pX5_loses_2b pX5_loses_38 pX5_loses_39
      rw [if_neg (ge12 hi2)]
      simp only [ldm12, stm12, ob_some, isE_m h hi2, of4 hi2, lay0 hi2, nI_1, hu1]
      rcases hl i hi2 with ⟨a1, a2⟩ | ⟨b, b1, b2', b3, b4, -⟩
      · rw [show decide (u 1 i = -1) = true from decide_eq_true a1, if_neg (by decide), show dy u i = false from decide_eq_false (not_not_intro a2)]
        rfl
      · have hne := ne_m1 b1 b2'
        rw [show decide (u 1 i = -1) = false from decide_eq_false hne, if_pos (by decide), (h.2.2.2 i hi2).2.2.2.2 (by rw [hu1]; exact hne), hu5]
        rcases b4 with b4 | b4
        · rw [b4, if_neg (by decide), show dy u i = false from decide_eq_false (not_not_intro b4)]
          rfl
        · rw [b4, if_pos rfl, show dy u i = true from decide_eq_true (by rw [b4]; decide)]
          rfl
    have R1 := rel_empty (rel_ac h (i := 6) (by decide) (b2 (dy u i))) hi2
    rw [ac_add, nI_b2, ← ac_mset (by decide), ← ac_mset (by decide)] at R1
    have v1 : ∀ k, mset (mset u 1 i (-1)) 5 i 0 1 k = if k = i then -1 else u 1 k := fun k => by
      rw [mset_ne (by decide), mset_at, if_pos rfl]
    have v5 : ∀ k, mset (mset u 1 i (-1)) 5 i 0 5 k = if k = i then 0 else u 5 k := fun k => by
      rw [mset_at, if_pos rfl, mset_ne (by decide)]
    have v9 : mset (mset u 1 i (-1)) 5 i 0 9 = u 9 := by rw [mset_ne (by decide), mset_ne (by decide)]
    obtain ⟨u', s', g1, g2, g3, g4, g5, g6, g7⟩ := ih (i + 1) p p' (c + (dy u i).toNat) (mset (mset u 1 i (-1)) 5 i 0) _ (by omega) (by omega) (by omega) R1 (fun k hk => by
      unfold LineOK
      rw [v1, v5, v9]
      by_cases e : k = i
      · rw [if_pos e, if_pos e]; exact Or.inl ⟨rfl, rfl⟩
      · rw [if_neg e, if_neg e]; exact hl k hk)
    have hcg : rc (dy (mset (mset u 1 i (-1)) 5 i 0)) (i + 1) d = rc (dy u) (i + 1) d := rc_congr d (i + 1) (fun k k1 k2 => by
      unfold dy
      rw [v5, if_neg (by omega)])
    refine ⟨u', s', e1.trans g1, e2.trans g2, ?_, Same.tr ((acs_same (Same.rf s) (by decide) _).up (by omega)) g4, fun k k1 k2 => ?_, fun k k1 k2 => ?_, fun K K1 K2 => ?_⟩
    · rw [hcg, Nat.add_assoc] at g3
      exact g3
    · by_cases e : k = i
      · subst e
        have := g6 k k1 (by omega)
        rw [v1, v5, if_pos rfl, if_pos rfl] at this
        exact this
      · exact g5 k k1 (by omega)
    · have := g6 k k1 (by omega)
      rw [v1, v5, if_neg (by omega), if_neg (by omega)] at this
      exact this
    · rw [g7 K K1 K2, mset_ne K2, mset_ne K1]
theorem can_r {s : Nat → Int32} {u m : Mem} {N : Nat} (h : Rel s u) (hI : Inv N u) : ∃ g : Bool, pX1_canDestage u = some (b2 g) ∧ pX5_isCharging (mp m s) = some (b2 g) := by
  unfold pX1_canDestage pX5_isCharging
  simp only [ldm0, ldm1, ob_some, h.1.1, h.1.2.1]
  rcases hI.1.2 with e | e
  · rw [e]; exact ⟨false, rfl, rfl⟩
  · rw [e, if_neg (by decide), if_pos rfl]
    rcases hI.1.1 with e | e
    · rw [e]; exact ⟨false, rfl, rfl⟩
    · rw [e]; exact ⟨true, rfl, rfl⟩
theorem inv_ch {N : Nat} {u : Mem} (h : Inv N u) {c : Nat} (hc : ∀ L, u 0 1 = nI L → L ≤ 100 → c ≤ L) (h0 : c = 0 → ∀ k, k < 12 → u 1 k = -1) : Inv N (mset u 0 2 (nI c)) := by
  obtain ⟨h1, ⟨L, c1, l1, l2, l3, l4, l5, l6⟩, h3, h4, h5⟩ := h
  exact ⟨h1, ⟨L, c, l1, l2, hc L l4 l2, l4, rfl, h0⟩, h3, h4, h5⟩
/-- one tick, on both sides -/
theorem tick_r {m : Mem} {N : Nat} {u : Mem} {s : Nat → Int32} (h : Rel s u) (hI : Inv N u) : PrV N ((pX1_canDestage u).bind fun y => if y = 0 then (ld u 10 9 6).bind fun y1 => bd2 (pX2_drain u) fun y2 u1 => st u1 10 9 6 (y1 + y2) else pX2_load u) (pX5_tick (mp m s)) m s := by
  obtain ⟨g, g1, g2⟩ := can_r (m := m) h hI
  obtain ⟨L, c, l1, l2, l3, l4, l5, l6⟩ := id hI.2.1
  unfold pX5_tick pX5_tick_77 pX5_tick_41
  rw [g1, g2, ob_some, ob_some]
  have hL : s 2 = nI L := h.1.2.2.1.trans l4
  have hc : s 3 = nI c := h.1.2.2.2.1.trans l5
  cases g
  · rw [if_pos (show b2 false = 0 from rfl), if_pos (show b2 false = 0 from rfl)]
    simp only [ldm3, stm3, ob_some, ldc6]
    rw [hc]
    unfold pX2_drain
    simp only [pf_e, ob_some]
    have z2 : ∀ v, mset u 0 2 v 0 2 = v := fun v => by rw [mset_at, if_pos rfl, if_pos rfl]
    rw [l5]
    simp only [z2]
    by_cases c0 : c = 0
    · -- nothing left: every line is empty already
      subst c0
      rw [if_pos (show nI 0 ≤ 0 by decide), show (if nI 0 - 1 < 0 then (0 : Int32) else nI 0 - 1) = 0 by decide, if_pos (show (0 : Int32) ≤ 0 by decide), dirtyLines_e, ob_some]
      have hl0 := l6 rfl
      have R0 : Rel s (mset u 0 2 0) := rel_congr h ⟨rfl, rfl, l5.symm ▸ rfl, rfl⟩ rfl rfl rfl rfl (fun _ _ => rfl) rfl rfl rfl (fun _ _ => rfl) (fun _ _ => rfl)
      have R1 : Rel s (ac (mset u 0 2 0) 6 (nI 0)) := by rw [show nI 0 = 0 from rfl, ac_0]; exact R0
      obtain ⟨u', s', f1, -, -, -, f5, -, f7⟩ := lo_p (m := m) (y := nI (Dt (mset u 0 2 0))) 12 0 FU FU 0 (mset u 0 2 0) s rfl (by decide) (by decide) R1 hI.2.2.2.1
      rw [show pX2_drain_30 (nI (Dt (mset u 0 2 0))) FU 0 (mset u 0 2 0) = some (nI (Dt (mset u 0 2 0)), u') from f1, bd2_some, stc6]
      have hD0 : Dt (mset u 0 2 0) = 0 := rc_0 12 0 (fun k k1 k2 => by
        rcases hI.2.2.2.1 k (by omega) with ⟨-, a2⟩ | ⟨b, b1, b2', -⟩
        · exact decide_eq_false (not_not_intro a2)
        · exact absurd (hl0 k (by omega)) (ne_m1 b1 b2'))
      rw [hD0, show u 10 6 + nI 0 = u 10 6 from Int32.add_zero _]
      have q10 : ∀ i, mset u' 10 6 (u 10 6) 10 i = u 10 i := fun i => by
        rw [mset_at, if_pos rfl]
        split
        · rename_i e; rw [e]
        · rw [f7 10 (by decide) (by decide)]; rfl
      have qq : ∀ K, ¬ K = 1 → ¬ K = 5 → ¬ K = 10 → mset u' 10 6 (u 10 6) K = mset u 0 2 0 K := fun K a b c => (mset_ne c).trans (f7 K a b)
      have h5 : ∀ k, k < 12 → u 5 k = 0 := fun k hk => by
        rcases hI.2.2.2.1 k hk with ⟨-, a2⟩ | ⟨b, b1, b2', -⟩
        · exact a2
        · exact absurd (hl0 k hk) (ne_m1 b1 b2')
      refine ⟨_, s, rfl, rfl, ?_, ?_, Same.rf s⟩
      · exact rel_congr R0 (by rw [qq 0 (by decide) (by decide) (by decide)]; exact ⟨rfl, rfl, rfl, rfl⟩) (qq 6 (by decide) (by decide) (by decide)) (qq 7 (by decide) (by decide) (by decide)) (qq 8 (by decide) (by decide) (by decide)) (qq 9 (by decide) (by decide) (by decide)) (fun i _ => q10 i) (qq 2 (by decide) (by decide) (by decide)) (qq 3 (by decide) (by decide) (by decide)) (qq 4 (by decide) (by decide) (by decide)) (fun k hk => by rw [mset_ne (by decide), (f5 k hk (Nat.zero_le _)).1]; exact (hl0 k hk).symm) (fun k hk => by rw [mset_ne (by decide), (f5 k hk (Nat.zero_le _)).2]; exact (h5 k hk).symm)
      · refine ⟨by rw [qq 0 (by decide) (by decide) (by decide), qq 6 (by decide) (by decide) (by decide)]; exact hI.1, ⟨L, 0, l1, l2, l3, by rw [qq 0 (by decide) (by decide) (by decide)]; exact l4, by rw [qq 0 (by decide) (by decide) (by decide)]; rfl, fun _ k hk => by rw [mset_ne (by decide)]; exact (f5 k hk (Nat.zero_le _)).1⟩, by rw [qq 6 (by decide) (by decide) (by decide)]; exact hI.2.2.1, fun k hk => Or.inl (by rw [mset_ne (by decide), mset_ne (by decide)]; exact f5 k hk (Nat.zero_le _)), by rw [qq 9 (by decide) (by decide) (by decide), qq 8 (by decide) (by decide) (by decide)]; exact hI.2.2.2.2⟩
    · have e1 : nI c - 1 = nI (c - 1) := pk_sub (b := 1) (by omega)
      rw [if_neg (nI_nle (by omega) (by omega)), e1, if_neg (nI_pos (by omega))]
      have R0 : Rel (upd s 3 (nI (c - 1))) (mset u 0 2 (nI (c - 1))) := rel_ch h _
      have S0 : Same s (upd s 3 (nI (c - 1))) := (Same.rf s).up (by decide)
      rw [show upd s 3 (nI (c - 1)) 3 = nI (c - 1) from by rw [upd_at, if_pos rfl]]
      by_cases c1 : c = 1
      · subst c1
        rw [if_pos (show nI (1 - 1) ≤ 0 by decide), if_pos (show nI (1 - 1) = 0 by decide), dirtyLines_e, ob_some]
        have R1 : Rel (upd s 3 (nI (1 - 1))) (ac (mset u 0 2 (nI (1 - 1))) 6 (nI 0)) := by rw [show nI 0 = 0 from rfl, ac_0]; exact R0
        obtain ⟨u', s', f1, f2, f3, f4, f5, -, f7⟩ := lo_p (m := m) (y := nI (Dt (mset u 0 2 (nI (1 - 1))))) 12 0 FU FU 0 (mset u 0 2 (nI (1 - 1))) (upd s 3 (nI (1 - 1))) rfl (by decide) (by decide) R1 hI.2.2.2.1
        rw [show pX2_drain_30 (nI (Dt (mset u 0 2 (nI (1 - 1))))) FU 0 (mset u 0 2 (nI (1 - 1))) = some (nI (Dt (mset u 0 2 (nI (1 - 1)))), u') from f1, bd2_some, stc6]
        have f2' : pX5_loses (mp m (upd s 3 (nI (1 - 1)))) = some (mp m s') := f2
        rw [f2', ob_some]
        rw [Nat.zero_add] at f3
        have q : mset u' 10 6 (u 10 6 + nI (Dt (mset u 0 2 (nI (1 - 1))))) = ac u' 6 (nI (rc (dy (mset u 0 2 (nI (1 - 1)))) 0 12)) := by
          unfold ac
          rw [f7 10 (by decide) (by decide)]
          rfl
        rw [q]
        refine ⟨_, s', rfl, rfl, f3, ?_, S0.tr f4⟩
        refine inv_ac ?_ _ _
        refine ⟨by rw [f7 0 (by decide) (by decide), f7 6 (by decide) (by decide)]; exact hI.1, ⟨L, 0, l1, l2, Nat.zero_le _, by rw [f7 0 (by decide) (by decide)]; exact l4, by rw [f7 0 (by decide) (by decide)]; rfl, fun _ k hk => (f5 k hk (Nat.zero_le _)).1⟩, by rw [f7 6 (by decide) (by decide)]; exact hI.2.2.1, fun k hk => Or.inl (f5 k hk (Nat.zero_le _)), by rw [f7 9 (by decide) (by decide), f7 8 (by decide) (by decide)]; exact hI.2.2.2.2⟩
      · rw [if_neg (nI_nle (by omega) (by omega)), if_neg (nI_ne0 (by omega) (by omega)), bd2_some, stc6, Int32.add_zero]
        have q : mset (mset u 0 2 (nI (c - 1))) 10 6 (u 10 6) = mset u 0 2 (nI (c - 1)) := by
          have := ac_0 (mset u 0 2 (nI (c - 1))) 6
          unfold ac at this
          rw [Int32.add_zero] at this
          exact this
        rw [q]
        refine ⟨_, _, rfl, rfl, R0, inv_ch hI (fun L' e hL' => ?_) (fun e => by omega), S0⟩
        have : L' = L := (nI_eq (by omega) (by omega)).mp (e.symm.trans l4)
        omega
  · rw [if_neg (show ¬ b2 true = 0 by decide), if_neg (show ¬ b2 true = 0 by decide)]
    simp only [ldm3, ldm2, stm3, ob_some]
    unfold pX2_load
    rw [hc, hL, l4, l5]
    simp only [show nI c + 2 = nI (c + 2) from nI_add c 2, pf_e, ob_some]
    have fin : ∀ c' : Nat, c' = (if c + 2 ≤ L then c + 2 else L) → PrV N (some (mset u 0 2 (nI c'))) (some (mp m (upd s 3 (nI c')))) m s := by
      intro c' e
      refine ⟨_, _, rfl, rfl, rel_ch h _, inv_ch hI (fun L' e1 hL' => ?_) (fun e0 => ?_), (Same.rf s).up (by decide)⟩
      · have : L' = L := (nI_eq (by omega) (by omega)).mp (e1.symm.trans l4)
        subst this
        split at e <;> omega
      · split at e <;> omega
    by_cases hle : c + 2 ≤ L
    · rw [if_neg (nI_nlt hle (by omega)), if_pos (nI_le hle (by omega))]
      exact fin (c + 2) (by rw [if_pos hle])
    · rw [if_pos (nI_lt (by omega) (by omega)), if_neg (nI_ge (by omega) (by omega))]
      exact fin L (by rw [if_neg hle])
/-- the ticks of a pass -/
theorem pass_p {m : Mem} {N x : Nat} (hx : x < 2 ^ 30) : ∀ (d i n : Nat) (u : Mem) (s : Nat → Int32), i + d = x → d < n → Rel s u → Inv N u → ∃ (u' : Mem) (s' : Nat → Int32), pX1_letPass_2 (nI x) n (nI i) u = some u' ∧ pX5_passes_2 (nI x) n (nI i) (mp m s) = some (u' 0 2, mp m s') ∧ Rel s' u' ∧ Inv N u' ∧ Same s s' := by
  intro d
  induction d with
  | zero =>
    intro i n u s hi hn h hI
    obtain ⟨p, rfl⟩ : ∃ p, n = p + 1 := ⟨n - 1, by omega⟩
    obtain rfl : i = x := by omega
    refine ⟨u, s, ?_, ?_, h, hI, Same.rf s⟩
    · show pX1_letPass_2b (nI i) _ (nI i) u = _
      unfold pX1_letPass_2b
      rw [if_pos (Int32.le_refl _)]
    · show pX5_passes_2b (nI i) _ (nI i) (mp m s) = _
      unfold pX5_passes_2b
      rw [if_pos (Int32.le_refl _), ldm3, ob_some, h.1.2.2.2.1]
  | succ d ih =>
    intro i n u s hi hn h hI
    obtain ⟨p, rfl⟩ : ∃ p, n = p + 1 := ⟨n - 1, by omega⟩
    obtain ⟨u1, s1, g1, g2, g3, g4, g5⟩ := tick_r (m := m) h hI
    obtain ⟨u2, s2, k1, k2, k3, k4, k5⟩ := ih (i + 1) p u1 s1 (by omega) (by omega) g3 g4
    have hlt : ¬ nI x ≤ nI i := nI_ge (by omega) (by omega)
    refine ⟨u2, s2, ?_, ?_, k3, k4, g5.tr k5⟩
    · rw [← k1]
      show pX1_letPass_2b (nI x) _ (nI i) u = _
      unfold pX1_letPass_2b pX1_letPass_41
      rw [if_neg hlt, nI_1]
      obtain ⟨y, hy⟩ : ∃ y, pX1_canDestage u = some y := by
        cases e : pX1_canDestage u with
        | none => rw [e] at g1; cases g1
        | some y => exact ⟨y, rfl⟩
      rw [hy, ob_some] at g1 ⊢
      by_cases c : y = 0
      · rw [if_pos c] at g1 ⊢
        rw [ldc6, ob_some] at g1 ⊢
        obtain ⟨y2, w, hw⟩ : ∃ y2 w, pX2_drain u = some (y2, w) := by
          cases e : pX2_drain u with
          | none => rw [e] at g1; cases g1
          | some y => exact ⟨y.1, y.2, rfl⟩
        rw [hw, bd2_some] at g1 ⊢
        rw [g1, ob_some]
      · rw [if_neg c] at g1 ⊢
        rw [g1, ob_some]
    · rw [← k2]
      show pX5_passes_2b (nI x) _ (nI i) (mp m s) = _
      unfold pX5_passes_2b
      rw [if_neg hlt, g2, ob_some, nI_1]
theorem pass_r {m : Mem} {N x : Nat} (hx : x < 900) {u : Mem} {s : Nat → Int32} (h : Rel s u) (hI : Inv N u) : ∃ (u' : Mem) (s' : Nat → Int32), pX1_letPass u (nI x) = some u' ∧ pX5_passes (mp m s) (nI x) = some (u' 0 2, mp m s') ∧ Rel s' u' ∧ Inv N u' ∧ Same s s' := pass_p (m := m) (by omega) x 0 FU u s (Nat.zero_add x) (by unfold FU; omega) h hI
/-- a new limit -/
theorem limit_r {m : Mem} {N x : Nat} (h1 : 1 ≤ x) (hx : x ≤ 100) {u : Mem} {s : Nat → Int32} (h : Rel s u) (hI : Inv N u) : ∃ (u' : Mem) (s' : Nat → Int32), pX2_limitTo u (nI x) = some u' ∧ ((st (mp m s) 1 2317 2 (nI x)).bind fun u105 => (ld u105 1 2317 3).bind fun y106 => if y106 ≤ nI x then (ld u105 1 2317 3).bind fun y108 => pX5_setLimit_60 3 y108 u105 else pX5_setLimit_60 3 (nI x) u105) = some (u' 0 2, mp m s') ∧ Rel s' u' ∧ Inv N u' ∧ Same s s' := by
  obtain ⟨L, c, l1, l2, l3, l4, l5, l6⟩ := id hI.2.1
  have hc : s 3 = nI c := h.1.2.2.2.1.trans l5
  have key : ∀ c' : Nat, c' ≤ x → (c' = 0 → c = 0) → ∃ (u' : Mem) (s' : Nat → Int32), some (mset (mset u 0 1 (nI x)) 0 2 (nI c')) = some u' ∧ pX5_setLimit_60 3 (nI c') (mp m (upd s 2 (nI x))) = some (u' 0 2, mp m s') ∧ Rel s' u' ∧ Inv N u' ∧ Same s s' := by
    intro c' hc' h0
    refine ⟨_, upd (upd s 2 (nI x)) 3 (nI c'), rfl, ?_, rel_ch (rel_lim h _) _, ⟨hI.1, ⟨x, c', h1, hx, hc', ?_, ?_, fun e => l6 (h0 e)⟩, hI.2.2⟩, ((Same.rf s).up (by decide)).up (by decide)⟩
    · unfold pX5_setLimit_60
      rw [stm3, ob_some, ldm3, ob_some, upd_at, if_pos rfl, mset_at, if_pos rfl, if_pos rfl]
    · rw [mset_at, if_pos rfl, if_neg (by decide), mset_at, if_pos rfl, if_pos rfl]
    · rw [mset_at, if_pos rfl, if_pos rfl]
  unfold pX2_limitTo
  rw [stm2, ob_some, ldm3, ob_some]
  simp only [pf_e, ob_some]
  rw [show upd s 2 (nI x) 3 = nI c from hc, show mset u 0 1 (nI x) 0 1 = nI x by rw [mset_at, if_pos rfl, if_pos rfl], show mset u 0 1 (nI x) 0 2 = nI c by rw [mset_at, if_pos rfl, if_neg (by decide)]; exact l5]
  by_cases hle : c ≤ x
  · rw [if_neg (nI_nlt hle (by omega)), if_pos (nI_le hle (by omega))]
    exact key c hle id
  · rw [if_pos (nI_lt (by omega) (by omega)), if_neg (nI_ge (by omega) (by omega))]
    exact key x (Nat.le_refl _) (fun e => by omega)
theorem inv_on {N : Nat} {u : Mem} (h : Inv N u) {x : Int32} (hx : x = 0 ∨ x = 1) : Inv N (mset u 6 1 x) := ⟨⟨h.1.1, hx⟩, h.2.1, h.2.2.1, h.2.2.2⟩
theorem inv_in {N : Nat} {u : Mem} (h : Inv N u) {x : Int32} (hx : x = 0 ∨ x = 1) : Inv N (mset u 0 3 x) := ⟨⟨hx, h.1.2⟩, h.2.1, h.2.2.1, h.2.2.2⟩
theorem one0 : ¬ (1 : Int32) = 0 := by decide
theorem z01 {x : Int32} (hx : x = 0 ∨ x = 1) : isz x = true := by rcases hx with rfl | rfl <;> rfl
/-- the power switched -/
theorem power_r {m : Mem} {N : Nat} {u : Mem} {s : Nat → Int32} (h : Rel s u) (hI : Inv N u) {x : Int32} (hx : x = 0 ∨ x = 1) : PrI N (pX1_switchPower u x) (pX5_powers (mp m s) x) m s := by
  have key : ∀ z : Int32, PrI N (pX1_switchPower_16 x z u) (pX5_powers_33 z 1 x (mp m s)) m s := by
    intro z
    unfold pX1_switchPower_16 pX1_switchPower_53 pX5_powers_33 pX5_powers_66 pX5_powers_67
    rw [pz_e (z01 hx), ob_some, stm1, ob_some]
    have R1 := rel_on h x
    have I1 := inv_on hI hx
    have S1 : Same s (upd s 1 x) := (Same.rf s).up (by decide)
    have nop : PrI N (some (0, mset u 6 1 x)) (some (0, mp m (upd s 1 x))) m s := ⟨_, _, _, rfl, rfl, R1, I1, S1⟩
    by_cases z0 : z = 0
    · rw [if_pos z0, if_pos z0]; exact nop
    · rw [if_neg z0, if_neg z0, ldm0, ob_some, ldm3, ob_some, R1.1.1, R1.1.2.2.2.1]
      rcases I1.1.1 with e | e
      · rw [e, if_pos rfl, if_neg (by decide)]; exact nop
      · rw [e, if_neg (by decide), if_pos rfl]
        by_cases c : (20 : Int32) ≤ mset u 6 1 x 0 2
        · rw [if_pos c, if_pos c]; exact nop
        · rw [if_neg c, if_neg c]
          obtain ⟨r, u2, s2, k1, k2, k3, k4, k5⟩ := da_r (m := m) R1 I1
          rw [k1, k2, bd2_some, bd2_some]
          exact ⟨r, u2, s2, rfl, rfl, k3, k4, S1.tr k5⟩
  unfold pX1_switchPower pX1_switchPower_15 pX5_powers pX5_powers_17 pX5_powers_18
  rw [ldm1, ob_some, h.1.2.1]
  rcases hx with rfl | rfl
  · rw [if_pos rfl, if_pos rfl, if_pos rfl]; exact key 0
  · simp only [if_neg one0]
    by_cases c : u 6 1 = 0
    · rw [if_pos c, if_pos c]; exact key 1
    · rw [if_neg c, if_neg c]; exact key 0
/-- the lines that the disk has outrun -/
theorem eo_p {m : Mem} {N : Nat} : ∀ (d i n : Nat) (c : Int32) (u : Mem) (s : Nat → Int32), i + d = 12 → d < n → Rel s u → Inv N u → u 0 3 = 0 → PrK N ((pX1_emptyOutdatedLines_4 n c (nI i) (mset u 0 3 1)).bind fun z => some z) (pX5_movesStick_4 1 n c (nI i) (mp m s)) m s (u 6 1) := by
  intro d
  induction d with
  | zero =>
    intro i n c u s hi hn h hI h0
    obtain ⟨p, rfl⟩ : ∃ p, n = p + 1 := ⟨n - 1, by omega⟩
    obtain rfl : i = 12 := by omega
    refine ⟨c, mset u 0 3 1, upd s 0 1, ?_, ?_, rel_in h 1, inv_in hI (Or.inr rfl), (Same.rf s).up (by decide), rfl⟩
    · show (pX1_emptyOutdatedLines_4b _ c (nI 12) _).bind _ = _
      unfold pX1_emptyOutdatedLines_4b
      rw [if_pos at12]; rfl
    · show pX5_movesStick_4b 1 _ c (nI 12) (mp m s) = _
      unfold pX5_movesStick_4b pX5_movesStick_74 pX5_movesStick_88
      rw [if_pos at12, if_neg (by decide), stm0, ob_some]
  | succ d ih =>
    intro i n c u s hi hn h hI h0
    obtain ⟨p, rfl⟩ : ∃ p, n = p + 1 := ⟨n - 1, by omega⟩
    have hi2 : i < 12 := by omega
    have hs0 : s 0 = 0 := h.1.1.trans h0
    have w1 : mset u 0 3 1 1 i = u 1 i := by rw [mset_ne (by decide)]
    have w3 : mset u 0 3 1 3 i = u 3 i := by rw [mset_ne (by decide)]
    have w8 : mset u 0 3 1 8 = u 8 := mset_ne (by decide)
    have skip : PrK N ((pX1_emptyOutdatedLines_56 (pX1_emptyOutdatedLines_4 p) c (nI i) (mset u 0 3 1)).bind fun z => some z) (pX5_movesStick_68 1 (pX5_movesStick_4 1 p) c (nI i) (mp m s)) m s (u 6 1) := by
      unfold pX1_emptyOutdatedLines_56 pX5_movesStick_68
      rw [nI_1]
      exact ih (i + 1) p c u s (by omega) (by omega) h hI h0
    show PrK N ((pX1_emptyOutdatedLines_4b (pX1_emptyOutdatedLines_4 p) c (nI i) _).bind fun z => some z) (pX5_movesStick_4b 1 (pX5_movesStick_4 1 p) c (nI i) (mp m s)) m s (u 6 1)
    unfold pX1_emptyOutdatedLines_4b pX5_movesStick_4b
    rw [if_neg (ge12 hi2), if_neg (ge12 hi2), if_neg (by decide), ldm0, ob_some, if_pos hs0, ld_n hi2 (by decide), ob_some, isE_m h hi2, ob_some, w1]
    rcases hI.2.2.2.1 i hi2 with ⟨a1, a2⟩ | ⟨b, b1, b2', b3, b4, -⟩
    · rw [show decide (u 1 i = -1) = true from decide_eq_true a1, if_neg (by decide), a1, isB_m1, ob_some, if_pos rfl]
      exact skip
    · rw [show decide (u 1 i = -1) = false from decide_eq_false (ne_m1 b1 b2'), if_pos (by decide), b2', isB_n b1, ob_some, if_neg (by decide)]
      simp only [ld_n hi2 (by decide : (12 : Nat) < 2 ^ 31), ld_n b1 (by decide : (64 : Nat) < 2 ^ 31), ob_some, of2 hi2, of0 hi2, w3, w8]
      rw [show s (271 + 5 * i + 0) = nI b from (h.2.2.2 i hi2).1.trans b2', ldm_ds b1, ob_some, (h.2.2.2 i hi2).2.2.1, (h.2.2.1 b b1).2.1]
      by_cases c2 : u 8 b ≤ u 3 i
      · rw [if_pos c2, if_pos c2]; exact skip
      · rw [if_neg c2, if_neg c2, empty_u hi2, ob_some, lay0 hi2, ob_some]
        unfold pX1_emptyOutdatedLines_56 pX5_movesStick_68
        rw [nI_1, show mset (mset (mset u 0 3 1) 1 i (-1)) 5 i 0 = mset (mset (mset u 1 i (-1)) 5 i 0) 0 3 1 by rw [mset_comm (k := 0) (k' := 1) (by decide), mset_comm (k := 0) (k' := 5) (by decide)]]
        have v1 : ∀ k, mset (mset u 1 i (-1)) 5 i 0 1 k = if k = i then -1 else u 1 k := fun k => by
          rw [mset_ne (by decide), mset_at, if_pos rfl]
        have v5 : ∀ k, mset (mset u 1 i (-1)) 5 i 0 5 k = if k = i then 0 else u 5 k := fun k => by
          rw [mset_at, if_pos rfl, mset_ne (by decide)]
        obtain ⟨L, q, l1, l2, l3, l4, l5, l6⟩ := id hI.2.1
        obtain ⟨z1, z2, z3, z4, z5, z6, z7, z8, z9⟩ := ih (i + 1) p (c + 1) (mset (mset u 1 i (-1)) 5 i 0) _ (by omega) (by omega) (rel_empty h hi2) ⟨hI.1, ⟨L, q, l1, l2, l3, l4, l5, fun e k hk => by rw [v1]; split; exact rfl; exact l6 e k hk⟩, hI.2.2.1, fun k hk => by
          unfold LineOK
          rw [v1, v5]
          by_cases e : k = i
          · rw [if_pos e, if_pos e]; exact Or.inl ⟨rfl, rfl⟩
          · rw [if_neg e, if_neg e]; exact hI.2.2.2.1 k hk, hI.2.2.2.2⟩ h0
        exact ⟨z1, z2, z3, z4, z5, z6, z7, Same.tr ((Same.rf s).up (by omega)) z8, z9⟩
theorem bind_self {α : Type} (o : Option α) : (o.bind fun z => some z) = o := by cases o <;> rfl
/-- the stick put in or taken out -/
theorem stick_r {m : Mem} {N : Nat} {u : Mem} {s : Nat → Int32} (h : Rel s u) (hI : Inv N u) {x : Int32} (hx : x = 0 ∨ x = 1) : PrK N (pX1_placeStick u x) (pX5_movesStick (mp m s) x) m s (u 6 1) := by
  have S1 : ∀ v, Same s (upd s 0 v) := fun v => (Same.rf s).up (by decide)
  unfold pX1_placeStick pX1_placeStick_18 pX1_placeStick_19 pX1_placeStick_40 pX5_movesStick
  rw [pz_e (z01 hx), ob_some]
  rcases hx with rfl | rfl
  · rw [if_pos rfl, if_pos rfl]
    refine ⟨0, mset u 0 3 0, upd s 0 0, rfl, ?_, rel_in h 0, inv_in hI (Or.inl rfl), S1 0, rfl⟩
    show pX5_movesStick_4b 0 _ 0 (nI 0) (mp m s) = _
    unfold pX5_movesStick_4b pX5_movesStick_74 pX5_movesStick_88
    rw [if_neg (ge12 (by decide)), if_pos rfl, if_pos rfl, stm0, ob_some]
  · rw [if_neg (by decide)]
    by_cases c : u 0 3 = 0
    · rw [if_pos c, ob_some, if_neg one0]
      obtain ⟨z1, z2, z3, z4, z5, z6, z7, z8, z9⟩ := eo_p (m := m) 12 0 FU 0 u s rfl (by decide) h hI c
      rw [bind_self] at z4
      rw [show pX1_emptyOutdatedLines (mset u 0 3 1) = some (z1, z2) from z4, bd2_some]
      exact ⟨z1, z2, z3, rfl, z5, z6, z7, z8, z9⟩
    · rw [if_neg c, if_pos rfl]
      refine ⟨0, mset u 0 3 1, upd s 0 1, rfl, ?_, rel_in h 1, inv_in hI (Or.inr rfl), S1 1, rfl⟩
      show pX5_movesStick_4b 1 _ 0 (nI 0) (mp m s) = _
      unfold pX5_movesStick_4b pX5_movesStick_74 pX5_movesStick_88
      rw [if_neg (ge12 (by decide)), if_neg (by decide), ldm0, ob_some, h.1.1, if_neg c, if_neg (by decide), stm0, ob_some]
