/-! DESTAGING: what it does to a state, and what it costs. -/
/-- Core asks of the rows 0 to 9 alone, mi of four of them -/
theorem core_of {N : Nat} {lat : Nat → Int32} {u u' : Mem} (h : Core N lat u) (h0 : u' 0 = u 0) (h1 : u' 1 = u 1) (h2 : u' 2 = u 2) (h3 : u' 3 = u 3) (h4 : u' 4 = u 4) (h5 : u' 5 = u 5) (h6 : u' 6 = u 6) (h7 : u' 7 = u 7) (h8 : u' 8 = u 8) (h9 : u' 9 = u 9) : Core N lat u' := by
  unfold Core Bits Bat Nx BI LI LB Uq at *
  rw [h0, h1, h2, h3, h4, h5, h6, h7, h8, h9]
  exact h
theorem mi_of {u u' : Mem} (h1 : u' 1 = u 1) (h3 : u' 3 = u 3) (h8 : u' 8 = u 8) (h9 : u' 9 = u 9) : mi u' = mi u := by
  funext b
  unfold mi
  rw [h1, h3, h8, h9]
theorem Mi_c {u u' : Mem} (h : ∀ b, b < 64 → mi u' b = mi u b) : Mi' u' = Mi' u := by
  rw [Mi_e, Mi_e]
  exact rc_congr 64 0 (fun k _ h2 => h k (by omega))
theorem core_ac {N : Nat} {lat : Nat → Int32} {u : Mem} (h : Core N lat u) (i : Nat) (y : Int32) : Core N lat (ac u i y) :=
  core_of h (ac_ne (by decide)) (ac_ne (by decide)) (ac_ne (by decide)) (ac_ne (by decide)) (ac_ne (by decide)) (ac_ne (by decide)) (ac_ne (by decide)) (ac_ne (by decide)) (ac_ne (by decide)) (ac_ne (by decide))
theorem mi_ac {u : Mem} (i : Nat) (y : Int32) : mi (ac u i y) = mi u := mi_of (ac_ne (by decide)) (ac_ne (by decide)) (ac_ne (by decide)) (ac_ne (by decide))
/-- what stays: all but the disks, the marks and the counts -/
def Kd (u u1 : Mem) : Prop := u1 0 = u 0 ∧ u1 1 = u 1 ∧ u1 2 = u 2 ∧ u1 3 = u 3 ∧ u1 4 = u 4 ∧ u1 6 = u 6 ∧ u1 9 = u 9
theorem Kd.rf (u : Mem) : Kd u u := ⟨rfl, rfl, rfl, rfl, rfl, rfl, rfl⟩
theorem Kd.tr {u u1 u2 : Mem} (h : Kd u u1) (g : Kd u1 u2) : Kd u u2 := ⟨g.1.trans h.1, g.2.1.trans h.2.1, g.2.2.1.trans h.2.2.1, g.2.2.2.1.trans h.2.2.2.1, g.2.2.2.2.1.trans h.2.2.2.2.1, g.2.2.2.2.2.1.trans h.2.2.2.2.2.1, g.2.2.2.2.2.2.trans h.2.2.2.2.2.2⟩
theorem Kd.ac (u : Mem) (i : Nat) (y : Int32) : Kd u (ac u i y) := ⟨ac_ne (by decide), ac_ne (by decide), ac_ne (by decide), ac_ne (by decide), ac_ne (by decide), ac_ne (by decide), ac_ne (by decide)⟩
/-- one dirty line comes to the disks -/
def d1 (u : Mem) (b i : Nat) : Mem := mset (mset (mset u 7 b (u 2 i)) 8 b (u 3 i)) 5 i 0
theorem d1_5 (u : Mem) (b i k : Nat) : d1 u b i 5 k = if k = i then 0 else u 5 k := by unfold d1; rw [mset_at, if_pos rfl]; rfl
theorem d1_8 (u : Mem) (b i k : Nat) : d1 u b i 8 k = if k = b then u 3 i else u 8 k := by unfold d1; rw [mset_at, if_neg (by decide), mset_at, if_pos rfl]; rfl
theorem d1_7 (u : Mem) (b i k : Nat) : d1 u b i 7 k = if k = b then u 2 i else u 7 k := by unfold d1; rw [mset_at, if_neg (by decide), mset_at, if_neg (by decide), mset_at, if_pos rfl]
theorem Kd.d1 (u : Mem) (b i : Nat) : Kd u (d1 u b i) := ⟨rfl, rfl, rfl, rfl, rfl, rfl, rfl⟩
theorem LB.up {lat : Nat → Int32} {u : Mem} {k b : Nat} (h : LB lat u k b) (hin : u 0 3 = 1) : u 3 k = u 9 b ∧ u 2 k = lat b := by
  rcases h.2.2.2.2.2.2.1 with h | h
  · exact h
  · rw [hin] at h; exact absurd h.1 (by decide)
theorem d1_core {N : Nat} {lat : Nat → Int32} {u : Mem} {b i : Nat} (h : Core N lat u) (hin : u 0 3 = 1) (hi : i < 12) (hb : LB lat u i b) : Core N lat (d1 u b i) ∧ ∀ x, x < 64 → mi (d1 u b i) x = mi u x := by
  obtain ⟨c1, c2, c3, c4, c5, c6⟩ := h
  obtain ⟨e3, e2⟩ := hb.up hin
  refine ⟨⟨c1, c2, c3, fun x hx => ?_, fun k hk => ?_, c6⟩, fun x hx => ?_⟩
  · obtain ⟨q1, q2, q3⟩ := c4 x hx
    unfold BI
    rw [d1_8, d1_7]
    show (if x = b then u 3 i else u 8 x) ≤ u 9 x ∧ u 9 x ≤ u 6 0 ∧ _
    by_cases e : x = b
    · subst e
      rw [if_pos rfl, if_pos rfl, e3]
      exact ⟨Int32.le_refl _, q2, fun _ => e2⟩
    · rw [if_neg e, if_neg e]
      exact ⟨q1, q2, q3⟩
  · rcases c5 k hk with ⟨a1, a2⟩ | ⟨b', hb'⟩
    · refine Or.inl ⟨a1, ?_⟩
      rw [d1_5]; split
      · rfl
      · exact a2
    · refine Or.inr ⟨b', hb'.1, hb'.2.1, hb'.2.2.1, ?_, hb'.2.2.2.2.1, hb'.2.2.2.2.2.1, Or.inl (hb'.up hin), fun h5 => ?_⟩
      · rw [d1_5]; split
        · exact Or.inl rfl
        · exact hb'.2.2.2.1
      · rw [d1_8]
        by_cases e : b' = b
        · subst e
          rw [if_pos rfl]
          exact e3
        · rw [if_neg e]
          rw [d1_5] at h5
          by_cases e' : k = i
          · subst e'
            exact absurd (nI_inj (by have := hb'.1; omega) (by have := hb.1; omega) (hb'.2.1.symm.trans hb.2.1)) e
          · rw [if_neg e'] at h5
            exact hb'.2.2.2.2.2.2.2 h5
  · by_cases e : x = b
    · subst e
      have z1 : mi u x = false := by
        unfold mi
        exact @decide_eq_false _ (Classical.propDecidable _) fun h => h.2 i hi ⟨hb.2.1, e3⟩
      have z2 : mi (d1 u x i) x = false := by
        unfold mi
        refine @decide_eq_false _ (Classical.propDecidable _) fun h => h.1 ?_
        rw [d1_8, if_pos rfl]
        exact e3
      rw [z1, z2]
    · unfold mi
      rw [d1_8, if_neg e]
      rfl
/-- what writing x blocks together adds to the counts -/
def rdN (x : Nat) : Nat := if x ≤ 2 then 2 else 4 - x
def dcs (x i : Nat) : Nat := if x = 0 then 0 else if i = 0 then rdN x else if i = 1 then x + 1 else if i = 7 then 1 else if i = 8 then x else 0
theorem rd_e {x : Nat} (h0 : 1 ≤ x) (h3 : x ≤ 3) : pX4_readsToWrite (nI x) = some (nI (rdN x)) := by
  rcases (show x = 1 ∨ x = 2 ∨ x = 3 by omega) with rfl | rfl | rfl <;> decide
theorem op_e {x : Nat} (h3 : x ≤ 3) : pX4_operationsToWrite (nI x) = some (nI (dcs x 0 + dcs x 1)) := by
  rcases (show x = 0 ∨ x = 1 ∨ x = 2 ∨ x = 3 by omega) with rfl | rfl | rfl | rfl <;> decide
theorem ac_at (u : Mem) (i : Nat) (y : Int32) (j : Nat) : ac u i y 10 j = if j = i then u 10 j + y else u 10 j := by
  unfold ac
  rw [mset_at, if_pos rfl]
  by_cases e : j = i
  · subst e; rw [if_pos rfl]
  · rw [if_neg e, if_neg e]
theorem cw_e {u : Mem} {x : Nat} (h0 : 1 ≤ x) (h3 : x ≤ 3) : pX1_countWrittenTogether u (nI x) = some (ac (ac u 0 (nI (rdN x))) 1 (nI (x + 1))) := by
  unfold pX1_countWrittenTogether pX4_writesToWrite
  simp only [ldc0, stc0, ldc1, stc1, ob_some, rd_e h0 h3, nI_1]
  rfl
/-- the loop's end -/
def dEnd (y : Nat) (u : Mem) : Option (Int32 × Mem) := if y = 0 then some (nI 0, u) else some (nI y, ac (ac (ac (ac u 0 (nI (rdN y))) 1 (nI (y + 1))) 7 1) 8 (nI y))
theorem ds_p {N q : Nat} {lat : Nat → Int32} : ∀ (d i n c : Nat) (u : Mem), i + d = 12 → d < n → Core N lat u → u 0 3 = 1 → c + rc (dz u (nI q)) i d ≤ 3 →
    ∃ u1 : Mem, pX1_destageStripe_4 (nI q) n (nI c) (nI i) u = dEnd (c + rc (dz u (nI q)) i d) u1 ∧ Core N lat u1 ∧ (∀ b, b < 64 → mi u1 b = mi u b) ∧ Kd u u1 ∧ u1 10 = u 10 ∧ ∀ k, k < 12 → u1 5 k = if i ≤ k ∧ dz u (nI q) k = true then 0 else u 5 k := by
  intro d
  induction d with
  | zero =>
    intro i n c u hi hn h hin hc
    obtain ⟨p, rfl⟩ : ∃ p, n = p + 1 := ⟨n - 1, by omega⟩
    obtain rfl : i = 12 := by omega
    have hc3 : c ≤ 3 := hc
    refine ⟨u, ?_, h, fun b _ => rfl, Kd.rf u, rfl, fun k hk => by rw [if_neg (by omega)]⟩
    show pX1_destageStripe_4b (nI q) _ (nI c) (nI 12) u = dEnd c u
    unfold pX1_destageStripe_4b pX1_destageStripe_103 dEnd
    rw [if_pos at12]
    by_cases c0 : c = 0
    · subst c0
      rw [if_pos (by decide), if_pos rfl]
    · rw [if_neg (nI_nle (by omega) (by omega)), if_neg c0, cw_e (by omega) hc3]
      simp only [ldc7, stc7, ldc8, stc8, ob_some]
      rfl
  | succ d ih =>
    intro i n c u hi hn h hin hc
    obtain ⟨p, rfl⟩ : ∃ p, n = p + 1 := ⟨n - 1, by omega⟩
    have hi2 : i < 12 := by omega
    have hc' : c + ((dz u (nI q) i).toNat + rc (dz u (nI q)) (i + 1) d) ≤ 3 := hc
    have e1 : pX1_destageStripe_4 (nI q) (p + 1) (nI c) (nI i) u = if b2 (dz u (nI q) i) = 0 then pX1_destageStripe_4 (nI q) p (nI c) (nI (i + 1)) u else (pX1_putOnDisk u (u 1 i) (u 2 i) (u 3 i)).bind fun u1 => (stz u1 5 12 (nI i) 0).bind fun u2 => pX1_destageStripe_4 (nI q) p (nI (c + 1)) (nI (i + 1)) u2 := by
      show pX1_destageStripe_4b (nI q) _ (nI c) (nI i) u = _
      unfold pX1_destageStripe_4b pX1_destageStripe_66
      rw [if_neg (ge12 hi2), isD_u hi2]
      simp only [ob_some, ld_n hi2 (by decide : (12 : Nat) < 2 ^ 31), nI_1]
    rw [e1, show rc (dz u (nI q)) i (d + 1) = (dz u (nI q) i).toNat + rc (dz u (nI q)) (i + 1) d from rfl]
    cases hz : dz u (nI q) i
    · rw [if_pos (show b2 false = 0 from rfl)]
      rw [hz] at hc'
      obtain ⟨u1, g1, g2, g3, g4, g5, g6⟩ := ih (i + 1) p c u (by omega) (by omega) h hin (by simpa using hc')
      refine ⟨u1, ?_, g2, g3, g4, g5, fun k hk => ?_⟩
      · rw [g1]; simp
      · rw [g6 k hk]
        by_cases e : k = i
        · subst e
          rw [if_neg (fun q => by omega), if_neg (fun q => by rw [hz] at q; cases q.2)]
        · by_cases e2 : i + 1 ≤ k ∧ dz u (nI q) k = true
          · rw [if_pos e2, if_pos ⟨by omega, e2.2⟩]
          · rw [if_neg e2, if_neg (fun q => e2 ⟨by omega, q.2⟩)]
    · rw [if_neg (show ¬ b2 true = 0 by decide)]
      rw [hz] at hc'
      have hd0 : ¬ u 5 i = 0 := by
        unfold dz at hz
        simp only [Bool.and_eq_true, decide_eq_true_eq] at hz
        exact hz.1
      obtain ⟨b, hB⟩ := (h.2.2.2.2.1 i hi2).dirty hd0
      obtain ⟨k1, k2⟩ := d1_core h hin hi2 hB
      have f1 : pX1_putOnDisk u (nI b) (u 2 i) (u 3 i) = some (mset (mset u 7 b (u 2 i)) 8 b (u 3 i)) := by
        unfold pX1_putOnDisk pX1_putOnDisk_21
        rw [isB_n hB.1, ob_some, if_neg (by decide), st_n hB.1 (by decide), ob_some, st_n hB.1 (by decide), ob_some]
      rw [hB.2.1, f1, ob_some, stz_n (by decide) hi2 (by decide), ob_some]
      have hcg : ∀ k, ¬ k = i → dz (d1 u b i) (nI q) k = dz u (nI q) k := fun k hk => by
        unfold dz
        rw [d1_5, if_neg hk]
        rfl
      have hcr : rc (dz (d1 u b i) (nI q)) (i + 1) d = rc (dz u (nI q)) (i + 1) d := rc_congr d (i + 1) (fun k k1 k2 => hcg k (by omega))
      obtain ⟨u1, g1, g2, g3, g4, g5, g6⟩ := ih (i + 1) p (c + 1) (d1 u b i) (by omega) (by omega) k1 hin (by rw [hcr]; simp at hc'; omega)
      refine ⟨u1, ?_, g2, fun x hx => (g3 x hx).trans (k2 x hx), (Kd.d1 u b i).tr g4, g5.trans rfl, fun k hk => ?_⟩
      · rw [hcr] at g1
        rw [show c + (Bool.toNat true + rc (dz u (nI q)) (i + 1) d) = c + 1 + rc (dz u (nI q)) (i + 1) d by simp; omega]
        exact g1
      · rw [g6 k hk]
        by_cases e : k = i
        · subst e
          rw [if_neg (fun q => by omega), if_pos ⟨Nat.le_refl _, hz⟩, d1_5, if_pos rfl]
        · rw [hcg k e, d1_5, if_neg e]
          by_cases e2 : i + 1 ≤ k ∧ dz u (nI q) k = true
          · rw [if_pos e2, if_pos ⟨by omega, e2.2⟩]
          · rw [if_neg e2, if_neg (fun q => e2 ⟨by omega, q.2⟩)]
/-- a stripe destaged -/
theorem ds_r {N q : Nat} {lat : Nat → Int32} {u : Mem} (hq : q < 16) (h : Core N lat u) (hin : u 0 3 = 1) : ∃ u' : Mem, pX1_destageStripe u (nI q) = some (nI (Dn u (nI q)), u') ∧ Core N lat u' ∧ (∀ b, b < 64 → mi u' b = mi u b) ∧ Kd u u' ∧ (∀ k, k < 12 → u' 5 k = if dz u (nI q) k = true then 0 else u 5 k) ∧ ∀ i, u' 10 i = u 10 i + nI (dcs (Dn u (nI q)) i) := by
  obtain ⟨u1, g1, g2, g3, g4, g5, g6⟩ := ds_p 12 0 FU 0 u rfl (by decide) h hin (by rw [Nat.zero_add]; exact Dn_3 hq h.2.2.2.2.1)
  rw [Nat.zero_add] at g1
  have g6 : ∀ k, k < 12 → u1 5 k = if dz u (nI q) k = true then 0 else u 5 k := fun k hk => by
    rw [g6 k hk]
    by_cases e : dz u (nI q) k = true
    · rw [if_pos e, if_pos ⟨Nat.zero_le _, e⟩]
    · rw [if_neg e, if_neg (fun q => e q.2)]
  have g1 : pX1_destageStripe u (nI q) = dEnd (Dn u (nI q)) u1 := g1
  rw [g1]
  unfold dEnd
  by_cases c : Dn u (nI q) = 0
  · rw [if_pos c, c]
    exact ⟨u1, rfl, g2, g3, g4, g6, fun i => by rw [g5]; exact (Int32.add_zero _).symm⟩
  · rw [if_neg c]
    refine ⟨_, rfl, core_ac (core_ac (core_ac (core_ac g2 _ _) _ _) _ _) _ _, fun b hb => by rw [mi_ac, mi_ac, mi_ac, mi_ac]; exact g3 b hb, g4.tr ((Kd.ac _ _ _).tr ((Kd.ac _ _ _).tr ((Kd.ac _ _ _).tr (Kd.ac _ _ _)))), fun k hk => ?_, fun i => ?_⟩
    · rw [show ∀ v : Mem, ac (ac (ac (ac v 0 (nI (rdN (Dn u (nI q))))) 1 (nI (Dn u (nI q) + 1))) 7 1) 8 (nI (Dn u (nI q))) 5 = v 5 from fun v => rfl]
      exact g6 k hk
    · unfold dcs
      rw [if_neg c]
      simp only [ac_at, g5]
      by_cases e8 : i = 8
      · subst e8; rfl
      by_cases e7 : i = 7
      · subst e7; rfl
      by_cases e1 : i = 1
      · subst e1; rfl
      by_cases e0 : i = 0
      · subst e0; rfl
      · rw [if_neg e8, if_neg e7, if_neg e1, if_neg e0, if_neg e0, if_neg e1, if_neg e7, if_neg e8]
        exact (Int32.add_zero _).symm
theorem dz_k {u u' : Mem} {x : Int32} {k : Nat} (h1 : u' 1 k = u 1 k) (h5 : u' 5 k = u 5 k) : dz u' x k = dz u x k := by
  unfold dz
  rw [h1, h5]
theorem dz_0 {u : Mem} {x : Int32} {k : Nat} (h5 : u 5 k = 0) : dz u x k = false := by
  unfold dz
  rw [decide_eq_false (not_not_intro h5)]
  rfl
/-- behind a stripe's destaging: no dirty line of it, the others' as they were -/
theorem Dn_after {u u' : Mem} {x y : Int32} (h1 : u' 1 = u 1) (h5 : ∀ k, k < 12 → u' 5 k = if dz u x k = true then 0 else u 5 k) : Dn u' y = if y = x then 0 else Dn u y := by
  unfold Dn
  by_cases e : y = x
  · subst e
    rw [if_pos rfl]
    refine rc_0 12 0 (fun k _ hk => ?_)
    by_cases c : dz u y k = true
    · exact dz_0 (by rw [h5 k (by omega), if_pos c])
    · rw [dz_k (by rw [h1]) (by rw [h5 k (by omega), if_neg c])]
      exact Bool.eq_false_iff.mpr c
  · rw [if_neg e]
    refine rc_congr 12 0 (fun k _ hk => ?_)
    by_cases c : dz u x k = true
    · have c1 : dz u' y k = false := dz_0 (by rw [h5 k (by omega), if_pos c])
      rw [c1]
      symm
      unfold dz at c ⊢
      simp only [Bool.and_eq_true, decide_eq_true_eq] at c
      rw [decide_eq_false (p := u 1 k / 4 = y) (fun q => e (q.symm.trans c.2)), Bool.and_false]
    · exact dz_k (by rw [h1]) (by rw [h5 k (by omega), if_neg c])
/-- all stripes destaged -/
theorem da_p {N : Nat} {lat : Nat → Int32} : ∀ (d i n c : Nat) (u : Mem), i + d = 16 → d < n → Core N lat u → u 0 3 = 1 →
    ∃ u' : Mem, pX1_destageStripes_4 n (nI c) (nI i) u = some (nI (c + sm (fun q => Dn u (nI q)) i d), u') ∧ Core N lat u' ∧ (∀ b, b < 64 → mi u' b = mi u b) ∧ Kd u u' ∧ (∀ k, k < 12 → u 5 k = 0 → u' 5 k = 0) ∧ (∀ q, i ≤ q → q < 16 → Dn u' (nI q) = 0) ∧ ∀ j, u' 10 j = u 10 j + nI (sm (fun q => dcs (Dn u (nI q)) j) i d) := by
  intro d
  induction d with
  | zero =>
    intro i n c u hi hn h hin
    obtain ⟨p, rfl⟩ : ∃ p, n = p + 1 := ⟨n - 1, by omega⟩
    obtain rfl : i = 16 := by omega
    refine ⟨u, ?_, h, fun b _ => rfl, Kd.rf u, fun k _ e => e, fun q h1 h2 => by omega, fun j => (Int32.add_zero _).symm⟩
    show pX1_destageStripes_4b _ (nI c) (nI 16) u = _
    unfold pX1_destageStripes_4b
    rw [if_pos at16]; rfl
  | succ d ih =>
    intro i n c u hi hn h hin
    obtain ⟨p, rfl⟩ : ∃ p, n = p + 1 := ⟨n - 1, by omega⟩
    have hi2 : i < 16 := by omega
    obtain ⟨u1, g1, g2, g3, g4, g5, g6⟩ := ds_r hi2 h hin
    have hD : ∀ q, q < 16 → Dn u1 (nI q) = if q = i then 0 else Dn u (nI q) := fun q hq => by
      rw [Dn_after g4.2.1 g5]
      by_cases e : q = i
      · rw [if_pos e, if_pos (congrArg nI e)]
      · rw [if_neg e, if_neg (fun e1 => e (nI_inj (by omega) (by omega) e1))]
    obtain ⟨u2, k1, k2, k3, k4, k5, k6, k7⟩ := ih (i + 1) p (c + Dn u (nI i)) u1 (by omega) (by omega) g2 (by rw [g4.1]; exact hin)
    have s1 : ∀ F : Nat → Nat, sm (fun q => F (Dn u1 (nI q))) (i + 1) d = sm (fun q => F (Dn u (nI q))) (i + 1) d := fun F => sm_congr d (i + 1) (fun q q1 q2 => by rw [hD q (by omega), if_neg (by omega)])
    refine ⟨u2, ?_, k2, fun b hb => (k3 b hb).trans (g3 b hb), g4.tr k4, fun k hk e => k5 k hk ?_, fun q q1 q2 => ?_, fun j => ?_⟩
    · show pX1_destageStripes_4b _ (nI c) (nI i) u = _
      unfold pX1_destageStripes_4b
      rw [if_neg (ge16 hi2), g1, bd2_some, nI_1, nI_add, k1]
      rw [show (fun q => Dn u1 (nI q)) = fun q => (fun x => x) (Dn u1 (nI q)) from rfl, s1 (fun x => x), Nat.add_assoc]
      rfl
    · rw [g5 k hk]; split
      · rfl
      · exact e
    · by_cases e : q = i
      · subst e
        have z : Dn u1 (nI q) = 0 := by rw [hD q q2, if_pos rfl]
        have hz : ∀ k, k < 12 → dz u1 (nI q) k = false := fun k hk => by
          cases hc : dz u1 (nI q) k
          · rfl
          · have := rc_pos hc 12 0 (Nat.zero_le _) (by omega)
            unfold Dn at z
            omega
        refine rc_0 12 0 (fun k _ hk => ?_)
        have hk : k < 12 := by omega
        have h1 := hz k hk
        by_cases c0 : u1 5 k = 0
        · exact dz_0 (k5 k hk c0)
        · unfold dz at h1 ⊢
          rw [decide_eq_true c0, Bool.true_and] at h1
          rw [show u2 1 k = u1 1 k from congrFun k4.2.1 k, h1, Bool.and_false]
      · exact k6 q (by omega) q2
    · rw [k7 j, g6 j, s1 (fun x => dcs x j), Int32.add_assoc, nI_add]
      rfl
theorem all_clean {lat : Nat → Int32} {u : Mem} (hl : ∀ k, k < 12 → LI lat u k) (h : ∀ q, q < 16 → Dn u (nI q) = 0) : Dt u = 0 := by
  rw [← sm_Dn hl]
  rw [sm_congr (g := fun _ => 0) 16 0 (fun q _ q2 => h q (by omega))]
  exact sm_zero 16 0
theorem da_r {N : Nat} {lat : Nat → Int32} {u : Mem} (h : Core N lat u) (hin : u 0 3 = 1) : ∃ u' : Mem, pX1_destageStripes u = some (nI (Dt u), u') ∧ Core N lat u' ∧ (∀ b, b < 64 → mi u' b = mi u b) ∧ Kd u u' ∧ Dt u' = 0 ∧ ∀ j, u' 10 j = u 10 j + nI (sm (fun q => dcs (Dn u (nI q)) j) 0 16) := by
  obtain ⟨u', k1, k2, k3, k4, k5, k6, k7⟩ := da_p 16 0 FU 0 u rfl (by decide) h hin
  rw [Nat.zero_add, sm_Dn h.2.2.2.2.1] at k1
  exact ⟨u', k1, k2, k3, k4, all_clean k2.2.2.2.2.1 (fun q hq => k6 q (Nat.zero_le _) hq), k7⟩
/-- what destaging all would cost -/
theorem od_p {lat : Nat → Int32} {u : Mem} (hl : ∀ k, k < 12 → LI lat u k) : ∀ (d i n c : Nat), i + d = 16 → d < n → pX1_operationsIfDestaged_4 u n (nI c) (nI i) = some (nI (c + sm (fun q => dcs (Dn u (nI q)) 0 + dcs (Dn u (nI q)) 1) i d)) := by
  intro d
  induction d with
  | zero =>
    intro i n c hi hn
    obtain ⟨q, rfl⟩ : ∃ q, n = q + 1 := ⟨n - 1, by omega⟩
    obtain rfl : i = 16 := by omega
    show pX1_operationsIfDestaged_4b u _ (nI c) (nI 16) = _
    unfold pX1_operationsIfDestaged_4b
    rw [if_pos at16]; rfl
  | succ d ih =>
    intro i n c hi hn
    obtain ⟨q, rfl⟩ : ∃ q, n = q + 1 := ⟨n - 1, by omega⟩
    have hi2 : i < 16 := by omega
    show pX1_operationsIfDestaged_4b u _ (nI c) (nI i) = some (nI (c + (dcs (Dn u (nI i)) 0 + dcs (Dn u (nI i)) 1 + sm (fun q => dcs (Dn u (nI q)) 0 + dcs (Dn u (nI q)) 1) (i + 1) d)))
    unfold pX1_operationsIfDestaged_4b
    rw [if_neg (ge16 hi2), dirtyLinesOf_e, ob_some, op_e (Dn_3 hi2 hl), ob_some, nI_1, nI_add, ih (i + 1) q _ (by omega) (by omega), Nat.add_assoc]
theorem od_r {lat : Nat → Int32} {u : Mem} (hl : ∀ k, k < 12 → LI lat u k) : pX1_operationsIfDestaged u = some (nI (sm (fun q => dcs (Dn u (nI q)) 0) 0 16 + sm (fun q => dcs (Dn u (nI q)) 1) 0 16)) := by
  have := od_p hl 16 0 FU 0 rfl (by decide)
  rw [Nat.zero_add, sm_add] at this
  exact this
