/-! DESTAGING, on both sides. -/
/-- one count raised -/
def ac (u : Mem) (i : Nat) (y : Int32) : Mem := mset u 10 i (u 10 i + y)
def acs (s : Nat → Int32) (i : Nat) (y : Int32) : Nat → Int32 := upd s (6 + i) (s (6 + i) + y)
theorem rel_ac {s : Nat → Int32} {u : Mem} (h : Rel s u) {i : Nat} (hi : i < 9) (y : Int32) : Rel (acs s i y) (ac u i y) := by
  unfold acs ac
  rw [h.2.1 i hi]
  exact rel_cnt h _ hi
theorem ac_ne {u : Mem} {i : Nat} {y : Int32} {k : Nat} (hk : ¬ k = 10) : ac u i y k = u k := mset_ne hk
theorem acs_same {s s' : Nat → Int32} (h : Same s s') {i : Nat} (hi : i < 9) (y : Int32) : Same s (acs s' i y) := h.up (by omega)
/-- Inv asks of these things alone -/
theorem inv_of {N : Nat} {u u' : Mem} (h : Inv N u) (h0 : u' 0 1 = u 0 1 ∧ u' 0 2 = u 0 2 ∧ u' 0 3 = u 0 3) (h1 : u' 1 = u 1) (h5 : u' 5 = u 5) (h6 : u' 6 = u 6) (h8 : u' 8 = u 8) (h9 : u' 9 = u 9) : Inv N u' := by
  unfold Inv LineOK at *
  rw [h0.1, h0.2.1, h0.2.2, h1, h5, h6, h8, h9]
  exact h
theorem inv_ac {N : Nat} {u : Mem} (h : Inv N u) (i : Nat) (y : Int32) : Inv N (ac u i y) := inv_of h ⟨congrFun (ac_ne (by decide)) 1, congrFun (ac_ne (by decide)) 2, congrFun (ac_ne (by decide)) 3⟩ (ac_ne (by decide)) (ac_ne (by decide)) (ac_ne (by decide)) (ac_ne (by decide)) (ac_ne (by decide))
/-- what a step leaves as it was -/
def Kp (u u' : Mem) : Prop := u' 0 = u 0 ∧ u' 1 = u 1 ∧ u' 6 = u 6 ∧ u' 9 = u 9
theorem Kp.rf (u : Mem) : Kp u u := ⟨rfl, rfl, rfl, rfl⟩
theorem Kp.tr {u u1 u2 : Mem} (h : Kp u u1) (h2 : Kp u1 u2) : Kp u u2 := ⟨h2.1.trans h.1, h2.2.1.trans h.2.1, h2.2.2.1.trans h.2.2.1, h2.2.2.2.trans h.2.2.2⟩
theorem Kp.ac (u : Mem) (i : Nat) (y : Int32) : Kp u (ac u i y) := ⟨ac_ne (by decide), ac_ne (by decide), ac_ne (by decide), ac_ne (by decide)⟩
theorem cw_p {s : Nat → Int32} {u m : Mem} {N : Nat} (h : Rel s u) (hI : Inv N u) {x : Nat} (h0 : 1 ≤ x) (h3 : x ≤ 3) : ∃ (u' : Mem) (s' : Nat → Int32), pX1_countWrittenTogether u (nI x) = some u' ∧ pX5_countsWrite (mp m s) (nI x) = some (mp m s') ∧ Rel s' u' ∧ Inv N u' ∧ Same s s' ∧ Kp u u' ∧ u' 5 = u 5 ∧ u' 7 = u 7 ∧ u' 8 = u 8 := by
  obtain ⟨r, hr1, hr2⟩ := reads_eq h0 h3
  refine ⟨ac (ac u 0 r) 1 (nI x + 1), acs (acs s 0 r) 1 (nI x + 1), ?_, ?_, rel_ac (rel_ac h (by decide) _) (by decide) _, inv_ac (inv_ac hI _ _) _ _, acs_same (acs_same (Same.rf s) (by decide) _) (by decide) _, (Kp.ac _ _ _).tr (Kp.ac _ _ _), (ac_ne (by decide)).trans (ac_ne (by decide)), (ac_ne (by decide)).trans (ac_ne (by decide)), (ac_ne (by decide)).trans (ac_ne (by decide))⟩
  · unfold pX1_countWrittenTogether pX4_writesToWrite
    simp only [ldc0, stc0, ldc1, stc1, ob_some, hr1]
    rfl
  · unfold pX5_countsWrite
    simp only [ldm6, stm6, ldm7, stm7, ob_some, hr2]
    rfl
/-- one dirty line comes to the disk -/
def d1 (u : Mem) (b i : Nat) : Mem := mset (mset (mset u 7 b (u 2 i)) 8 b (u 3 i)) 5 i 0
def d1s (s : Nat → Int32) (b i : Nat) : Nat → Int32 := upd (upd (upd s (15 + 2 * b) (s (271 + 5 * i + 1))) (15 + 2 * b + 1) (s (271 + 5 * i + 2))) (271 + 5 * i + 4) 0
theorem rel_d1 {s : Nat → Int32} {u : Mem} (h : Rel s u) {b i : Nat} (hb : b < 64) (hi : i < 12) : Rel (d1s s b i) (d1 u b i) := by
  unfold d1s d1
  rw [(h.2.2.2 i hi).2.1, (h.2.2.2 i hi).2.2.1]
  exact rel_kd (rel_ds (rel_dv h _ hb) _ hb) _ hi
theorem inv_d1 {N : Nat} {u : Mem} (h : Inv N u) {b i : Nat} (hb : b < 64) (hi : i < 12) (h9 : ¬ u 9 b = 0) : Inv N (d1 u b i) := by
  obtain ⟨h1, h2, h3, h4, h5⟩ := h
  have e5 : ∀ k, d1 u b i 5 k = if k = i then 0 else u 5 k := fun k => by unfold d1; rw [mset_at, if_pos rfl]; rfl
  have e8 : ∀ k, d1 u b i 8 k = if k = b then u 3 i else u 8 k := fun k => by unfold d1; rw [mset_at, if_neg (by decide), mset_at, if_pos rfl]; rfl
  refine ⟨h1, h2, h3, fun k hk => ?_, fun x hx (x0 : u 9 x = 0) => ?_⟩
  · rcases h4 k hk with ⟨a1, a2⟩ | ⟨x, x1, x2, x3, x4, x5⟩
    · refine Or.inl ⟨a1, ?_⟩
      rw [e5]; split
      · rfl
      · exact a2
    · refine Or.inr ⟨x, x1, x2, x3, ?_, x5⟩
      rw [e5]; split
      · exact Or.inl rfl
      · exact x4
  · rw [e8, if_neg (fun e => h9 (by rw [← e]; exact x0))]
    exact h5 x hx x0
theorem Kp.d1 (u : Mem) (b i : Nat) : Kp u (d1 u b i) := ⟨rfl, rfl, rfl, rfl⟩
theorem d1s_same {s s' : Nat → Int32} (h : Same s s') {b i : Nat} (hb : b < 64) (hi : i < 12) : Same s (d1s s' b i) := ((h.up (by omega)).up (by omega)).up (by omega)
theorem ds_p {m : Mem} {N q : Nat} : ∀ (d i n c : Nat) (u : Mem) (s : Nat → Int32), i + d = 12 → d < n → Rel s u → Inv N u → c + rc (dz u (nI q)) i d ≤ 3 →
    ∃ (r : Nat) (u' : Mem) (s' : Nat → Int32), pX1_destageStripe_4 (nI q) n (nI c) (nI i) u = some (nI r, u') ∧ pX5_destages_4 (nI q) n (nI c) (nI i) (mp m s) = some (nI r, mp m s') ∧ Rel s' u' ∧ Inv N u' ∧ Same s s' ∧ Kp u u' ∧ (∀ k, k < 12 → u 5 k = 0 → u' 5 k = 0) ∧ ∀ k, k < 12 → i ≤ k → dz u (nI q) k = true → u' 5 k = 0 := by
  intro d
  induction d with
  | zero =>
    intro i n c u s hi hn h hI hc
    obtain ⟨p, rfl⟩ : ∃ p, n = p + 1 := ⟨n - 1, by omega⟩
    obtain rfl : i = 12 := by omega
    have hc3 : c ≤ 3 := hc
    have e1 : pX1_destageStripe_4 (nI q) (p + 1) (nI c) (nI 12) u = if nI c ≤ 0 then some (nI c, u) else (pX1_countWrittenTogether u (nI c)).bind fun u1 => some (nI c, ac (ac u1 7 1) 8 (nI c)) := by
      show pX1_destageStripe_4b (nI q) _ (nI c) (nI 12) u = _
      unfold pX1_destageStripe_4b pX1_destageStripe_103
      rw [if_pos at12]
      simp only [ldc7, stc7, ldc8, stc8, ob_some]
      rfl
    have e2 : ∀ s : Nat → Int32, pX5_destages_4 (nI q) (p + 1) (nI c) (nI 12) (mp m s) = if nI c ≤ 0 then some (nI c, mp m s) else (pX5_countsWrite (mp m s) (nI c)).bind fun m1 => (ld m1 1 2317 13).bind fun y => (st m1 1 2317 13 (y + 1)).bind fun m2 => (ld m2 1 2317 14).bind fun y => (st m2 1 2317 14 (y + nI c)).bind fun m3 => some (nI c, m3) := by
      intro s
      show pX5_destages_4b (nI q) _ (nI c) (nI 12) (mp m s) = _
      unfold pX5_destages_4b pX5_destages_88
      rw [if_pos at12]
    rw [e1, e2]
    by_cases c0 : c = 0
    · subst c0
      refine ⟨0, u, s, by rw [if_pos (by decide)], by rw [if_pos (by decide)], h, hI, Same.rf s, Kp.rf u, fun k _ h => h, fun k h1 h2 => by omega⟩
    · obtain ⟨u1, s1, g1, g2, g3, g4, g5, g6, g7, -, -⟩ := cw_p (m := m) h hI (x := c) (by omega) hc3
      rw [if_neg (nI_nle (by omega) (by omega)), if_neg (nI_nle (by omega) (by omega)), g1, g2, ob_some, ob_some]
      refine ⟨c, ac (ac u1 7 1) 8 (nI c), acs (acs s1 7 1) 8 (nI c), rfl, ?_, rel_ac (rel_ac g3 (by decide) _) (by decide) _, inv_ac (inv_ac g4 _ _) _ _, acs_same (acs_same g5 (by decide) _) (by decide) _, g6.tr ((Kp.ac _ _ _).tr (Kp.ac _ _ _)), ?_, fun k h1 h2 => by omega⟩
      · simp only [ldm13, stm13, ldm14, stm14, ob_some]
        rfl
      · intro k hk h0
        rw [show ac (ac u1 7 1) 8 (nI c) 5 = u1 5 from (ac_ne (by decide)).trans (ac_ne (by decide)), g7]
        exact h0
  | succ d ih =>
    intro i n c u s hi hn h hI hc
    obtain ⟨p, rfl⟩ : ∃ p, n = p + 1 := ⟨n - 1, by omega⟩
    have hi2 : i < 12 := by omega
    have hc' : c + ((dz u (nI q) i).toNat + rc (dz u (nI q)) (i + 1) d) ≤ 3 := hc
    have hl := hI.2.2.2.1 i hi2
    have e1 : pX1_destageStripe_4 (nI q) (p + 1) (nI c) (nI i) u = if b2 (dz u (nI q) i) = 0 then pX1_destageStripe_4 (nI q) p (nI c) (nI (i + 1)) u else (pX1_putOnDisk u (u 1 i) (u 2 i) (u 3 i)).bind fun u1 => (stz u1 5 12 (nI i) 0).bind fun u2 => pX1_destageStripe_4 (nI q) p (nI (c + 1)) (nI (i + 1)) u2 := by
      show pX1_destageStripe_4b (nI q) _ (nI c) (nI i) u = _
      unfold pX1_destageStripe_4b pX1_destageStripe_66
      rw [if_neg (ge12 hi2), isD_u hi2]
      simp only [ob_some, ld_n hi2 (by decide : (12 : Nat) < 2 ^ 31), nI_1]
    have e2 : pX5_destages_4 (nI q) (p + 1) (nI c) (nI i) (mp m s) = if b2 (dz u (nI q) i) = 0 then pX5_destages_4 (nI q) p (nI c) (nI (i + 1)) (mp m s) else (pX5_toDisk (mp m s) (s (271 + 5 * i + 0)) (s (271 + 5 * i + 1)) (s (271 + 5 * i + 2))).bind fun u1 => (pX5_lay u1 (nI i) 4 0).bind fun u2 => pX5_destages_4 (nI q) p (nI (c + 1)) (nI (i + 1)) u2 := by
      show pX5_destages_4b (nI q) _ (nI c) (nI i) (mp m s) = _
      unfold pX5_destages_4b pX5_destages_51
      rw [if_neg (ge12 hi2), isD_m h hi2 hl]
      simp only [ob_some, of0 hi2, of1 hi2, of2 hi2, nI_1]
    rw [e1, e2]
    cases hz : dz u (nI q) i
    · rw [if_pos (show b2 false = 0 from rfl), if_pos (show b2 false = 0 from rfl)]
      rw [hz] at hc'
      obtain ⟨r, u', s', g1, g2, g3, g4, g5, g6, g7, g8⟩ := ih (i + 1) p c u s (by omega) (by omega) h hI (by simpa using hc')
      refine ⟨r, u', s', g1, g2, g3, g4, g5, g6, g7, fun k k1 k2 k3 => ?_⟩
      by_cases e : k = i
      · subst e; rw [hz] at k3; cases k3
      · exact g8 k k1 (by omega) k3
    · rw [if_neg (show ¬ b2 true = 0 by decide), if_neg (show ¬ b2 true = 0 by decide)]
      rw [hz] at hc'
      have hd0 : ¬ u 5 i = 0 := by
        unfold dz at hz
        simp only [Bool.and_eq_true, decide_eq_true_eq] at hz
        exact hz.1
      rcases hl with ⟨-, e2⟩ | ⟨b, hb, e1, hs, hd, h9⟩
      · exact absurd e2 hd0
      · rw [show s (271 + 5 * i + 0) = u 1 i from (h.2.2.2 i hi2).1, e1]
        have f1 : pX1_putOnDisk u (nI b) (u 2 i) (u 3 i) = some (mset (mset u 7 b (u 2 i)) 8 b (u 3 i)) := by
          unfold pX1_putOnDisk pX1_putOnDisk_21
          rw [isB_n hb, ob_some, if_neg (by decide), st_n hb (by decide), ob_some, st_n hb (by decide), ob_some]
        have f2 : pX5_toDisk (mp m s) (nI b) (s (271 + 5 * i + 1)) (s (271 + 5 * i + 2)) = some (mp m (upd (upd s (15 + 2 * b) (s (271 + 5 * i + 1))) (15 + 2 * b + 1) (s (271 + 5 * i + 2)))) := by
          unfold pX5_toDisk
          rw [stm_dv hb, ob_some, stm_ds hb, ob_some]
        rw [f1, f2, ob_some, ob_some, stz_n (by decide) hi2 (by decide), lay4 hi2, ob_some, ob_some]
        have hcg : rc (dz (d1 u b i) (nI q)) (i + 1) d = rc (dz u (nI q)) (i + 1) d := rc_congr d (i + 1) (fun k k1 k2 => by
          unfold dz
          rw [show d1 u b i 5 k = u 5 k by unfold d1; rw [mset_at, if_pos rfl, if_neg (by omega)]; rfl, show d1 u b i 1 k = u 1 k from rfl])
        obtain ⟨r, u', s', g1, g2, g3, g4, g5, g6, g7, g8⟩ := ih (i + 1) p (c + 1) (d1 u b i) (d1s s b i) (by omega) (by omega) (rel_d1 h hb hi2) (inv_d1 hI hb hi2 h9) (by rw [hcg]; simp at hc'; omega)
        have z0 : ∀ k, k < 12 → u 5 k = 0 → d1 u b i 5 k = 0 := fun k k1 k2 => by
          unfold d1; rw [mset_at, if_pos rfl]; split
          · rfl
          · exact k2
        refine ⟨r, u', s', g1, g2, g3, g4, Same.tr (d1s_same (Same.rf s) hb hi2) g5, (Kp.d1 u b i).tr g6, fun k k1 k2 => g7 k k1 (z0 k k1 k2), fun k k1 k2 k3 => ?_⟩
        by_cases e : k = i
        · subst e
          exact g7 k k1 (by unfold d1; rw [mset_at, if_pos rfl, if_pos rfl])
        · refine g8 k k1 (by omega) ?_
          unfold dz at k3 ⊢
          rw [show d1 u b i 5 k = u 5 k by unfold d1; rw [mset_at, if_pos rfl, if_neg e]; rfl, show d1 u b i 1 k = u 1 k from rfl]
          exact k3
theorem ds_r {m : Mem} {N q : Nat} {u : Mem} {s : Nat → Int32} (hq : q < 16) (h : Rel s u) (hI : Inv N u) : ∃ (r : Nat) (u' : Mem) (s' : Nat → Int32), pX1_destageStripe u (nI q) = some (nI r, u') ∧ pX5_destages (mp m s) (nI q) = some (nI r, mp m s') ∧ Rel s' u' ∧ Inv N u' ∧ Same s s' ∧ Kp u u' ∧ (∀ k, k < 12 → u 5 k = 0 → u' 5 k = 0) ∧ ∀ k, k < 12 → dz u (nI q) k = true → u' 5 k = 0 := by
  obtain ⟨r, u', s', g1, g2, g3, g4, g5, g6, g7, g8⟩ := ds_p (m := m) 12 0 FU 0 u s rfl (by decide) h hI (by rw [Nat.zero_add]; exact Dn_3 hq hI.2.2.2.1)
  exact ⟨r, u', s', g1, g2, g3, g4, g5, g6, g7, fun k k1 k2 => g8 k k1 (Nat.zero_le _) k2⟩
theorem da_p {m : Mem} {N : Nat} : ∀ (d i n : Nat) (c : Int32) (u : Mem) (s : Nat → Int32), i + d = 16 → d < n → Rel s u → Inv N u → PrI N (pX1_destageStripes_4 n c (nI i) u) (pX5_destagesAll_4 n c (nI i) (mp m s)) m s := by
  intro d
  induction d with
  | zero =>
    intro i n c u s hi hn h hI
    obtain ⟨p, rfl⟩ : ∃ p, n = p + 1 := ⟨n - 1, by omega⟩
    obtain rfl : i = 16 := by omega
    refine ⟨c, u, s, ?_, ?_, h, hI, Same.rf s⟩
    · show pX1_destageStripes_4b _ c (nI 16) u = _
      unfold pX1_destageStripes_4b
      rw [if_pos at16]
    · show pX5_destagesAll_4b _ c (nI 16) (mp m s) = _
      unfold pX5_destagesAll_4b
      rw [if_pos at16]
  | succ d ih =>
    intro i n c u s hi hn h hI
    obtain ⟨p, rfl⟩ : ∃ p, n = p + 1 := ⟨n - 1, by omega⟩
    have hi2 : i < 16 := by omega
    obtain ⟨r, u1, s1, g1, g2, g3, g4, g5, -⟩ := ds_r (m := m) hi2 h hI
    obtain ⟨r2, u2, s2, k1, k2, k3, k4, k5⟩ := ih (i + 1) p (c + nI r) u1 s1 (by omega) (by omega) g3 g4
    refine ⟨r2, u2, s2, ?_, ?_, k3, k4, g5.tr k5⟩
    · show pX1_destageStripes_4b _ c (nI i) u = _
      unfold pX1_destageStripes_4b
      rw [if_neg (ge16 hi2), g1, bd2_some, nI_1]
      exact k1
    · show pX5_destagesAll_4b _ c (nI i) (mp m s) = _
      unfold pX5_destagesAll_4b
      rw [if_neg (ge16 hi2), g2, bd2_some, nI_1]
      exact k2
theorem da_r {m : Mem} {N : Nat} {u : Mem} {s : Nat → Int32} (h : Rel s u) (hI : Inv N u) : PrI N (pX1_destageStripes u) (pX5_destagesAll (mp m s)) m s := da_p 16 0 FU 0 u s rfl (by decide) h hI
