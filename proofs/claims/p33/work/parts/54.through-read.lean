/-! A WRITE THROUGH, THE WHOLE WRITE, A READ. -/
/-- the block b on the disks -/
def dk (u : Mem) (b : Nat) (x w : Int32) : Mem := mset (mset u 7 b x) 8 b w
theorem dk_7 (u : Mem) (b : Nat) (x w : Int32) (y : Nat) : dk u b x w 7 y = if y = b then x else u 7 y := by unfold dk; rw [mset_at, if_neg (by decide), mset_at, if_pos rfl]
theorem dk_8 (u : Mem) (b : Nat) (x w : Int32) (y : Nat) : dk u b x w 8 y = if y = b then w else u 8 y := by unfold dk; rw [mset_at, if_pos rfl]; rfl
theorem dk_mi {u : Mem} {b : Nat} {x w : Int32} (h : u 9 b = w) {y : Nat} : mi (dk u b x w) y = if y = b then false else mi u y := by
  unfold mi
  rw [dk_8]
  by_cases e : y = b
  · subst e
    rw [if_pos rfl, if_pos rfl]
    exact @decide_eq_false _ (Classical.propDecidable _) fun q => q.1 h.symm
  · rw [if_neg e, if_neg e]
    rfl
theorem dk_bi {lat : Nat → Int32} {u : Mem} {b : Nat} {x w : Int32} {y : Nat} (h : BI lat u y) (e : ¬ y = b) : BI lat (dk u b x w) y := by
  unfold BI at *
  rw [dk_8, dk_7, if_neg e, if_neg e]
  exact h
theorem dk_li {lat : Nat → Int32} {u : Mem} {b : Nat} {x w : Int32} {k : Nat} (h : LI lat u k) (e : ¬ u 1 k = nI b) : LI lat (dk u b x w) k := by
  rcases h with h | ⟨b', B⟩
  · exact Or.inl h
  · have hne : ¬ b' = b := fun q => e (by rw [B.2.1, q])
    refine Or.inr ⟨b', B.1, B.2.1, B.2.2.1, B.2.2.2.1, B.2.2.2.2.1, B.2.2.2.2.2.1, ?_, fun h5 => ?_⟩
    · rw [dk_8, if_neg hne]; exact B.2.2.2.2.2.2.1
    · rw [dk_8, if_neg hne]; exact B.2.2.2.2.2.2.2 h5
theorem wt_r {N : Nat} {lat : Nat → Int32} {u : Mem} {b : Nat} (x : Int32) (h : Core N lat u) (hN : N < 2 ^ 20) (hb : b < 64) :
    ∃ u' : Mem, pX1_writeThrough (sp u b) (nI b) x = some u' ∧ u' 7 b = x ∧ u' 8 b = u' 9 b ∧ (∀ k, k < 12 → u 0 3 = 1 → u' 1 k = nI b → u' 2 k = x ∧ u' 5 k = 0) ∧ Core (N + 1) (upd lat b x) u' ∧ (∀ y, y < 64 → mi u' y = if y = b then false else mi u y) ∧ u' 0 3 = u 0 3 ∧ u' 6 1 = u 6 1 ∧ u' 0 2 = u 0 2 ∧ (∀ i, u' 10 i = u 10 i + nI (wcs false 0 i)) := by
  obtain ⟨c1, c2, c3, c4, c5, c6⟩ := id h
  obtain ⟨n, n1, n2, n3⟩ := st_up c3 hN
  obtain ⟨n', m, a1, a2, a3, a4⟩ := c3
  obtain ⟨v, hv⟩ : ∃ v, v = dk (sp u b) b x (u 6 0 + 1) := ⟨_, rfl⟩
  have v9 : ∀ y, v 9 y = if y = b then u 6 0 + 1 else u 9 y := fun y => by rw [hv]; exact sp_9 u b y
  have v8 : ∀ y, v 8 y = if y = b then u 6 0 + 1 else u 8 y := fun y => by rw [hv, dk_8]; rfl
  have v7 : ∀ y, v 7 y = if y = b then x else u 7 y := fun y => by rw [hv, dk_7]; rfl
  have v0 : v 0 = u 0 := by rw [hv]; rfl
  have v1 : v 1 = u 1 := by rw [hv]; rfl
  have v2 : v 2 = u 2 := by rw [hv]; rfl
  have v5 : v 5 = u 5 := by rw [hv]; rfl
  have v60 : v 6 0 = u 6 0 + 1 := by rw [hv]; exact sp_6 u b
  have v61 : v 6 1 = u 6 1 := by rw [hv]; rfl
  have v10 : v 10 = u 10 := by rw [hv]; rfl
  have hpos : 0 < v 9 b := by rw [v9, if_pos rfl, n2, nI_1]; exact nI_lt (a := 0) (by omega) (by omega)
  have hbi : ∀ y, y < 64 → ¬ y = b → BI lat v y := fun y hy e => by rw [hv]; exact dk_bi (sp_bi (c4 y hy) e (n3 _ (Int32.le_refl _))) e
  have hbb : BI (upd lat b x) v b := by
    unfold BI
    rw [v8, v9, v7, if_pos rfl, if_pos rfl, if_pos rfl, v60, upd_eq]
    exact ⟨Int32.le_refl _, Int32.le_refl _, fun _ => rfl⟩
  have hli : ∀ k, k < 12 → ¬ u 1 k = nI b → LI lat v k := fun k hk e => by rw [hv]; exact dk_li (sp_li (c5 k hk) e) e
  have hmi : ∀ y, mi v y = if y = b then false else mi u y := fun y => by
    rw [hv, dk_mi (by rw [sp_9, if_pos rfl])]
    by_cases e : y = b
    · rw [if_pos e, if_pos e]
    · rw [if_neg e, if_neg e, sp_mi e]
  -- the disks and the counts
  have f1 : pX1_writeThrough (sp u b) (nI b) x = (pX2_lineInReach (ac (ac v 0 2) 1 (1 + 1)) (nI b)).bind fun y3 => (pX2_fill (ac (ac v 0 2) 1 (1 + 1)) y3 (nI b) x (v 6 0) 0).bind fun u4 => some (ac u4 3 1) := by
    unfold pX1_writeThrough pX1_putOnDisk pX1_putOnDisk_21
    rw [isB_n hb]
    simp only [ob_some]
    rw [if_neg (by decide), st_n hb (by decide), ob_some, st_n hb (by decide), ob_some, ob_some, sp_6]
    rw [show mset (mset (sp u b) 7 b x) 8 b (u 6 0 + 1) = v from hv.symm, cw_1, ob_some]
    simp only [ldc3, stc3, ob_some]
    rfl
  rw [f1]
  have fin : ∀ w : Mem, w 7 b = x → w 8 b = w 9 b → (∀ k, k < 12 → u 0 3 = 1 → w 1 k = nI b → w 2 k = x ∧ w 5 k = 0) → Core (N + 1) (upd lat b x) w → (∀ y, y < 64 → mi w y = if y = b then false else mi u y) → w 0 3 = u 0 3 → w 6 1 = u 6 1 → w 0 2 = u 0 2 → w 10 = u 10 → ∃ u' : Mem, some (ac (ac (ac w 0 2) 1 (1 + 1)) 3 1) = some u' ∧ u' 7 b = x ∧ u' 8 b = u' 9 b ∧ (∀ k, k < 12 → u 0 3 = 1 → u' 1 k = nI b → u' 2 k = x ∧ u' 5 k = 0) ∧ Core (N + 1) (upd lat b x) u' ∧ (∀ y, y < 64 → mi u' y = if y = b then false else mi u y) ∧ u' 0 3 = u 0 3 ∧ u' 6 1 = u 6 1 ∧ u' 0 2 = u 0 2 ∧ (∀ i, u' 10 i = u 10 i + nI (wcs false 0 i)) := by
    intro w g1 g2 g3 g4 g5 g6 g7 g8 g9
    refine ⟨_, rfl, g1, g2, g3, core_ac (core_ac (core_ac g4 _ _) _ _) _ _, fun y hy => by rw [mi_ac, mi_ac, mi_ac]; exact g5 y hy, g6, g7, g8, fun i => ?_⟩
    unfold wcs
    rw [if_neg (by decide)]
    simp only [ac_at, g9]
    by_cases e3 : i = 3
    · subst e3; rfl
    by_cases e1 : i = 1
    · subst e1; rfl
    by_cases e0 : i = 0
    · subst e0; rfl
    · rw [if_neg e3, if_neg e1, if_neg e0, if_neg e0, if_neg e1, if_neg e3]
      exact (Int32.add_zero _).symm
  have fin0 : (∀ k, k < 12 → u 1 k = nI b → u 0 3 = 0) → ∃ u' : Mem, ((some (-1) : Option Int32).bind fun y3 => (pX2_fill (ac (ac v 0 2) 1 (1 + 1)) y3 (nI b) x (v 6 0) 0).bind fun u4 => some (ac u4 3 1)) = some u' ∧ u' 7 b = x ∧ u' 8 b = u' 9 b ∧ (∀ k, k < 12 → u 0 3 = 1 → u' 1 k = nI b → u' 2 k = x ∧ u' 5 k = 0) ∧ Core (N + 1) (upd lat b x) u' ∧ (∀ y, y < 64 → mi u' y = if y = b then false else mi u y) ∧ u' 0 3 = u 0 3 ∧ u' 6 1 = u 6 1 ∧ u' 0 2 = u 0 2 ∧ (∀ i, u' 10 i = u 10 i + nI (wcs false 0 i)) := by
    intro hout
    unfold pX2_fill pX2_fill_42
    rw [ob_some, isL_m1, ob_some, if_pos rfl, ob_some]
    refine fin v (by rw [v7, if_pos rfl]) (by rw [v8, v9, if_pos rfl, if_pos rfl]) (fun k hk hi1 e => ?_) ⟨?_, ?_, ?_, fun y hy => ?_, fun k hk => ?_, ?_⟩ (fun y hy => hmi y) (by rw [v0]) v61 (by rw [v0]) v10
    · rw [v1] at e
      exact absurd ((hout k hk e).symm.trans hi1) (by decide)
    · exact ⟨by rw [v0]; exact c1.1, by rw [v61]; exact c1.2⟩
    · unfold Bat; rw [v0, v1]; exact c2
    · exact ⟨n + 1, m, by omega, by omega, by rw [v60, n2, nI_1], by rw [v0]; exact a4⟩
    · by_cases e : y = b
      · subst e; exact hbb
      · exact (hbi y hy e).lat (upd_ne e)
    · by_cases e : u 1 k = nI b
      · have B := LB.of (c5 k hk) hb e
        have ho := hout k hk e
        refine Or.inr ⟨b, hb, by rw [v1]; exact e, B.2.2.1, by rw [v5]; exact B.2.2.2.1, ?_, ?_, Or.inr ⟨by rw [v0]; exact ho, by rw [v8, v9, if_pos rfl, if_pos rfl], ?_⟩, fun _ => by rw [v8, v9, if_pos rfl, if_pos rfl]⟩
        · rw [hv]; exact B.2.2.2.2.1
        · rw [hv]; exact B.2.2.2.2.2.1
        · rw [v9, if_pos rfl, show v 3 k = u 3 k by rw [hv]; rfl]
          obtain ⟨q1, q2, q3⟩ := c4 b hb
          refine n3 _ ?_
          rcases B.2.2.2.2.2.2.1 with ⟨w1, -⟩ | ⟨-, -, w1⟩
          · rw [w1]; exact q2
          · exact Int32.le_trans (lt_le w1) q2
      · exact (hli k hk e).other (by rw [v1]; exact e)
    · unfold Uq; rw [v1]; exact c6
  unfold pX2_lineInReach pX2_lineInReach_16
  obtain ⟨r, hr, hA⟩ := lineOf_r u (nI b)
  rw [lineOf_c (u := u) (u' := ac (ac v 0 2) 1 (1 + 1)) v1, hr, show ac (ac v 0 2) 1 (1 + 1) 0 3 = u 0 3 from by rw [← v0]; rfl]
  rcases c1.1 with e | e
  · rw [if_pos e]
    exact fin0 (fun _ _ _ => e)
  · have e' : ¬ u 0 3 = 0 := by rw [e]; decide
    rw [if_neg e', ob_some]
    rcases hA with ⟨rfl, hA⟩ | ⟨k, hk, rfl, hk1⟩
    · exact fin0 (fun k hk q => absurd q (hA k hk))
    · have B := LB.of (c5 k hk) hb hk1
      have hj1 : ∀ j, j < 12 → ¬ j = k → ¬ u 1 j = nI b := fun j hj e q => e (c6 j k hj hk (ne_m1 hb q) (q.trans hk1.symm))
      rw [ob_some, fill_u hk (by decide), ob_some]
      have ee : fl (ac (ac v 0 2) 1 (1 + 1)) k (nI b) x (v 6 0) 0 = ac (ac (fl v k (nI b) x (v 6 0) 0) 0 2) 1 (1 + 1) := by
        unfold fl
        rw [show ac (ac v 0 2) 1 (1 + 1) 0 0 = v 0 0 from rfl]
        simp only [ac_mset (show ¬ 0 = 10 by decide), ac_mset (show ¬ 1 = 10 by decide), ac_mset (show ¬ 2 = 10 by decide), ac_mset (show ¬ 3 = 10 by decide), ac_mset (show ¬ 4 = 10 by decide), ac_mset (show ¬ 5 = 10 by decide)]
      rw [ee]
      have e96 : v 9 b = v 6 0 := by rw [v9, if_pos rfl, v60]
      have hc0 : ¬ v 0 2 = 0 := by rw [v0]; exact line_ch h hk (ne_m1 hb hk1)
      rw [← e96]
      refine fin (fl v k (nI b) x (v 9 b) 0) ?_ ?_ (fun j hj _ q => ?_) ?_ (fun y hy => ?_) ?_ v61 ?_ v10
      · show v 7 b = x
        rw [v7, if_pos rfl]
      · show v 8 b = v 9 b
        rw [v8, v9, if_pos rfl, if_pos rfl]
      · rw [fl_1] at q
        by_cases ej : j = k
        · rw [fl_2, fl_5, if_pos ej, if_pos ej]; exact ⟨rfl, rfl⟩
        · rw [if_neg ej, v1] at q
          exact absurd q (hj1 j hj ej)
      · refine fl_core hb hk B.2.2.1 (Or.inl rfl) ⟨by rw [v0]; exact c1.1, by rw [v61]; exact c1.2⟩ (by unfold Bat; rw [v0, v1]; exact c2) hc0 ⟨n + 1, m, by omega, by omega, by rw [v60, n2, nI_1], by rw [v0]; exact a4⟩ (by omega) hbi hbb (fun j hj e => ⟨by rw [v1]; exact hj1 j hj e, hli j hj (hj1 j hj e)⟩) (by unfold Uq; rw [v1]; exact c6) hpos (fun _ => by rw [v8, v9, if_pos rfl, if_pos rfl])
      · rw [fl_mi (lat := lat) hb hk (Or.inl (by rw [v1]; exact hk1)) y hy, hmi y]
        by_cases e : y = b
        · rw [if_pos e, if_pos e]
        · rw [if_neg e, if_neg e]
      · rw [fl_0, if_neg (by decide), v0]
      · rw [fl_0, if_neg (by decide), v0]
/-- a write: its cost is told ahead -/
theorem wb_r {N : Nat} {lat : Nat → Int32} {u : Mem} {b : Nat} (x : Int32) (h : Core N lat u) (hN : N < 2 ^ 20) (hb : b < 64) :
    ∃ (g : Bool) (z : Nat) (u' : Mem), (g = true ↔ u 0 3 = 1 ∧ ¬ u 0 2 < 20) ∧ pX1_writeBlock u (nI b) x = some (nI (wcs g z 0 + wcs g z 1), u') ∧ pX1_operationsIfWritten u (nI b) = some (nI (wcs g z 0 + wcs g z 1)) ∧ z ≤ 3 ∧
      (g = true → ∃ k, k < 12 ∧ u' 1 k = nI b ∧ u' 2 k = x ∧ u' 5 k = 1) ∧ (g = true → (z = 0 ↔ ((∃ k, k < 12 ∧ u 1 k = nI b) ∨ ∃ k, 3 * (b / 4 % 4) ≤ k ∧ k < 3 * (b / 4 % 4) + 3 ∧ u 5 k = 0))) ∧
      (g = false → u' 7 b = x ∧ u' 8 b = u' 9 b ∧ ∀ k, k < 12 → u 0 3 = 1 → u' 1 k = nI b → u' 2 k = x ∧ u' 5 k = 0) ∧
      Core (N + 1) (upd lat b x) u' ∧ (∀ y, y < 64 → mi u' y = if y = b then false else mi u y) ∧ u' 0 3 = u 0 3 ∧ u' 6 1 = u 6 1 ∧ u' 0 2 = u 0 2 ∧ (∀ i, u' 10 i = u 10 i + nI (wcs g z i)) := by
  have e0 : pX1_writeBlock u (nI b) x = pX1_writeBlock_41 (nI b) x (u 10 0 + u 10 1) (sp u b) := by
    unfold pX1_writeBlock
    simp only [ldc0, ldc1, ob_some, pf_e]
    rw [isB_n hb, ob_some, if_neg one0, st_n hb (by decide), ob_some]
    rw [show mset u 6 0 (u 6 0 + 1) 6 0 = u 6 0 + 1 by rw [mset_at, if_pos rfl, if_pos rfl]]
    rfl
  rw [e0]
  unfold pX1_writeBlock_41 pX1_operationsIfWritten pX1_operationsIfWritten_47 pX4_stripeOf
  rw [gath_e h.1, gath_e (sp_bits (b := b) h.1), ob_some, ob_some]
  rw [show sp u b 0 = u 0 from rfl]
  by_cases c : u 0 3 = 1 ∧ ¬ u 0 2 < 20
  · rw [decide_eq_true c, if_neg (show ¬ b2 true = 0 by decide), if_neg (show ¬ b2 true = 0 by decide), ob_some]
    obtain ⟨z, k, u', g1, g2, g3, g4, g5, g6, g7, g8, g9, g10, g11, g12, g13, g14⟩ := ga_r x h hN hb c.1 c.2
    rw [g1, ob_some, g13]
    refine ⟨true, z, u', ⟨fun _ => c, fun _ => rfl⟩, wr63 (g11 0) (g11 1), ?_, g12, fun _ => ⟨k, g2, g3, g4, g5⟩, fun _ => g14, (fun q => nomatch q), g6, g7, g8.trans c.1.symm, g9, g10, g11⟩
    rfl
  · rw [decide_eq_false c, if_pos (show b2 false = 0 from rfl), if_pos (show b2 false = 0 from rfl)]
    obtain ⟨u', g1, g2, g3, g4, g5, g6, g7, g8, g9, g10⟩ := wt_r x h hN hb
    rw [g1, ob_some]
    refine ⟨false, 0, u', ⟨(fun q => nomatch q), fun q => absurd q c⟩, wr63 (g10 0) (g10 1), by decide, by decide, (fun q => nomatch q), (fun q => nomatch q), fun _ => ⟨g2, g3, g4⟩, g5, g6, g7, g8, g9, g10⟩
/-- a line used -/
theorem use_e {u : Mem} {k : Nat} (hk : k < 12) : pX2_use u (nI k) = some (mset (mset u 0 0 (u 0 0 + 1)) 4 k (u 0 0 + 1)) := by
  unfold pX2_use pX2_use_27
  rw [isL_n hk, ob_some, if_neg one0, pf_e, ob_some, st_n hk (by decide), ob_some]
  rw [show mset u 0 0 (u 0 0 + 1) 0 0 = u 0 0 + 1 by rw [mset_at, if_pos rfl, if_pos rfl]]
theorem use_core {N : Nat} {lat : Nat → Int32} {u : Mem} {k : Nat} (h : Core N lat u) (hN : N < 2 ^ 20) : Core (N + 1) lat (mset (mset u 0 0 (u 0 0 + 1)) 4 k (u 0 0 + 1)) := by
  obtain ⟨c1, c2, ⟨n, m, a1, a2, a3, a4⟩, c4, c5, c6⟩ := h
  have e4 : ∀ j, mset (mset u 0 0 (u 0 0 + 1)) 4 k (u 0 0 + 1) 4 j = if j = k then u 0 0 + 1 else u 4 j := fun j => by rw [mset_at, if_pos rfl]; rfl
  refine ⟨c1, c2, ⟨n, m + 1, by omega, by omega, a3, ?_⟩, c4, fun j hj => ?_, c6⟩
  · show mset u 0 0 (u 0 0 + 1) 0 0 = _
    rw [mset_at, if_pos rfl, if_pos rfl, a4, nI_1]
  · rcases c5 j hj with q | ⟨b, B⟩
    · exact Or.inl q
    · refine Or.inr ⟨b, B.1, B.2.1, B.2.2.1, B.2.2.2.1, B.2.2.2.2.1, ?_, B.2.2.2.2.2.2⟩
      rw [e4]
      split
      · rw [a4, nI_1]; exact nI_lt (a := 0) (by omega) (by omega)
      · exact B.2.2.2.2.2.1
def rcs (f : Bool) (i : Nat) : Nat := if f = true then (if i = 4 then 1 else 0) else (if i = 5 then 1 else if i = 0 then 1 else 0)
/-- a read -/
theorem rb_r {N : Nat} {lat : Nat → Int32} {u : Mem} {b : Nat} (h : Core N lat u) (hN : N < 2 ^ 20) (hb : b < 64) :
    ∃ (f : Bool) (y : Int32) (u' : Mem), pX1_readBlock u (nI b) = some (y, u') ∧ (f = true → u 0 3 = 1 ∧ ∃ k, k < 12 ∧ u 1 k = nI b ∧ y = u 2 k) ∧ (f = false → (u 0 3 = 0 ∨ ∀ k, k < 12 → ¬ u 1 k = nI b) ∧ y = u 7 b) ∧ Core (N + 1) lat u' ∧ (∀ y, mi u' y = mi u y) ∧ ∀ i, u' 10 i = u 10 i + nI (rcs f i) := by
  obtain ⟨r, hr, hA⟩ := lineOf_r u (nI b)
  unfold pX1_readBlock pX2_lineInReach pX2_lineInReach_16
  have disk : (u 0 3 = 0 ∨ ∀ k, k < 12 → ¬ u 1 k = nI b) → ∃ (f : Bool) (y : Int32) (u' : Mem), ((some (-1) : Option Int32).bind fun y1 => (pX4_isLine y1).bind fun y2 => if y2 = 0 then (ld u 10 9 5).bind fun y4 => (st u 10 9 5 (y4 + 1)).bind fun u5 => (ld u5 10 9 0).bind fun y6 => (st u5 10 9 0 (y6 + 1)).bind fun u7 => (pX1_diskValueOf u7 (nI b)).bind fun y8 => some (y8, u7) else (ld u 10 9 4).bind fun y9 => (st u 10 9 4 (y9 + 1)).bind fun u10 => (pX2_use u10 y1).bind fun u11 => (ld u11 2 12 y1).bind fun y12 => some (y12, u11)) = some (y, u') ∧ (f = true → u 0 3 = 1 ∧ ∃ k, k < 12 ∧ u 1 k = nI b ∧ y = u 2 k) ∧ (f = false → (u 0 3 = 0 ∨ ∀ k, k < 12 → ¬ u 1 k = nI b) ∧ y = u 7 b) ∧ Core (N + 1) lat u' ∧ (∀ y, mi u' y = mi u y) ∧ ∀ i, u' 10 i = u 10 i + nI (rcs f i) := by
    intro hd
    rw [ob_some, isL_m1, ob_some, if_pos rfl]
    simp only [ldc5, stc5, ldc0, stc0, ob_some]
    unfold pX1_diskValueOf pX1_diskValueOf_17
    rw [isB_n hb, ob_some, if_neg one0, ld_n hb (by decide), ob_some, ob_some]
    refine ⟨false, u 7 b, ac (ac u 5 1) 0 1, rfl, (fun q => nomatch q), fun _ => ⟨hd, rfl⟩, (core_ac (core_ac h _ _) _ _).mono (by omega), fun y => by rw [mi_ac, mi_ac], fun i => ?_⟩
    unfold rcs
    rw [if_neg (by decide)]
    simp only [ac_at]
    by_cases e0 : i = 0
    · subst e0; rfl
    by_cases e5 : i = 5
    · subst e5; rfl
    · rw [if_neg e0, if_neg e5, if_neg e5, if_neg e0]
      exact (Int32.add_zero _).symm
  rcases h.1.1 with e | e
  · rw [if_pos e]
    exact disk (Or.inl e)
  · have e' : ¬ u 0 3 = 0 := by rw [e]; decide
    rw [if_neg e', hr, ob_some]
    rcases hA with ⟨rfl, hA⟩ | ⟨k, hk, rfl, hk1⟩
    · exact disk (Or.inr hA)
    · rw [ob_some, isL_n hk, ob_some, if_neg one0]
      simp only [ldc4, stc4, ob_some]
      rw [use_e hk, ob_some, ld_n hk (by decide), ob_some]
      refine ⟨true, u 2 k, _, rfl, fun _ => ⟨e, k, hk, hk1, rfl⟩, (fun q => nomatch q), use_core (core_ac h 4 1) hN, fun y => ?_, fun i => ?_⟩
      · show mi (mset (mset (ac u 4 1) 0 0 (ac u 4 1 0 0 + 1)) 4 k (ac u 4 1 0 0 + 1)) y = _
        rw [mi_of (u := ac u 4 1) (u' := mset (mset (ac u 4 1) 0 0 (ac u 4 1 0 0 + 1)) 4 k (ac u 4 1 0 0 + 1)) rfl rfl rfl rfl, mi_ac]
      · show ac u 4 1 10 i = _
        rw [ac_at]
        unfold rcs
        rw [if_pos rfl]
        by_cases e4 : i = 4
        · rw [if_pos e4, if_pos e4]; rfl
        · rw [if_neg e4, if_neg e4]; exact (Int32.add_zero _).symm
