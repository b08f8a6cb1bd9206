/-! WRITING AND READING A BLOCK. -/
theorem fl_0 (u : Mem) (k : Nat) (b x w d : Int32) (j : Nat) : fl u k b x w d 0 j = if j = 0 then u 0 0 + 1 else u 0 j := by
  show mset u 0 0 (u 0 0 + 1) 0 j = _
  rw [mset_at, if_pos rfl]
theorem fl_1 (u : Mem) (k : Nat) (b x w d : Int32) (j : Nat) : fl u k b x w d 1 j = if j = k then b else u 1 j := by
  show mset (mset u 0 0 (u 0 0 + 1)) 1 k b 1 j = _
  rw [mset_at, if_pos rfl]; rfl
theorem fl_2 (u : Mem) (k : Nat) (b x w d : Int32) (j : Nat) : fl u k b x w d 2 j = if j = k then x else u 2 j := by
  show mset (mset (mset u 0 0 (u 0 0 + 1)) 1 k b) 2 k x 2 j = _
  rw [mset_at, if_pos rfl]; rfl
theorem fl_3 (u : Mem) (k : Nat) (b x w d : Int32) (j : Nat) : fl u k b x w d 3 j = if j = k then w else u 3 j := by
  show mset (mset (mset (mset u 0 0 (u 0 0 + 1)) 1 k b) 2 k x) 3 k w 3 j = _
  rw [mset_at, if_pos rfl]; rfl
theorem fl_4 (u : Mem) (k : Nat) (b x w d : Int32) (j : Nat) : fl u k b x w d 4 j = if j = k then u 0 0 + 1 else u 4 j := by
  unfold fl
  rw [mset_at, if_pos rfl]; rfl
theorem fl_5 (u : Mem) (k : Nat) (b x w d : Int32) (j : Nat) : fl u k b x w d 5 j = if j = k then d else u 5 j := by
  show mset (mset (mset (mset (mset u 0 0 (u 0 0 + 1)) 1 k b) 2 k x) 3 k w) 5 k d 5 j = _
  rw [mset_at, if_pos rfl]; rfl
theorem upd_ne {f : Nat → Int32} {b y : Nat} {x : Int32} (h : ¬ y = b) : upd f b x y = f y := by rw [upd_at, if_neg h]
theorem upd_eq {f : Nat → Int32} {b : Nat} {x : Int32} : upd f b x b = x := by rw [upd_at, if_pos rfl]
theorem BI.lat {lat lat' : Nat → Int32} {u : Mem} {b : Nat} (h : BI lat u b) (e : lat' b = lat b) : BI lat' u b := by
  unfold BI at *
  rw [e]; exact h
theorem LB.lat {lat lat' : Nat → Int32} {u : Mem} {k b : Nat} (h : LB lat u k b) (e : lat' b = lat b) : LB lat' u k b := by
  unfold LB at *
  rw [e]; exact h
/-- a line without the block b may forget the value of b -/
theorem LI.other {lat : Nat → Int32} {u : Mem} {k b : Nat} {x : Int32} (h : LI lat u k) (hn : ¬ u 1 k = nI b) : LI (upd lat b x) u k := by
  rcases h with h | ⟨b', h⟩
  · exact Or.inl h
  · refine Or.inr ⟨b', h.lat (upd_ne fun e => hn ?_)⟩
    rw [h.2.1, e]
/-- a line filled with a block -/
theorem fl_core {N : Nat} {lat : Nat → Int32} {v : Mem} {b k : Nat} {x d : Int32} (hb : b < 64) (hk : k < 12) (hs : b / 4 % 4 = k / 3) (hd : d = 0 ∨ d = 1) (c1 : Bits v) (c2 : Bat v) (hc : ¬ v 0 2 = 0) (c3 : ∃ n m : Nat, n ≤ N ∧ m < N ∧ v 6 0 = nI n ∧ v 0 0 = nI m) (hN : N < 2 ^ 30) (c4 : ∀ y, y < 64 → ¬ y = b → BI lat v y) (c5 : BI (upd lat b x) v b) (c6 : ∀ j, j < 12 → ¬ j = k → ¬ v 1 j = nI b ∧ LI lat v j) (c7 : Uq v) (c8 : 0 < v 9 b) (c9 : d = 0 → v 8 b = v 9 b) :
    Core N (upd lat b x) (fl v k (nI b) x (v 9 b) d) := by
  obtain ⟨n, m, n1, m1, n2, m2⟩ := c3
  refine ⟨⟨c1.1, c1.2⟩, ?_, ⟨n, m + 1, n1, by omega, n2, ?_⟩, fun y hy => ?_, fun j hj => ?_, ?_⟩
  · obtain ⟨L, c, l1, l2, l3, l4, l5, l6⟩ := c2
    exact ⟨L, c, l1, l2, l3, l4, l5, fun c0 => absurd (by rw [l5, c0]; rfl) hc⟩
  · rw [fl_0, if_pos rfl, m2, nI_1]
  · by_cases e : y = b
    · subst e; exact c5
    · exact (c4 y hy e).lat (upd_ne e)
  · by_cases e : j = k
    · subst e
      refine Or.inr ⟨b, hb, ?_, hs, ?_, ?_, ?_, Or.inl ⟨?_, ?_⟩, fun h5 => ?_⟩
      · rw [fl_1, if_pos rfl]
      · rw [fl_5, if_pos rfl]; exact hd
      · rw [fl_3, if_pos rfl]; exact c8
      · rw [fl_4, if_pos rfl, m2, nI_1]; exact nI_lt (a := 0) (by omega) (by omega)
      · rw [fl_3, if_pos rfl]; rfl
      · rw [fl_2, if_pos rfl, upd_eq]
      · rw [fl_5, if_pos rfl] at h5; exact c9 h5
    · obtain ⟨g1, g2⟩ := c6 j hj e
      have g3 := g2.other (x := x) g1
      rcases g3 with ⟨a1, a2⟩ | ⟨b', B⟩
      · exact Or.inl ⟨by rw [fl_1, if_neg e]; exact a1, by rw [fl_5, if_neg e]; exact a2⟩
      · refine Or.inr ⟨b', B.1, ?_, B.2.2.1, ?_, ?_, ?_, ?_, fun h5 => ?_⟩
        · rw [fl_1, if_neg e]; exact B.2.1
        · rw [fl_5, if_neg e]; exact B.2.2.2.1
        · rw [fl_3, if_neg e]; exact B.2.2.2.2.1
        · rw [fl_4, if_neg e]; exact B.2.2.2.2.2.1
        · rw [fl_3, if_neg e, fl_2, if_neg e]; exact B.2.2.2.2.2.2.1
        · rw [fl_5, if_neg e] at h5; exact B.2.2.2.2.2.2.2 h5
  · intro i j hi hj hn e
    rw [fl_1] at hn
    rw [fl_1, fl_1] at e
    by_cases ei : i = k
    · by_cases ej : j = k
      · rw [ei, ej]
      · rw [if_pos ei, if_neg ej] at e
        exact absurd e.symm (c6 j hj ej).1
    · by_cases ej : j = k
      · rw [if_neg ei, if_pos ej] at e
        exact absurd e (c6 i hi ei).1
      · rw [if_neg ei] at hn
        rw [if_neg ei, if_neg ej] at e
        exact c7 i j hi hj hn e
theorem fl_mi {lat : Nat → Int32} {v : Mem} {b k : Nat} {x d : Int32} (hb : b < 64) (hk : k < 12) (hold : v 1 k = nI b ∨ (LI lat v k ∧ v 5 k = 0)) : ∀ y, y < 64 → mi (fl v k (nI b) x (v 9 b) d) y = if y = b then false else mi v y := by
  intro y hy
  by_cases e : y = b
  · subst e
    rw [if_pos rfl]
    unfold mi
    refine @decide_eq_false _ (Classical.propDecidable _) fun h => h.2 k hk ⟨?_, ?_⟩
    · rw [fl_1, if_pos rfl]
    · rw [fl_3, if_pos rfl]; rfl
  · rw [if_neg e]
    unfold mi
    refine decide_eq_decide.mpr ⟨fun h => ⟨h.1, fun j hj q => ?_⟩, fun h => ⟨h.1, fun j hj q => ?_⟩⟩
    · by_cases ej : j = k
      · subst ej
        rcases hold with ho | ⟨ho, h5⟩
        · exact e (nI_inj (by omega) (by omega) (q.1.symm.trans ho))
        · exact h.1 ((LB.of ho hy q.1).2.2.2.2.2.2.2 h5)
      · refine h.2 j hj ⟨?_, ?_⟩
        · rw [fl_1, if_neg ej]; exact q.1
        · rw [fl_3, if_neg ej]; exact q.2
    · by_cases ej : j = k
      · rw [fl_1, if_pos ej] at q
        exact e (nI_inj (by omega) (by omega) q.1).symm
      · rw [fl_1, if_neg ej, fl_3, if_neg ej] at q
        exact h.2 j hj q
/-- a new write's stamp -/
def sp (u : Mem) (b : Nat) : Mem := mset (mset u 6 0 (u 6 0 + 1)) 9 b (u 6 0 + 1)
theorem sp_9 (u : Mem) (b y : Nat) : sp u b 9 y = if y = b then u 6 0 + 1 else u 9 y := by unfold sp; rw [mset_at, if_pos rfl]; rfl
theorem sp_6 (u : Mem) (b : Nat) : sp u b 6 0 = u 6 0 + 1 := by
  show mset u 6 0 (u 6 0 + 1) 6 0 = _
  rw [mset_at, if_pos rfl, if_pos rfl]
theorem st_up {N : Nat} {u : Mem} (h : Nx N u) (hN : N < 2 ^ 20) : ∃ n : Nat, n ≤ N ∧ u 6 0 = nI n ∧ ∀ z : Int32, z ≤ u 6 0 → z < u 6 0 + 1 := by
  obtain ⟨n, m, a, b, c, d⟩ := h
  refine ⟨n, a, c, fun z hz => ?_⟩
  rw [c] at hz ⊢
  rw [nI_1]
  exact Int32.lt_of_le_of_lt hz (nI_lt (by omega) (by omega))
theorem lt_ne {a b : Int32} (h : a < b) : ¬ a = b := fun e => by subst e; exact Int32.lt_irrefl h
theorem lt_le {a b : Int32} (h : a < b) : a ≤ b := Int32.le_of_lt h
/-- what a new stamp leaves of the other blocks and lines -/
theorem sp_bi {lat : Nat → Int32} {u : Mem} {b y : Nat} (h : BI lat u y) (e : ¬ y = b) (hn : u 6 0 < u 6 0 + 1) : BI lat (sp u b) y := by
  obtain ⟨q1, q2, q3⟩ := h
  unfold BI
  rw [sp_9, if_neg e, sp_6]
  exact ⟨q1, Int32.le_trans q2 (lt_le hn), q3⟩
theorem sp_li {lat : Nat → Int32} {u : Mem} {b k : Nat} (h : LI lat u k) (e : ¬ u 1 k = nI b) : LI lat (sp u b) k := by
  rcases h with h | ⟨b', B⟩
  · exact Or.inl h
  · have hne : ¬ b' = b := fun q => e (by rw [B.2.1, q])
    refine Or.inr ⟨b', B.1, B.2.1, B.2.2.1, B.2.2.2.1, B.2.2.2.2.1, B.2.2.2.2.2.1, ?_, fun h5 => ?_⟩
    · rw [sp_9, if_neg hne]; exact B.2.2.2.2.2.2.1
    · rw [sp_9, if_neg hne]; exact B.2.2.2.2.2.2.2 h5
/-- the state with a new stamp, where no line holds the block -/
theorem sp_core {N : Nat} {lat : Nat → Int32} {u : Mem} {b : Nat} (x : Int32) (h : Core N lat u) (hN : N < 2 ^ 20) (hb : b < 64) (hno : ∀ k, k < 12 → ¬ u 1 k = nI b) : Core (N + 1) (upd lat b x) (sp u b) := by
  obtain ⟨c1, c2, c3, c4, c5, c6⟩ := h
  obtain ⟨n, n1, n2, n3⟩ := st_up c3 hN
  obtain ⟨n', m, a1, a2, a3, a4⟩ := c3
  refine ⟨c1, c2, ⟨n + 1, m, by omega, by omega, ?_, a4⟩, fun y hy => ?_, fun k hk => (sp_li (c5 k hk) (hno k hk)).other (hno k hk), c6⟩
  · rw [sp_6, n2, nI_1]
  · by_cases e : y = b
    · subst e
      obtain ⟨q1, q2, q3⟩ := c4 y hy
      have := n3 (u 8 y) (Int32.le_trans q1 q2)
      unfold BI
      rw [sp_9, if_pos rfl, sp_6]
      exact ⟨lt_le this, Int32.le_refl _, fun q => absurd q (lt_ne this)⟩
    · exact (sp_bi (c4 y hy) e (n3 _ (Int32.le_refl _))).lat (upd_ne e)
theorem sp_mi {u : Mem} {b y : Nat} (e : ¬ y = b) : mi (sp u b) y = mi u y := by
  unfold mi
  rw [sp_9, if_neg e]
  rfl
/-- two states with the same lines -/
theorem freeLine_c {u u' : Mem} (h1 : u' 1 = u 1) (h4 : u' 4 = u 4) (h5 : u' 5 = u 5) (x : Int32) : pX2_freeLine u' x = pX2_freeLine u x := by
  have : ∀ (n : Nat) (a b i : Int32), pX2_freeLine_7 u' x n a b i = pX2_freeLine_7 u x n a b i := by
    intro n
    induction n with
    | zero => intro a b i; rfl
    | succ n ih =>
      intro a b i
      show pX2_freeLine_7b u' x _ a b i = pX2_freeLine_7b u x _ a b i
      unfold pX2_freeLine_7b pX2_freeLine_62 pX2_freeLine_73 ld
      rw [h1, h4, h5]
      simp only [ih]
  exact this FU (-1) 0 0
theorem Dn_c {u u' : Mem} (h1 : u' 1 = u 1) (h5 : u' 5 = u 5) (x : Int32) : Dn u' x = Dn u x := by
  unfold Dn
  exact rc_congr 12 0 (fun k _ _ => dz_k (by rw [h1]) (by rw [h5]))
theorem fullest_c {u u' : Mem} (h1 : u' 1 = u 1) (h5 : u' 5 = u 5) (x : Int32) : pX2_fullestStripe u' x = pX2_fullestStripe u x := by
  have : ∀ (n : Nat) (a b i : Int32), pX2_fullestStripe_7 u' x n a b i = pX2_fullestStripe_7 u x n a b i := by
    intro n
    induction n with
    | zero => intro a b i; rfl
    | succ n ih =>
      intro a b i
      show pX2_fullestStripe_7b u' x _ a b i = pX2_fullestStripe_7b u x _ a b i
      unfold pX2_fullestStripe_7b pX2_fullestStripe_42
      simp only [dirtyLinesOf_e, Dn_c h1 h5, ih]
  exact this FU (-1) 0 0
theorem gath_e {u : Mem} (h : Bits u) : pX1_gathers u = some (b2 (decide (u 0 3 = 1 ∧ ¬ u 0 2 < 20))) := by
  unfold pX1_gathers pX1_gathers_26 pX1_gathers_27
  rcases h.1 with e | e
  · rw [e]; rfl
  · rw [e, if_neg (by decide)]
    by_cases c : u 0 2 < 20
    · rw [if_pos c, decide_eq_false (fun q => q.2 c)]; rfl
    · rw [if_neg c, decide_eq_true ⟨rfl, c⟩]; rfl
theorem ch_pos {u : Mem} (hc : ¬ u 0 2 < 20) : ¬ u 0 2 = 0 := fun e => hc (by rw [e]; decide)
theorem line_ch {N : Nat} {lat : Nat → Int32} {u : Mem} (h : Core N lat u) {k : Nat} (hk : k < 12) (hn : ¬ u 1 k = -1) : ¬ u 0 2 = 0 := by
  obtain ⟨L, c, l1, l2, l3, l4, l5, l6⟩ := h.2.1
  intro e
  have c0 : c = 0 := nI_inj (by omega) (by decide) (show nI c = nI 0 from l5.symm.trans e)
  exact hn (l6 c0 k hk)
theorem sub4 (a b x y : Int32) : (a + x) + (b + y) - (a + b) = x + y := by
  grind
theorem wr63 {u0 u : Mem} {x y : Nat} (h0 : u 10 0 = u0 10 0 + nI x) (h1 : u 10 1 = u0 10 1 + nI y) : pX1_writeBlock_63 (u0 10 0 + u0 10 1) u = some (nI (x + y), u) := by
  unfold pX1_writeBlock_63
  simp only [ldc0, ldc1, ob_some]
  rw [h0, h1, sub4, nI_add]
/-- what a write adds to the counts: through; gathered, with x blocks of a stripe destaged first -/
def wcs (g : Bool) (x i : Nat) : Nat := if g = true then (if i = 2 then 1 else dcs x i) else (if i = 0 then 2 else if i = 1 then 2 else if i = 3 then 1 else 0)
theorem g66_e {v : Mem} {b k : Nat} {x : Int32} (hk : k < 12) : pX1_gather_66 (nI b) x (nI k) v = some (ac (fl v k (nI b) x (v 6 0) 1) 2 1) := by
  unfold pX1_gather_66
  rw [fill_u hk (by decide), ob_some]
  simp only [ldc2, stc2, ob_some]
  rfl
theorem sp_bits {u : Mem} {b : Nat} (h : Bits u) : Bits (sp u b) := h
/-- a gathered write -/
theorem ga_r {N : Nat} {lat : Nat → Int32} {u : Mem} {b : Nat} (x : Int32) (h : Core N lat u) (hN : N < 2 ^ 20) (hb : b < 64) (hin : u 0 3 = 1) (hc : ¬ u 0 2 < 20) :
    ∃ (z k : Nat) (u' : Mem), pX1_gather (sp u b) (nI b) x = some u' ∧ k < 12 ∧ u' 1 k = nI b ∧ u' 2 k = x ∧ u' 5 k = 1 ∧ Core (N + 1) (upd lat b x) u' ∧ (∀ y, y < 64 → mi u' y = if y = b then false else mi u y) ∧ u' 0 3 = 1 ∧ u' 6 1 = u 6 1 ∧ u' 0 2 = u 0 2 ∧ (∀ i, u' 10 i = u 10 i + nI (wcs true z i)) ∧ z ≤ 3 ∧
      ((pX2_lineOf u (nI b)).bind fun y4 => (pX4_isLine y4).bind fun y5 => if y5 = 0 then (pX2_freeLine u ((nI b / 4) - (nI b / 4) / 4 * 4)).bind fun y7 => (pX4_isLine y7).bind fun y8 => if y8 = 0 then (pX2_fullestStripe u ((nI b / 4) - (nI b / 4) / 4 * 4)).bind fun y10 => (pX2_dirtyLinesOf u y10).bind fun y11 => (pX4_operationsToWrite y11).bind fun y12 => some y12 else some 0 else some 0) = some (nI (dcs z 0 + dcs z 1)) ∧
      (z = 0 ↔ ((∃ k, k < 12 ∧ u 1 k = nI b) ∨ ∃ k, 3 * (b / 4 % 4) ≤ k ∧ k < 3 * (b / 4 % 4) + 3 ∧ u 5 k = 0)) := by
  obtain ⟨c1, c2, c3, c4, c5, c6⟩ := id h
  obtain ⟨n, n1, n2, n3⟩ := st_up c3 hN
  have hq : b / 4 % 4 < 4 := Nat.mod_lt _ (by decide)
  have h60 : ∀ _ : Nat, sp u b 9 b = sp u b 6 0 := fun _ => by rw [sp_9, if_pos rfl, sp_6]
  have hpos : 0 < sp u b 9 b := by rw [sp_9, if_pos rfl, n2, nI_1]; exact nI_lt (a := 0) (by omega) (by omega)
  have fin : ∀ (v : Mem) (k z : Nat), Core (N + 1) (upd lat b x) (fl v k (nI b) x (v 6 0) 1) → k < 12 → (∀ y, y < 64 → mi (fl v k (nI b) x (v 6 0) 1) y = if y = b then false else mi u y) → v 0 3 = 1 → v 6 1 = u 6 1 → v 0 2 = u 0 2 → (∀ i, v 10 i = u 10 i + nI (dcs z i)) → ∃ u' : Mem, some (ac (fl v k (nI b) x (v 6 0) 1) 2 1) = some u' ∧ k < 12 ∧ u' 1 k = nI b ∧ u' 2 k = x ∧ u' 5 k = 1 ∧ Core (N + 1) (upd lat b x) u' ∧ (∀ y, y < 64 → mi u' y = if y = b then false else mi u y) ∧ u' 0 3 = 1 ∧ u' 6 1 = u 6 1 ∧ u' 0 2 = u 0 2 ∧ (∀ i, u' 10 i = u 10 i + nI (wcs true z i)) := by
    intro v k z g1 hk g2 g3 g4 g5 g6
    refine ⟨_, rfl, hk, ?_, ?_, ?_, core_ac g1 _ _, fun y hy => by rw [mi_ac]; exact g2 y hy, ?_, ?_, ?_, fun i => ?_⟩
    · show fl v k (nI b) x (v 6 0) 1 1 k = _
      rw [fl_1, if_pos rfl]
    · show fl v k (nI b) x (v 6 0) 1 2 k = _
      rw [fl_2, if_pos rfl]
    · show fl v k (nI b) x (v 6 0) 1 5 k = _
      rw [fl_5, if_pos rfl]
    · show fl v k (nI b) x (v 6 0) 1 0 3 = _
      rw [fl_0, if_neg (by decide)]; exact g3
    · exact g4
    · show fl v k (nI b) x (v 6 0) 1 0 2 = _
      rw [fl_0, if_neg (by decide)]; exact g5
    · rw [ac_at]
      show (if i = 2 then v 10 i + 1 else v 10 i) = _
      rw [g6]
      unfold wcs
      rw [if_pos rfl]
      by_cases e : i = 2
      · subst e
        rw [if_pos rfl, if_pos rfl, show dcs z 2 = 0 by unfold dcs; split <;> rfl]
        show u 10 2 + 0 + 1 = _
        rw [Int32.add_zero]; rfl
      · rw [if_neg e, if_neg e]
  unfold pX1_gather pX4_stripeOf
  obtain ⟨r, hr, hA⟩ := lineOf_r u (nI b)
  rw [ob_some, lineOf_c (u := u) (u' := sp u b) rfl, hr, ob_some, ob_some, isL_r hA, ob_some, ob_some]
  simp only [div4 (show b < 2 ^ 31 by omega), set4 (show b / 4 < 2 ^ 31 by omega)]
  rcases hA with ⟨rfl, hA⟩ | ⟨k, hk, rfl, hk1⟩
  · -- no line holds it
    have S0 := sp_core x h hN hb hA
    have hb5 : BI (upd lat b x) (sp u b) b := S0.2.2.2.1 b hb
    rw [if_pos rfl, if_pos rfl, if_pos rfl]
    obtain ⟨r2, g1, g2⟩ := take_r u hq
    rw [freeLine_c (u := u) (u' := sp u b) rfl rfl rfl, g1, ob_some, ob_some, isL_f g2, ob_some]
    unfold pX1_gather_35
    rw [isL_f g2, ob_some]
    rcases g2 with ⟨rfl, g2⟩ | ⟨k, hk, rfl, hks, hk5⟩
    · -- a stripe is destaged first
      rw [if_pos rfl, if_pos rfl, if_pos rfl]
      obtain ⟨j, j1, j2, j3, j4⟩ := full_r c5 hq g2
      rw [fullest_c (u := u) (u' := sp u b) rfl rfl, j4, ob_some, ob_some, dirtyLinesOf_e, ob_some, op_e (Dn_3 j1 c5), ob_some]
      obtain ⟨v, v1, v2, v3, v4, v5, v6⟩ := ds_r j1 S0 hin
      rw [v1, bd2_some]
      obtain ⟨r3, t1, t2⟩ := take_r v hq
      rw [t1, ob_some]
      -- now a line is clean
      have hz : ∃ k, 3 * (b / 4 % 4) ≤ k ∧ k < 3 * (b / 4 % 4) + 3 ∧ v 5 k = 0 := by
        by_cases hex : ∃ k, k < 12 ∧ dz u (nI j) k = true
        · obtain ⟨k, k1, k2⟩ := hex
          have := dz_set j1 (c5 k k1) k2
          refine ⟨k, by omega, by omega, ?_⟩
          rw [v5 k k1, if_pos (show dz (sp u b) (nI j) k = true from k2)]
        · exfalso
          have : Dn u (nI j) = 0 := rc_0 12 0 (fun k _ hk => by
            cases hc : dz u (nI j) k
            · rfl
            · exact absurd ⟨k, by omega, hc⟩ hex)
          omega
      rcases t2 with ⟨-, t2⟩ | ⟨k, hk, rfl, hks, hk5⟩
      · obtain ⟨k, k1, k2, k3⟩ := hz
        exact absurd k3 (t2 k k1 k2)
      · rw [g66_e hk]
        have e96 : v 9 b = v 6 0 := by rw [show v 9 = sp u b 9 from v4.2.2.2.2.2.2, show v 6 = sp u b 6 from v4.2.2.2.2.2.1]; exact h60 0
        have hno : ∀ j, j < 12 → ¬ v 1 j = nI b := fun j hj => by rw [show v 1 = u 1 from v4.2.1]; exact hA j hj
        have F1 : Core (N + 1) (upd lat b x) (fl v k (nI b) x (v 6 0) 1) := by
          rw [← e96]
          have q := fl_core (lat := upd lat b x) (v := v) (b := b) (k := k) (x := x) (d := 1) (N := N + 1) hb hk (by omega) (Or.inr rfl) v2.1 v2.2.1 (by rw [show v 0 = u 0 from v4.1]; exact ch_pos hc) (by
            obtain ⟨n', m, a1, a2, a3, a4⟩ := c3
            refine ⟨n + 1, m, by omega, by omega, ?_, ?_⟩
            · rw [show v 6 = sp u b 6 from v4.2.2.2.2.2.1, sp_6, n2, nI_1]
            · rw [show v 0 = u 0 from v4.1]; exact a4) (by omega) (fun y hy e => v2.2.2.2.1 y hy) (by
            have := v2.2.2.2.1 b hb
            exact this.lat (by rw [upd_eq, upd_eq])) (fun j hj _ => ⟨hno j hj, v2.2.2.2.2.1 j hj⟩) v2.2.2.2.2.2 (by rw [show v 9 = sp u b 9 from v4.2.2.2.2.2.2]; exact hpos) (fun q => absurd q (by decide))
          have e : upd (upd lat b x) b x = upd lat b x := by
            funext y
            rw [upd_at]
            by_cases c : y = b
            · rw [if_pos c, c, upd_eq]
            · rw [if_neg c]
          rw [e] at q
          exact q
        have F2 : ∀ y, y < 64 → mi (fl v k (nI b) x (v 6 0) 1) y = if y = b then false else mi u y := fun y hy => by
          rw [← e96, fl_mi hb hk (Or.inr ⟨v2.2.2.2.2.1 k hk, hk5⟩) y hy]
          by_cases e : y = b
          · rw [if_pos e, if_pos e]
          · rw [if_neg e, if_neg e, v3 y hy, sp_mi e]
        obtain ⟨u', p1, p2, p3, p4, p5, p6, p7, p8, p9, p10, p11⟩ := fin v k (Dn u (nI j)) F1 hk F2 (by rw [show v 0 = u 0 from v4.1]; exact hin) (by rw [show v 6 = sp u b 6 from v4.2.2.2.2.2.1]; rfl) (by rw [show v 0 = u 0 from v4.1]) v6
        refine ⟨Dn u (nI j), k, u', p1, p2, p3, p4, p5, p6, p7, p8, p9, p10, p11, Dn_3 j1 c5, rfl, fun e => by omega, fun e => ?_⟩
        rcases e with ⟨i, i1, i2⟩ | ⟨i, i1, i2, i3⟩
        · exact absurd i2 (hA i i1)
        · exact absurd i3 (g2 i i1 i2)
    · -- a free line
      rw [if_neg (nI_m1 (by omega)), if_neg one0, if_neg one0, g66_e hk]
      have F1 : Core (N + 1) (upd lat b x) (fl (sp u b) k (nI b) x (sp u b 6 0) 1) := by
        rw [← h60 0]
        obtain ⟨n', m, a1, a2, a3, a4⟩ := c3
        exact fl_core hb hk (by omega) (Or.inr rfl) c1 c2 (ch_pos hc) ⟨n + 1, m, by omega, by omega, by rw [sp_6, n2, nI_1], a4⟩ (by omega) (fun y hy e => sp_bi (c4 y hy) e (n3 _ (Int32.le_refl _))) hb5 (fun j hj _ => ⟨hA j hj, sp_li (c5 j hj) (hA j hj)⟩) c6 hpos (fun q => absurd q (by decide))
      have F2 : ∀ y, y < 64 → mi (fl (sp u b) k (nI b) x (sp u b 6 0) 1) y = if y = b then false else mi u y := fun y hy => by
        rw [← h60 0, fl_mi hb hk (Or.inr ⟨S0.2.2.2.2.1 k hk, hk5⟩) y hy]
        by_cases e : y = b
        · rw [if_pos e, if_pos e]
        · rw [if_neg e, if_neg e, sp_mi e]
      obtain ⟨u', p1, p2, p3, p4, p5, p6, p7, p8, p9, p10, p11⟩ := fin (sp u b) k 0 F1 hk F2 hin rfl rfl (fun i => (Int32.add_zero _).symm)
      exact ⟨0, k, u', p1, p2, p3, p4, p5, p6, p7, p8, p9, p10, p11, by decide, rfl, fun _ => Or.inr ⟨k, by omega, by omega, hk5⟩, fun _ => rfl⟩
  · -- a line holds it
    rw [if_neg (nI_m1 (by omega)), if_neg one0, if_neg one0]
    unfold pX1_gather_35
    rw [isL_n hk, ob_some, if_neg one0, g66_e hk]
    have B := LB.of (c5 k hk) hb hk1
    have F1 : Core (N + 1) (upd lat b x) (fl (sp u b) k (nI b) x (sp u b 6 0) 1) := by
      rw [← h60 0]
      obtain ⟨n', m, a1, a2, a3, a4⟩ := c3
      have hj1 : ∀ j, j < 12 → ¬ j = k → ¬ u 1 j = nI b := fun j hj e q => e (c6 j k hj hk (ne_m1 hb q) (q.trans hk1.symm))
      refine fl_core hb hk B.2.2.1 (Or.inr rfl) c1 c2 (ch_pos hc) ⟨n + 1, m, by omega, by omega, by rw [sp_6, n2, nI_1], a4⟩ (by omega) (fun y hy e => sp_bi (c4 y hy) e (n3 _ (Int32.le_refl _))) ?_ (fun j hj e => ⟨hj1 j hj e, sp_li (c5 j hj) (hj1 j hj e)⟩) c6 hpos (fun q => absurd q (by decide))
      obtain ⟨q1, q2, q3⟩ := c4 b hb
      have := n3 (u 8 b) (Int32.le_trans q1 q2)
      unfold BI
      rw [sp_9, if_pos rfl, sp_6]
      exact ⟨lt_le this, Int32.le_refl _, fun q => absurd q (lt_ne this)⟩
    have F2 : ∀ y, y < 64 → mi (fl (sp u b) k (nI b) x (sp u b 6 0) 1) y = if y = b then false else mi u y := fun y hy => by
      rw [← h60 0, fl_mi (lat := lat) (v := sp u b) hb hk (Or.inl hk1) y hy]
      by_cases e : y = b
      · rw [if_pos e, if_pos e]
      · rw [if_neg e, if_neg e, sp_mi e]
    obtain ⟨u', p1, p2, p3, p4, p5, p6, p7, p8, p9, p10, p11⟩ := fin (sp u b) k 0 F1 hk F2 hin rfl rfl (fun i => (Int32.add_zero _).symm)
    exact ⟨0, k, u', p1, p2, p3, p4, p5, p6, p7, p8, p9, p10, p11, by decide, rfl, fun _ => Or.inl ⟨k, hk, hk1⟩, fun _ => rfl⟩
