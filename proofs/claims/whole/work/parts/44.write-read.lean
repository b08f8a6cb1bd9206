/-! WRITING AND READING A BLOCK, on both sides. -/
theorem mset_comm {u : Mem} {k k' i j : Nat} {v w : Int32} (hk : ¬ k = k') : mset (mset u k i v) k' j w = mset (mset u k' j w) k i v := by
  funext a c
  simp only [mset_at]
  grind
theorem ac_mset {u : Mem} {k i j : Nat} {v y : Int32} (hk : ¬ k = 10) : ac (mset u k j v) i y = mset (ac u i y) k j v := by
  unfold ac
  rw [mset_ne (fun e => hk e.symm), mset_comm hk]
theorem ac_ac {u : Mem} {i j : Nat} {v y : Int32} (hk : ¬ i = j) : ac (ac u i v) j y = ac (ac u j y) i v := by
  unfold ac
  funext a c
  simp only [mset_at]
  grind
theorem lineOf_c {u u' : Mem} (h : u' 1 = u 1) (x : Int32) : pX2_lineOf u' x = pX2_lineOf u x := by
  have : ∀ (n : Nat) (i : Int32), pX2_lineOf_2 u' x n i = pX2_lineOf_2 u x n i := by
    intro n
    induction n with
    | zero => intro i; rfl
    | succ n ih =>
      intro i
      show pX2_lineOf_2b u' x _ i = pX2_lineOf_2b u x _ i
      unfold pX2_lineOf_2b ld
      rw [h, ih]
  exact this FU 0
theorem b_ne0 {x : Int32} (h : x = 0 ∨ x = 1) (h0 : ¬ x = 0) : x = 1 := h.resolve_left h0
theorem gath_r {s : Nat → Int32} {u m : Mem} {N : Nat} (h : Rel s u) (hI : Inv N u) : ∃ g : Bool, pX1_gathers u = some (b2 g) ∧ pX5_isGathered (mp m s) = some (b2 g) ∧ (g = true → u 0 3 = 1 ∧ ¬ u 0 2 < 20) := by
  unfold pX1_gathers pX5_isGathered
  simp only [ldm0, ldm3, ob_some, h.1.1, h.1.2.2.2.1]
  rcases hI.1.1 with e | e
  · rw [e]; exact ⟨false, rfl, rfl, fun h => by cases h⟩
  · rw [e]
    rw [if_neg (by decide), if_pos rfl]
    by_cases c : u 0 2 < 20
    · rw [if_pos c, if_pos c]; exact ⟨false, rfl, rfl, fun h => by cases h⟩
    · rw [if_neg c, if_neg c]; exact ⟨true, rfl, rfl, fun _ => ⟨rfl, c⟩⟩
/-- both sides do the same with the same answer, and the power is as it was -/
def PrK (N : Nat) (P G : Option (Int32 × Mem)) (m : Mem) (s : Nat → Int32) (z : Int32) : Prop := ∃ (r : Int32) (u' : Mem) (s' : Nat → Int32), P = some (r, u') ∧ G = some (r, mp m s') ∧ Rel s' u' ∧ Inv N u' ∧ Same s s' ∧ u' 6 1 = z
/-- a line filled -/
def fl (u : Mem) (k : Nat) (b x w d : Int32) : Mem := mset (mset (mset (mset (mset (mset u 0 0 (u 0 0 + 1)) 1 k b) 2 k x) 3 k w) 5 k d) 4 k (u 0 0 + 1)
def fls (s : Nat → Int32) (k : Nat) (b x w d : Int32) : Nat → Int32 := upd (upd (upd (upd (upd (upd s 5 (s 5 + 1)) (271 + 5 * k + 0) b) (271 + 5 * k + 1) x) (271 + 5 * k + 2) w) (271 + 5 * k + 3) (s 5 + 1)) (271 + 5 * k + 4) d
theorem rel_fl {s : Nat → Int32} {u : Mem} (h : Rel s u) {k : Nat} (hk : k < 12) (b x w d : Int32) : Rel (fls s k b x w d) (fl u k b x w d) := by
  unfold fls fl
  rw [h.1.2.2.2.2.2]
  exact rel_fill (rel_use h _) hk b x w _ d
theorem fls_same {s : Nat → Int32} {k : Nat} (hk : k < 12) (b x w d : Int32) : Same s (fls s k b x w d) := ((((((Same.rf s).up (by omega)).up (by omega)).up (by omega)).up (by omega)).up (by omega)).up (by omega)
theorem fill_u {u : Mem} {k : Nat} {b x w d : Int32} (hk : k < 12) (hd : isz d = true) : pX2_fill u (nI k) b x w d = some (fl u k b x w d) := by
  unfold pX2_fill pX2_fill_42 pX2_use pX2_use_27
  simp only [isL_n hk, ob_some, pf_e]
  rw [if_neg (by decide), st_n hk (by decide), ob_some, st_n hk (by decide), ob_some, st_n hk (by decide), ob_some, stz_n hd hk (by decide), ob_some, if_neg (by decide), st_n hk (by decide), ob_some]
  unfold fl
  have e0 : mset (mset (mset (mset u 1 k b) 2 k x) 3 k w) 5 k d 0 0 = u 0 0 := rfl
  rw [e0]
  have e1 : mset (mset (mset (mset (mset u 1 k b) 2 k x) 3 k w) 5 k d) 0 0 (u 0 0 + 1) = mset (mset (mset (mset (mset u 0 0 (u 0 0 + 1)) 1 k b) 2 k x) 3 k w) 5 k d := by
    rw [mset_comm (k := 5) (k' := 0) (by decide), mset_comm (k := 3) (k' := 0) (by decide), mset_comm (k := 2) (k' := 0) (by decide), mset_comm (k := 1) (k' := 0) (by decide)]
  rw [e1]
  rfl
theorem puts_m {s : Nat → Int32} {m : Mem} {k : Nat} {b x d : Int32} (hk : k < 12) : pX5_puts (mp m s) (nI k) b x d = some (mp m (fls s k b x (s 4) d)) := by
  unfold pX5_puts
  simp only [ldm5, stm5, ldm4, lay0 hk, lay1 hk, lay2 hk, lay3 hk, lay4 hk, ob_some]
  unfold fls
  simp only [upd_at]
  rw [if_neg (show ¬ 4 = 271 + 5 * k + 1 by omega), if_neg (show ¬ 4 = 271 + 5 * k + 0 by omega), if_neg (show ¬ (4 : Nat) = 5 by decide), if_neg (show ¬ 5 = 271 + 5 * k + 2 by omega), if_neg (show ¬ 5 = 271 + 5 * k + 1 by omega), if_neg (show ¬ 5 = 271 + 5 * k + 0 by omega), if_pos True.intro]
theorem inv_fl {N : Nat} {u : Mem} (h : Inv N u) {k b : Nat} (hk : k < 12) (hb : b < 64) (hs : b / 4 % 4 = k / 3) (h9 : ¬ u 9 b = 0) (hc : ¬ u 0 2 = 0) {d : Int32} (hd : d = 0 ∨ d = 1) (x w : Int32) : Inv N (fl u k (nI b) x w d) := by
  obtain ⟨h1, ⟨L, c, l1, l2, l3, l4, l5, l6⟩, h3, h4, h5⟩ := h
  have e1 : ∀ j, fl u k (nI b) x w d 1 j = if j = k then nI b else u 1 j := fun j => by
    show mset (mset u 0 0 _) 1 k (nI b) 1 j = _
    rw [mset_at, if_pos rfl]; rfl
  have e5 : ∀ j, fl u k (nI b) x w d 5 j = if j = k then d else u 5 j := fun j => by
    show mset _ 5 k d 5 j = _
    rw [mset_at, if_pos rfl]; rfl
  refine ⟨h1, ⟨L, c, l1, l2, l3, l4, l5, fun c0 => absurd (by rw [l5, c0]; rfl) hc⟩, h3, fun j hj => ?_, h5⟩
  by_cases e : j = k
  · subst e
    refine Or.inr ⟨b, hb, ?_, hs, ?_, h9⟩
    · rw [e1, if_pos rfl]
    · rw [e5, if_pos rfl]; exact hd
  · unfold LineOK
    rw [e1, e5, if_neg e, if_neg e]
    exact h4 j hj
/-- a new write's stamp -/
def sp (u : Mem) (b : Nat) : Mem := mset (mset u 6 0 (u 6 0 + 1)) 9 b (u 6 0 + 1)
def sps (s : Nat → Int32) (b : Nat) (x : Int32) : Nat → Int32 := upd (upd (upd s 4 (s 4 + 1)) (143 + 2 * b) x) (143 + 2 * b + 1) (s 4 + 1)
theorem rel_sp {s : Nat → Int32} {u : Mem} (h : Rel s u) {b : Nat} (hb : b < 64) (x : Int32) : Rel (sps s b x) (sp u b) := by
  unfold sps sp
  rw [h.1.2.2.2.2.1]
  exact rel_la (rel_lv (rel_stamp h _) x hb) _ hb
theorem sps_same {s : Nat → Int32} {b : Nat} (hb : b < 64) (x : Int32) : Same s (sps s b x) := (((Same.rf s).up (by omega)).up (by omega)).up (by omega)
theorem inv_sp {N : Nat} {u : Mem} (h : Inv N u) (hN : N < 2 ^ 30) {b : Nat} (hb : b < 64) : Inv (N + 1) (sp u b) ∧ ¬ sp u b 9 b = 0 := by
  obtain ⟨h1, h2, ⟨n, n1, n2⟩, h4, h5⟩ := h
  have e9 : ∀ j, sp u b 9 j = if j = b then nI (n + 1) else u 9 j := fun j => by
    unfold sp; rw [mset_at, if_pos rfl, n2, nI_1]; rfl
  have z : ¬ nI (n + 1) = 0 := nI_ne0 (by omega) (by omega)
  refine ⟨⟨h1, h2, ⟨n + 1, by omega, ?_⟩, fun k hk => ?_, fun j hj j0 => ?_⟩, by rw [e9, if_pos rfl]; exact z⟩
  · show u 6 0 + 1 = _
    rw [n2, nI_1]
  · rcases h4 k hk with e | ⟨x, x1, x2, x3, x4, x5⟩
    · exact Or.inl e
    · refine Or.inr ⟨x, x1, x2, x3, x4, ?_⟩
      rw [e9]; split
      · exact z
      · exact x5
  · rw [e9] at j0
    by_cases e : j = b
    · rw [if_pos e] at j0; exact absurd j0 z
    · rw [if_neg e] at j0; exact h5 j hj j0
theorem cw_1 {u : Mem} : pX1_countWrittenTogether u 1 = some (ac (ac u 0 2) 1 (1 + 1)) := by
  unfold pX1_countWrittenTogether pX4_writesToWrite
  simp only [ldc0, stc0, ldc1, stc1, ob_some, show pX4_readsToWrite 1 = some 2 by decide]
  rfl
theorem cw_1m {m : Mem} {s : Nat → Int32} : pX5_countsWrite (mp m s) 1 = some (mp m (acs (acs s 0 2) 1 (1 + 1))) := by
  unfold pX5_countsWrite
  simp only [ldm6, stm6, ldm7, stm7, ob_some, show pX5_readsFor 1 = some 2 by decide]
  rfl
theorem ac_rd {u : Mem} {i : Nat} {y : Int32} : u 10 i + y = ac u i y 10 i := by unfold ac; rw [mset_at, if_pos rfl, if_pos rfl]
/-- the write's end: what it counted -/
theorem wr_end {m : Mem} {s : Nat → Int32} {u : Mem} (h : Rel s u) (y : Int32) : pX1_writeBlock_63 y u = some ((u 10 0 + u 10 1) - y, u) ∧ pX5_writes_189 y (mp m s) = some ((u 10 0 + u 10 1) - y, mp m s) := by
  unfold pX1_writeBlock_63 pX5_writes_189 pX5_operations
  simp only [ldc0, ldc1, ldm6, ldm7, ob_some]
  rw [show s 6 = u 10 0 from h.2.1 0 (by decide), show s 7 = u 10 1 from h.2.1 1 (by decide)]
  exact ⟨trivial, rfl⟩
theorem line_set {u : Mem} {k b : Nat} (hl : LineOK u k) (hb : b < 64) (e : u 1 k = nI b) : b / 4 % 4 = k / 3 := by
  rcases hl with ⟨e1, -⟩ | ⟨x, x1, x2, x3, -⟩
  · exact absurd e1 (ne_m1 hb e)
  · rw [x2] at e
    rw [← (nI_eq (by omega) (by omega)).mp e]
    exact x3
theorem inv_disk {N : Nat} {u : Mem} (h : Inv N u) {b : Nat} (h9 : ¬ u 9 b = 0) (x w : Int32) : Inv N (mset (mset u 7 b x) 8 b w) := by
  obtain ⟨h1, h2, h3, h4, h5⟩ := h
  refine ⟨h1, h2, h3, h4, fun j hj (j0 : u 9 j = 0) => ?_⟩
  show mset (mset u 7 b x) 8 b w 8 j = 0
  rw [mset_at, if_pos rfl, if_neg (fun e => h9 (by rw [← e]; exact j0))]
  exact h5 j hj j0
/-- the line in question, of both sides -/
def At (u : Mem) (x r : Int32) : Prop := (r = -1 ∧ ∀ k, k < 12 → ¬ u 1 k = x) ∨ ∃ k, k < 12 ∧ r = nI k ∧ u 1 k = x
theorem wt_r {m : Mem} {N : Nat} {u : Mem} {s : Nat → Int32} (h : Rel s u) (hI : Inv N u) {b : Nat} (hb : b < 64) (h9 : ¬ u 9 b = 0) (x y r : Int32) (hr : pX2_lineOf u (nI b) = some r) (hA : At u (nI b) r) :
    PrK N ((pX1_writeThrough u (nI b) x).bind fun u1 => pX1_writeBlock_63 y u1) ((pX5_countsWrite (mp m s) 1).bind fun u10 => (ld u10 1 2317 4).bind fun y11 => (pX5_toDisk u10 (nI b) x y11).bind fun u12 => (ld u12 1 2317 0).bind fun y13 => if y13 = 1 then (if r = (-1) then pX5_writes_178 y u12 else (pX5_puts u12 r (nI b) x 0).bind fun u16 => pX5_writes_178 y u16) else pX5_writes_178 y u12) m s (u 6 1) := by
  -- the disk and the counts
  obtain ⟨u1, hu1⟩ : ∃ u1, u1 = mset (mset (ac (ac u 0 2) 1 (1 + 1)) 7 b x) 8 b (u 6 0) := ⟨_, rfl⟩
  obtain ⟨s1, hs1⟩ : ∃ s1, s1 = upd (upd (acs (acs s 0 2) 1 (1 + 1)) (15 + 2 * b) x) (15 + 2 * b + 1) (s 4) := ⟨_, rfl⟩
  have R1 : Rel s1 u1 := by
    rw [hu1, hs1, h.1.2.2.2.2.1]
    exact rel_ds (rel_dv (rel_ac (rel_ac h (by decide) _) (by decide) _) _ hb) _ hb
  have I1 : Inv N u1 := by
    rw [hu1]
    exact inv_disk (inv_ac (inv_ac hI _ _) _ _) h9 _ _
  have S1 : Same s s1 := by
    rw [hs1]
    exact ((acs_same (acs_same (Same.rf s) (by decide) _) (by decide) _).up (by omega)).up (by omega)
  have k1 : u1 1 = u 1 := by rw [hu1]; rfl
  have k0 : u1 0 = u 0 := by rw [hu1]; rfl
  have k6 : u1 6 = u 6 := by rw [hu1]; rfl
  have k9 : u1 9 = u 9 := by rw [hu1]; rfl
  have f1 : (pX1_writeThrough u (nI b) x) = (pX2_lineInReach u1 (nI b)).bind fun y3 => (pX2_fill u1 y3 (nI b) x (u1 6 0) 0).bind fun u4 => some (ac u4 3 1) := by
    unfold pX1_writeThrough pX1_putOnDisk pX1_putOnDisk_21
    rw [isB_n hb]
    simp only [ob_some]
    rw [if_neg (by decide), st_n hb (by decide), ob_some, st_n hb (by decide), ob_some, ob_some, cw_1, ob_some, ac_mset (by decide), ac_mset (by decide), ac_mset (by decide), ac_mset (by decide), ← hu1]
    simp only [ldc3, stc3, ob_some]
    rfl
  have f2 : (ld (mp m (acs (acs s 0 2) 1 (1 + 1))) 1 2317 4).bind (fun y11 => pX5_toDisk (mp m (acs (acs s 0 2) 1 (1 + 1))) (nI b) x y11) = some (mp m s1) := by
    rw [ldm4, ob_some]
    unfold pX5_toDisk
    rw [stm_dv hb, ob_some, stm_ds hb, ob_some, hs1]
    rfl
  have f3 : ∀ f : Mem → Option (Int32 × Mem), ((pX5_countsWrite (mp m s) 1).bind fun u10 => (ld u10 1 2317 4).bind fun y11 => (pX5_toDisk u10 (nI b) x y11).bind f) = f (mp m s1) := by
    intro f
    rw [cw_1m, ob_some]
    rw [ldm4, ob_some] at f2 ⊢
    rw [f2, ob_some]
  rw [f1, f3, ldm0, ob_some, R1.1.1]
  -- the end
  have fin : ∀ (u2 : Mem) (s2 : Nat → Int32), Rel s2 u2 → Inv N u2 → Same s s2 → u2 6 1 = u 6 1 → PrK N (pX1_writeBlock_63 y (ac u2 3 1)) (pX5_writes_178 y (mp m s2)) m s (u 6 1) := by
    intro u2 s2 R2 I2 S2 E2
    have R3 := rel_ac R2 (i := 3) (by decide) 1
    obtain ⟨e1, e2⟩ := wr_end (m := m) R3 y
    refine ⟨_, ac u2 3 1, acs s2 3 1, e1, ?_, R3, inv_ac I2 _ _, acs_same S2 (by decide) _, E2⟩
    unfold pX5_writes_178
    rw [ldm9, ob_some, stm9, ob_some]
    exact e2
  have fin0 : PrK N (((pX2_fill u1 (-1) (nI b) x (u1 6 0) 0).bind fun u4 => some (ac u4 3 1)).bind fun u1 => pX1_writeBlock_63 y u1) (pX5_writes_178 y (mp m s1)) m s (u 6 1) := by
    unfold pX2_fill pX2_fill_42
    rw [isL_m1, ob_some, if_pos rfl, ob_some, ob_some]
    exact fin u1 s1 R1 I1 S1 (congrFun k6 1)
  unfold pX2_lineInReach pX2_lineInReach_16
  rw [lineOf_c k1, hr, show u1 0 3 = u 0 3 from congrFun k0 3]
  rcases hI.1.1 with e | e
  · rw [e, if_pos rfl, if_neg (by decide), ob_some]
    exact fin0
  · rw [e, if_neg (by decide), if_pos rfl, ob_some, ob_some]
    rcases hA with ⟨rfl, -⟩ | ⟨k, hk, rfl, hk1⟩
    · rw [if_pos rfl]
      exact fin0
    · rw [if_neg (nI_m1 (by omega)), fill_u hk (by decide), ob_some, ob_some, puts_m hk, ob_some]
      have hs := line_set (hI.2.2.2.1 k hk) hb hk1
      have hc : ¬ u1 0 2 = 0 := by
        rw [show u1 0 2 = u 0 2 from congrFun k0 2]
        obtain ⟨L, c, l1, l2, l3, l4, l5, l6⟩ := hI.2.1
        intro e0
        have c0 : c = 0 := by
          rw [l5] at e0
          exact (nI_eq (by omega) (by decide)).mp (show nI c = nI 0 from e0)
        exact ne_m1 hb hk1 (l6 c0 k hk)
      rw [show s1 4 = u1 6 0 from R1.1.2.2.2.2.1]
      exact fin _ _ (rel_fl R1 hk _ _ _ _) (inv_fl I1 hk hb hs (by rw [show u1 9 b = u 9 b from congrFun k9 b]; exact h9) hc (Or.inl rfl) _ _) (S1.tr (fls_same hk _ _ _ _)) (congrFun k6 1)
/-- a gathered write into a line that is found or free -/
theorem ga_r {m : Mem} {N : Nat} {u : Mem} {s : Nat → Int32} (h : Rel s u) (hI : Inv N u) {b k : Nat} (hb : b < 64) (hk : k < 12) (hs : b / 4 % 4 = k / 3) (h9 : ¬ u 9 b = 0) (hc : ¬ u 0 2 = 0) (x y : Int32) :
    PrK N ((pX1_gather_66 (nI b) x (nI k) u).bind fun u1 => pX1_writeBlock_63 y u1) (pX5_writes_113 (nI b) x y (nI k) (mp m s)) m s (u 6 1) := by
  unfold pX1_gather_66 pX5_writes_113
  rw [fill_u hk (by decide), ob_some, puts_m hk, ob_some]
  simp only [ldc2, stc2, ldm8, stm8, ob_some]
  rw [show s 4 = u 6 0 from h.1.2.2.2.2.1]
  have R2 := rel_ac (rel_fl h hk (nI b) x (u 6 0) 1) (i := 2) (by decide) 1
  obtain ⟨e1, e2⟩ := wr_end (m := m) R2 y
  exact ⟨_, _, _, e1, e2, R2, inv_ac (inv_fl hI hk hb hs h9 hc (Or.inr rfl) _ _) _ _, acs_same (fls_same hk _ _ _ _) (by decide) _, rfl⟩
theorem isL_r {r : Int32} {u : Mem} {x : Int32} (hA : At u x r) : pX4_isLine r = some (if r = -1 then 0 else 1) := by
  rcases hA with ⟨rfl, -⟩ | ⟨k, hk, rfl, -⟩
  · decide
  · rw [isL_n hk, if_neg (nI_m1 (by omega))]
theorem gb_r {m : Mem} {N : Nat} {u : Mem} {s : Nat → Int32} (h : Rel s u) (hI : Inv N u) {b : Nat} (hb : b < 64) (h9 : ¬ u 9 b = 0) (hc : ¬ u 0 2 = 0) (x y r : Int32) (hr : pX2_lineOf u (nI b) = some r) (hA : At u (nI b) r) :
    PrK N ((pX1_gather u (nI b) x).bind fun u1 => pX1_writeBlock_63 y u1) (if r = (-1) then (pX5_taken (mp m s) ((nI b / 4) - (nI b / 4) / 4 * 4)).bind fun y18 => pX5_writes_86 (nI b) x y ((nI b / 4) - (nI b / 4) / 4 * 4) y18 (mp m s) else pX5_writes_86 (nI b) x y ((nI b / 4) - (nI b / 4) / 4 * 4) r (mp m s)) m s (u 6 1) := by
  unfold pX1_gather pX4_stripeOf
  rw [ob_some, hr, ob_some, isL_r hA, ob_some]
  simp only [div4 (show b < 2 ^ 31 by omega), set4 (show b / 4 < 2 ^ 31 by omega)]
  have hq : b / 4 % 4 < 4 := Nat.mod_lt _ (by decide)
  rcases hA with ⟨rfl, hA⟩ | ⟨k, hk, rfl, hk1⟩
  · rw [if_pos rfl, if_pos rfl, if_pos rfl]
    obtain ⟨r2, g1, g2, g3⟩ := take_r (m := m) h hI.2.2.2.1 hq
    rw [g1, ob_some, g2, ob_some]
    unfold pX1_gather_35 pX5_writes_86
    rcases g3 with ⟨rfl, g3⟩ | ⟨k, hk, rfl, hk2, -⟩
    · rw [isL_m1, ob_some, if_pos rfl, if_pos rfl]
      obtain ⟨k, k1, k2, k3, k4, k5⟩ := full_r (m := m) h hI.2.2.2.1 hq g3
      obtain ⟨n1, u1, s1, d1, d2, d3, d4, d5, d6, d7, d8⟩ := ds_r (m := m) k1 h hI
      rw [k4, ob_some, d1, bd2_some, k5, ob_some, d2, bd2_some]
      obtain ⟨r3, t1, t2, t3⟩ := take_r (m := m) d3 d4.2.2.2.1 hq
      rw [t1, ob_some, t2, ob_some]
      -- some line of the set is clean now
      have hex : ∃ j, 3 * (b / 4 % 4) ≤ j ∧ j < 3 * (b / 4 % 4) + 3 ∧ u1 5 j = 0 := by
        have : ∃ j, j < 12 ∧ dz u (nI k) j = true := by
          by_cases e : ∃ j, j < 12 ∧ dz u (nI k) j = true
          · exact e
          · have : Dn u (nI k) = 0 := rc_0 12 0 (fun j j1 j2 => by
              cases hz : dz u (nI k) j
              · rfl
              · exact absurd ⟨j, by omega, hz⟩ e)
            omega
        obtain ⟨j, j1, j2⟩ := this
        have hj := dz_set k1 (hI.2.2.2.1 j j1) j2
        exact ⟨j, by omega, by omega, d8 j j1 j2⟩
      rcases t3 with ⟨-, t3⟩ | ⟨k', hk', rfl, hk2, -⟩
      · obtain ⟨j, j1, j2, j3⟩ := hex
        exact absurd j3 (t3 j j1 j2)
      · obtain ⟨q0, q1, q6, q9⟩ := d6
        obtain ⟨z1, z2, z3, z4, z5, z6, z7, z8, z9⟩ := ga_r (m := m) d3 d4 hb hk' hk2.symm (by rw [q9]; exact h9) (by rw [q0]; exact hc) x y
        exact ⟨z1, z2, z3, z4, z5, z6, z7, d5.tr z8, z9.trans (congrFun q6 1)⟩
    · rw [isL_n hk, ob_some, if_neg (by decide), if_neg (nI_m1 (by omega))]
      exact ga_r h hI hb hk hk2.symm h9 hc x y
  · rw [if_neg (nI_m1 (by omega)), if_neg (by decide), if_neg (nI_m1 (by omega))]
    unfold pX1_gather_35 pX5_writes_86
    rw [isL_n hk, ob_some, if_neg (by decide), if_neg (nI_m1 (by omega))]
    exact ga_r h hI hb hk (line_set (hI.2.2.2.1 k hk) hb hk1) h9 hc x y
/-- a write of a block -/
theorem wr_r {m : Mem} {N : Nat} {u : Mem} {s : Nat → Int32} (h : Rel s u) (hI : Inv N u) (hN : N < 2 ^ 30) {b : Nat} (hb : b < 64) (x : Int32) : PrK (N + 1) (pX1_writeBlock u (nI b) x) (pX5_writes (mp m s) (nI b) x) m s (u 6 1) := by
  obtain ⟨r, hr, hrm, hA⟩ := lineOf_r (m := m) h (nI b)
  have R1 := rel_sp h hb x
  obtain ⟨I1, L9⟩ := inv_sp hI hN hb
  have S1 : Same s (sps s b x) := sps_same hb x
  have e1 : pX1_writeBlock u (nI b) x = (pX1_gathers (sp u b)).bind fun y => if y = 0 then (pX1_writeThrough (sp u b) (nI b) x).bind fun u1 => pX1_writeBlock_63 (u 10 0 + u 10 1) u1 else (pX1_gather (sp u b) (nI b) x).bind fun u1 => pX1_writeBlock_63 (u 10 0 + u 10 1) u1 := by
    unfold pX1_writeBlock pX1_writeBlock_41
    simp only [ldc0, ldc1, ob_some, pf_e, isB_n hb]
    rw [if_neg (by decide), st_n hb (by decide), ob_some]
    rfl
  have e2 : pX5_writes (mp m s) (nI b) x = (pX5_isGathered (mp m (sps s b x))).bind fun y => if y = 0 then ((pX5_countsWrite (mp m (sps s b x)) 1).bind fun u10 => (ld u10 1 2317 4).bind fun y11 => (pX5_toDisk u10 (nI b) x y11).bind fun u12 => (ld u12 1 2317 0).bind fun y13 => if y13 = 1 then (if r = (-1) then pX5_writes_178 (u 10 0 + u 10 1) u12 else (pX5_puts u12 r (nI b) x 0).bind fun u16 => pX5_writes_178 (u 10 0 + u 10 1) u16) else pX5_writes_178 (u 10 0 + u 10 1) u12) else (if r = (-1) then (pX5_taken (mp m (sps s b x)) ((nI b / 4) - (nI b / 4) / 4 * 4)).bind fun y18 => pX5_writes_86 (nI b) x (u 10 0 + u 10 1) ((nI b / 4) - (nI b / 4) / 4 * 4) y18 (mp m (sps s b x)) else pX5_writes_86 (nI b) x (u 10 0 + u 10 1) ((nI b / 4) - (nI b / 4) / 4 * 4) r (mp m (sps s b x))) := by
    unfold pX5_writes pX5_operations
    simp only [ldm6, ldm7, ob_some, hrm, ldm4, stm4, stm_lv hb, stm_la hb, show s 6 = u 10 0 from h.2.1 0 (by decide), show s 7 = u 10 1 from h.2.1 1 (by decide)]
    have q4 : upd (upd s 4 (s 4 + 1)) (143 + 2 * b) x 4 = s 4 + 1 := by
      rw [upd_at, if_neg (by omega), upd_at, if_pos rfl]
    rw [q4]
    rfl
  have sp1 : sp u b 1 = u 1 := by unfold sp; rw [mset_ne (by decide), mset_ne (by decide)]
  have hr1 : pX2_lineOf (sp u b) (nI b) = some r := (lineOf_c (u := u) (u' := sp u b) sp1 (nI b)).trans hr
  have hA1 : At (sp u b) (nI b) r := hA
  obtain ⟨g, g1, g2, g3⟩ := gath_r (m := m) R1 I1
  rw [e1, e2, g1, g2, ob_some, ob_some]
  have tr : ∀ {P G : Option (Int32 × Mem)}, PrK (N + 1) P G m (sps s b x) (sp u b 6 1) → PrK (N + 1) P G m s (u 6 1) := by
    intro P G z
    obtain ⟨z1, z2, z3, z4, z5, z6, z7, z8, z9⟩ := z
    exact ⟨z1, z2, z3, z4, z5, z6, z7, S1.tr z8, z9⟩
  cases g
  · rw [if_pos (show b2 false = 0 from rfl), if_pos (show b2 false = 0 from rfl)]
    exact tr (wt_r R1 I1 hb L9 x _ r hr1 hA1)
  · rw [if_neg (show ¬ b2 true = 0 by decide), if_neg (show ¬ b2 true = 0 by decide)]
    refine tr (gb_r R1 I1 hb L9 ?_ x _ r hr1 hA1)
    intro e0
    exact (g3 rfl).2 (by rw [e0]; decide)
/-- a line used -/
def us (u : Mem) (k : Nat) : Mem := mset (mset u 0 0 (u 0 0 + 1)) 4 k (u 0 0 + 1)
def uss (s : Nat → Int32) (k : Nat) : Nat → Int32 := upd (upd s 5 (s 5 + 1)) (271 + 5 * k + 3) (s 5 + 1)
theorem rel_us {s : Nat → Int32} {u : Mem} (h : Rel s u) {k : Nat} (hk : k < 12) : Rel (uss s k) (us u k) := by
  unfold uss us
  rw [h.1.2.2.2.2.2]
  exact rel_ku (rel_use h _) _ hk
theorem inv_us {N : Nat} {u : Mem} (h : Inv N u) (k : Nat) : Inv N (us u k) := inv_of h ⟨rfl, rfl, rfl⟩ rfl rfl rfl rfl rfl
theorem us_ac {u : Mem} {k i : Nat} {y : Int32} : us (ac u i y) k = ac (us u k) i y := by
  unfold us
  rw [ac_mset (by decide), ac_mset (by decide)]
  rfl
/-- a read of a block -/
theorem rd_r {m : Mem} {N : Nat} {u : Mem} {s : Nat → Int32} (h : Rel s u) (hI : Inv N u) {b : Nat} (hb : b < 64) : PrK N (pX1_readBlock u (nI b)) (pX5_reads (mp m s) (nI b)) m s (u 6 1) := by
  obtain ⟨r, hr, hrm, hA⟩ := lineOf_r (m := m) h (nI b)
  have none_ : PrK N ((pX4_isLine (-1)).bind fun y2 => if y2 = 0 then (ld u 10 9 5).bind fun y4 => (st u 10 9 5 (y4 + 1)).bind fun u5 => (ld u5 10 9 0).bind fun y6 => (st u5 10 9 0 (y6 + 1)).bind fun u7 => (pX1_diskValueOf u7 (nI b)).bind fun y8 => some (y8, u7) else none) (pX5_reads_19 (nI b) (-1) (mp m s)) m s (u 6 1) := by
    unfold pX5_reads_19
    rw [isL_m1, ob_some, if_pos rfl, if_pos rfl]
    simp only [ldc5, stc5, ldc0, stc0, ob_some, ldm6, stm6, ldm11, stm11, ldm_dv hb]
    unfold pX1_diskValueOf pX1_diskValueOf_17
    rw [isB_n hb, ob_some, if_neg (by decide), ld_n hb (by decide), ob_some, ob_some]
    have R1 := rel_ac (rel_ac h (i := 0) (by decide) 1) (i := 5) (by decide) 1
    refine ⟨u 7 b, ac (ac u 0 1) 5 1, acs (acs s 0 1) 5 1, ?_, ?_, R1, inv_ac (inv_ac hI _ _) _ _, acs_same (acs_same (Same.rf s) (by decide) _) (by decide) _, rfl⟩
    · rw [ac_ac (by decide)]
      rfl
    · have e : acs (acs s 0 1) 5 1 (15 + 2 * b) = u 7 b := (R1.2.2.1 b hb).1
      rw [← e]
      rfl
  have e1 : ∀ q : Int32, ((pX4_isLine q).bind fun y2 => if y2 = 0 then (ld u 10 9 5).bind fun y4 => (st u 10 9 5 (y4 + 1)).bind fun u5 => (ld u5 10 9 0).bind fun y6 => (st u5 10 9 0 (y6 + 1)).bind fun u7 => (pX1_diskValueOf u7 (nI b)).bind fun y8 => some (y8, u7) else (ld u 10 9 4).bind fun y9 => (st u 10 9 4 (y9 + 1)).bind fun u10 => (pX2_use u10 q).bind fun u11 => (ld u11 2 12 q).bind fun y12 => some (y12, u11)) = ((pX4_isLine q).bind fun y2 => if y2 = 0 then (ld u 10 9 5).bind fun y4 => (st u 10 9 5 (y4 + 1)).bind fun u5 => (ld u5 10 9 0).bind fun y6 => (st u5 10 9 0 (y6 + 1)).bind fun u7 => (pX1_diskValueOf u7 (nI b)).bind fun y8 => some (y8, u7) else (ld u 10 9 4).bind fun y9 => (st u 10 9 4 (y9 + 1)).bind fun u10 => (pX2_use u10 q).bind fun u11 => (ld u11 2 12 q).bind fun y12 => some (y12, u11)) := fun _ => rfl
  have none2 : PrK N ((pX4_isLine (-1)).bind fun y2 => if y2 = 0 then (ld u 10 9 5).bind fun y4 => (st u 10 9 5 (y4 + 1)).bind fun u5 => (ld u5 10 9 0).bind fun y6 => (st u5 10 9 0 (y6 + 1)).bind fun u7 => (pX1_diskValueOf u7 (nI b)).bind fun y8 => some (y8, u7) else (ld u 10 9 4).bind fun y9 => (st u 10 9 4 (y9 + 1)).bind fun u10 => (pX2_use u10 (-1)).bind fun u11 => (ld u11 2 12 (-1)).bind fun y12 => some (y12, u11)) (pX5_reads_19 (nI b) (-1) (mp m s)) m s (u 6 1) := by
    rw [isL_m1, ob_some, if_pos rfl] at none_ ⊢
    exact none_
  unfold pX1_readBlock pX2_lineInReach pX2_lineInReach_16 pX5_reads
  rw [ldm0, ob_some, h.1.1, hr, hrm]
  rcases hI.1.1 with e | e
  · rw [e, if_pos rfl, if_neg (by decide), ob_some]
    exact none2
  · rw [e, if_neg (by decide), if_pos rfl, ob_some, ob_some, ob_some]
    rcases hA with ⟨rfl, -⟩ | ⟨k, hk, rfl, hk1⟩
    · exact none2
    · unfold pX5_reads_19 pX2_use pX2_use_27
      simp only [isL_n hk, ob_some, pf_e, ldc4, stc4, ldm5, stm5, lay3 hk, ldm10, stm10, of1 hk, st_n hk (by decide : (12 : Nat) < 2 ^ 31), ld_n hk (by decide : (12 : Nat) < 2 ^ 31)]
      rw [if_neg (by decide), if_neg (by decide), if_neg (nI_m1 (by omega))]
      have R1 := rel_ac (rel_us h hk) (i := 4) (by decide) 1
      refine ⟨u 2 k, ac (us u k) 4 1, acs (uss s k) 4 1, ?_, ?_, R1, inv_ac (inv_us hI k) _ _, acs_same (((Same.rf s).up (by omega)).up (by omega)) (by decide) _, rfl⟩
      · rw [← us_ac]
        rfl
      · have e : acs (uss s k) 4 1 (271 + 5 * k + 1) = u 2 k := (R1.2.2.2 k hk).2.1
        rw [← e]
        rfl
