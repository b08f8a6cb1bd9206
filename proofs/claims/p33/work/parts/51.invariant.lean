/-! WHAT HOLDS OF EVERY STATE THAT THE LAW COMES TO. lat: the value of each block's latest write. -/
/-- truth values; the battery; the next stamp, the next use number -/
def Bits (u : Mem) : Prop := (u 0 3 = 0 ∨ u 0 3 = 1) ∧ (u 6 1 = 0 ∨ u 6 1 = 1)
def Bat (u : Mem) : Prop := ∃ L c : Nat, 1 ≤ L ∧ L ≤ 100 ∧ c ≤ L ∧ u 0 1 = nI L ∧ u 0 2 = nI c ∧ (c = 0 → ∀ k, k < 12 → u 1 k = -1)
def Nx (N : Nat) (u : Mem) : Prop := ∃ n m : Nat, n ≤ N ∧ m ≤ N ∧ u 6 0 = nI n ∧ u 0 0 = nI m
/-- a block: its stamp on the disks, of its latest write, the next one; what the disks hold if they are up to date -/
def BI (lat : Nat → Int32) (u : Mem) (b : Nat) : Prop := u 8 b ≤ u 9 b ∧ u 9 b ≤ u 6 0 ∧ (u 8 b = u 9 b → u 7 b = lat b)
/-- a line: empty, or with a block of its set: the latest write, or (the stick is out) an older one that the disks have outrun; a clean one is on the disks -/
def LB (lat : Nat → Int32) (u : Mem) (k b : Nat) : Prop := b < 64 ∧ u 1 k = nI b ∧ b / 4 % 4 = k / 3 ∧ (u 5 k = 0 ∨ u 5 k = 1) ∧ 0 < u 3 k ∧ 0 < u 4 k ∧ ((u 3 k = u 9 b ∧ u 2 k = lat b) ∨ (u 0 3 = 0 ∧ u 8 b = u 9 b ∧ u 3 k < u 9 b)) ∧ (u 5 k = 0 → u 8 b = u 9 b)
def LI (lat : Nat → Int32) (u : Mem) (k : Nat) : Prop := (u 1 k = -1 ∧ u 5 k = 0) ∨ ∃ b, LB lat u k b
/-- at most one line holds a block -/
def Uq (u : Mem) : Prop := ∀ k k', k < 12 → k' < 12 → ¬ u 1 k = -1 → u 1 k = u 1 k' → k = k'
def Core (N : Nat) (lat : Nat → Int32) (u : Mem) : Prop := Bits u ∧ Bat u ∧ Nx N u ∧ (∀ b, b < 64 → BI lat u b) ∧ (∀ k, k < 12 → LI lat u k) ∧ Uq u
/-- a block whose latest write is neither on the disks nor in a line, in reach or not -/
noncomputable def mi (u : Mem) (b : Nat) : Bool := @decide (¬ u 8 b = u 9 b ∧ ∀ k, k < 12 → ¬ (u 1 k = nI b ∧ u 3 k = u 9 b)) (Classical.propDecidable _)
noncomputable def MiW (u : Mem) (k : Nat) : Nat := if h : k = 0 then rc (mi u) 0 64 else MiW u (k - 1)
noncomputable def Mi' (u : Mem) : Nat := MiW u 0
theorem Mi_e (u : Mem) : Mi' u = rc (mi u) 0 64 := by
  unfold Mi'
  rw [MiW, dif_pos rfl]
/-- the counts -/
def Cn (N : Nat) (u : Mem) : Prop := ∃ c : Nat → Nat, (∀ i, i < 9 → u 10 i = nI (c i) ∧ c i ≤ 100 * N) ∧ c 5 ≤ c 0 ∧ c 8 ≤ 3 * c 7 ∧ Mi' u ≤ c 6
theorem Core.mono {N N' : Nat} {lat : Nat → Int32} {u : Mem} (h : Core N lat u) (hN : N ≤ N') : Core N' lat u := by
  obtain ⟨h1, h2, ⟨n, m, a, b, c⟩, h4⟩ := h
  exact ⟨h1, h2, ⟨n, m, Nat.le_trans a hN, Nat.le_trans b hN, c⟩, h4⟩
theorem nI_inj {a b : Nat} (ha : a < 2 ^ 31) (hb : b < 2 ^ 31) (h : nI a = nI b) : a = b := (nI_eq ha hb).mp h
theorem LB.ne {lat : Nat → Int32} {u : Mem} {k b : Nat} (h : LB lat u k b) : ¬ u 1 k = -1 := ne_m1 h.1 h.2.1
theorem LI.get {lat : Nat → Int32} {u : Mem} {k : Nat} (h : LI lat u k) (hn : ¬ u 1 k = -1) : ∃ b, LB lat u k b := h.resolve_left fun q => hn q.1
theorem LI.z {lat : Nat → Int32} {u : Mem} {k : Nat} (h : LI lat u k) : u 5 k = 0 ∨ u 5 k = 1 := by
  rcases h with h | ⟨b, h⟩
  · exact Or.inl h.2
  · exact h.2.2.2.1
theorem LI.dirty {lat : Nat → Int32} {u : Mem} {k : Nat} (h : LI lat u k) (hd : ¬ u 5 k = 0) : ∃ b, LB lat u k b := h.resolve_left fun q => hd q.2
/-- the block that a line holds, by its number -/
theorem LB.of {lat : Nat → Int32} {u : Mem} {k b : Nat} (h : LI lat u k) (hb : b < 64) (e : u 1 k = nI b) : LB lat u k b := by
  obtain ⟨b', h'⟩ := h.get (ne_m1 hb e)
  have := nI_inj (by have := h'.1; omega) (by omega) (h'.2.1.symm.trans e)
  subst this
  exact h'
theorem dz_set {lat : Nat → Int32} {u : Mem} {q k : Nat} (hq : q < 16) (hl : LI lat u k) (hz : dz u (nI q) k = true) : q % 4 = k / 3 := by
  unfold dz at hz
  simp only [Bool.and_eq_true, decide_eq_true_eq] at hz
  obtain ⟨b, hb, e1, hs, -⟩ := hl.dirty hz.1
  rw [e1, div4 (by omega)] at hz
  have := (nI_eq (by omega) (by omega)).mp hz.2
  rw [← this]; exact hs
theorem Dn_3 {lat : Nat → Int32} {u : Mem} {q : Nat} (hq : q < 16) (hl : ∀ k, k < 12 → LI lat u k) : Dn u (nI q) ≤ 3 := by
  have hk : ∀ k, k < 12 → ¬ q % 4 = k / 3 → dz u (nI q) k = false := fun k h1 h2 => by
    cases hz : dz u (nI q) k
    · rfl
    · exact absurd (dz_set hq (hl k h1) hz) h2
  have hb : ∀ k, (dz u (nI q) k).toNat ≤ 1 := fun k => Bool.toNat_le _
  unfold Dn
  simp only [rc]
  rcases (show q % 4 = 0 ∨ q % 4 = 1 ∨ q % 4 = 2 ∨ q % 4 = 3 by omega) with e | e | e | e
  · rw [hk 3 (by omega) (by omega), hk 4 (by omega) (by omega), hk 5 (by omega) (by omega), hk 6 (by omega) (by omega), hk 7 (by omega) (by omega), hk 8 (by omega) (by omega), hk 9 (by omega) (by omega), hk 10 (by omega) (by omega), hk 11 (by omega) (by omega)]
    have := hb 0; have := hb 1; have := hb 2; simp; omega
  · rw [hk 0 (by omega) (by omega), hk 1 (by omega) (by omega), hk 2 (by omega) (by omega), hk 6 (by omega) (by omega), hk 7 (by omega) (by omega), hk 8 (by omega) (by omega), hk 9 (by omega) (by omega), hk 10 (by omega) (by omega), hk 11 (by omega) (by omega)]
    have := hb 3; have := hb 4; have := hb 5; simp; omega
  · rw [hk 0 (by omega) (by omega), hk 1 (by omega) (by omega), hk 2 (by omega) (by omega), hk 3 (by omega) (by omega), hk 4 (by omega) (by omega), hk 5 (by omega) (by omega), hk 9 (by omega) (by omega), hk 10 (by omega) (by omega), hk 11 (by omega) (by omega)]
    have := hb 6; have := hb 7; have := hb 8; simp; omega
  · rw [hk 0 (by omega) (by omega), hk 1 (by omega) (by omega), hk 2 (by omega) (by omega), hk 3 (by omega) (by omega), hk 4 (by omega) (by omega), hk 5 (by omega) (by omega), hk 6 (by omega) (by omega), hk 7 (by omega) (by omega), hk 8 (by omega) (by omega)]
    have := hb 9; have := hb 10; have := hb 11; simp; omega
/-- the line that holds a block -/
def At (u : Mem) (x r : Int32) : Prop := (r = -1 ∧ ∀ k, k < 12 → ¬ u 1 k = x) ∨ ∃ k, k < 12 ∧ r = nI k ∧ u 1 k = x
theorem lineOf_p {u : Mem} (x : Int32) : ∀ (d i n : Nat), i + d = 12 → d < n → ∃ r : Int32, pX2_lineOf_2 u x n (nI i) = some r ∧ ((r = -1 ∧ ∀ k, i ≤ k → k < 12 → ¬ u 1 k = x) ∨ ∃ k, k < 12 ∧ r = nI k ∧ u 1 k = x) := by
  intro d
  induction d with
  | zero =>
    intro i n hi hn
    obtain ⟨q, rfl⟩ : ∃ q, n = q + 1 := ⟨n - 1, by omega⟩
    obtain rfl : i = 12 := by omega
    refine ⟨-1, ?_, Or.inl ⟨rfl, fun k h1 h2 => absurd h1 (by omega)⟩⟩
    show pX2_lineOf_2b u x _ (nI 12) = _
    unfold pX2_lineOf_2b
    rw [if_pos at12]
  | succ d ih =>
    intro i n hi hn
    obtain ⟨q, rfl⟩ : ∃ q, n = q + 1 := ⟨n - 1, by omega⟩
    have hi2 : i < 12 := by omega
    have e1 : pX2_lineOf_2 u x (q + 1) (nI i) = if u 1 i = x then some (nI i) else pX2_lineOf_2 u x q (nI (i + 1)) := by
      show pX2_lineOf_2b u x _ (nI i) = _
      unfold pX2_lineOf_2b
      rw [if_neg (ge12 hi2), ld_n hi2 (by decide), ob_some, nI_1]
    rw [e1]
    by_cases c : u 1 i = x
    · rw [if_pos c]
      exact ⟨nI i, rfl, Or.inr ⟨i, hi2, rfl, c⟩⟩
    · rw [if_neg c]
      obtain ⟨r, g1, g3⟩ := ih (i + 1) q (by omega) (by omega)
      refine ⟨r, g1, g3.imp (fun g => ⟨g.1, fun k h1 h2 => ?_⟩) id⟩
      by_cases e : k = i
      · subst e; exact c
      · exact g.2 k (by omega) h2
theorem lineOf_r (u : Mem) (x : Int32) : ∃ r : Int32, pX2_lineOf u x = some r ∧ At u x r := by
  obtain ⟨r, g1, g3⟩ := lineOf_p (u := u) x 12 0 FU rfl (by decide)
  exact ⟨r, g1, g3.imp (fun g => ⟨g.1, fun k hk => g.2 k (Nat.zero_le _) hk⟩) id⟩
theorem isL_r {r : Int32} {u : Mem} {x : Int32} (hA : At u x r) : pX4_isLine r = some (if r = -1 then 0 else 1) := by
  rcases hA with ⟨rfl, -⟩ | ⟨k, hk, rfl, -⟩
  · decide
  · rw [isL_n hk, if_neg (nI_m1 (by omega))]
/-- the line that is taken for a block -/
theorem take_p {u : Mem} {q : Nat} (hq : q < 4) : ∀ (d i n : Nat) (x2 x3 : Int32), i + d = 3 * q + 3 → 3 * q ≤ i → 12 - i < n → ((x2 = -1 ∧ ∀ k, 3 * q ≤ k → k < i → ¬ u 5 k = 0) ∨ ∃ k, k < 12 ∧ x2 = nI k ∧ x3 = u 4 k ∧ k / 3 = q ∧ u 5 k = 0) →
    ∃ r : Int32, pX2_freeLine_7 u (nI q) n x2 x3 (nI i) = some r ∧ ((r = -1 ∧ ∀ k, 3 * q ≤ k → k < 3 * q + 3 → ¬ u 5 k = 0) ∨ ∃ k, k < 12 ∧ r = nI k ∧ k / 3 = q ∧ u 5 k = 0) := by
  intro d
  induction d with
  | zero =>
    intro i n x2 x3 hi h3 hn hx
    obtain rfl : i = 3 * q + 3 := by omega
    refine ⟨x2, fl_tail hq x2 x3 (12 - (3 * q + 3)) _ n (by omega) (by omega) (by omega), ?_⟩
    rcases hx with hx | ⟨k, h1, h2, h4, h5, h6⟩
    · exact Or.inl hx
    · exact Or.inr ⟨k, h1, h2, h5, h6⟩
  | succ d ih =>
    intro i n x2 x3 hi h3 hn hx
    obtain ⟨p, rfl⟩ : ∃ p, n = p + 1 := ⟨n - 1, by omega⟩
    have hi2 : i < 12 := by omega
    rw [fl_step hq hi2, if_pos (show i / 3 = q by omega)]
    by_cases c : u 5 i = 0
    · rw [if_pos c]
      have nxt : ∃ r : Int32, pX2_freeLine_7 u (nI q) p (nI i) (u 4 i) (nI (i + 1)) = some r ∧ ((r = -1 ∧ ∀ k, 3 * q ≤ k → k < 3 * q + 3 → ¬ u 5 k = 0) ∨ ∃ k, k < 12 ∧ r = nI k ∧ k / 3 = q ∧ u 5 k = 0) :=
        ih (i + 1) p (nI i) (u 4 i) (by omega) (by omega) (by omega) (Or.inr ⟨i, hi2, rfl, rfl, by omega, c⟩)
      by_cases e1 : u 1 i = -1
      · rw [if_pos e1]
        exact ⟨nI i, rfl, Or.inr ⟨i, hi2, rfl, by omega, c⟩⟩
      · rw [if_neg e1]
        rcases hx with ⟨hx, -⟩ | ⟨k, k1, k2, k3, k4, k5⟩
        · rw [if_pos hx]
          exact nxt
        · subst k2
          rw [if_neg (nI_m1 (by omega)), k3]
          by_cases c2 : u 4 k ≤ u 4 i
          · rw [if_pos c2]
            exact ih (i + 1) p (nI k) (u 4 k) (by omega) (by omega) (by omega) (Or.inr ⟨k, k1, rfl, rfl, k4, k5⟩)
          · rw [if_neg c2]
            exact nxt
    · rw [if_neg c]
      refine ih (i + 1) p x2 x3 (by omega) (by omega) (by omega) ?_
      rcases hx with ⟨hx, hy⟩ | hx
      · refine Or.inl ⟨hx, fun k k1 k2 => ?_⟩
        by_cases e : k = i
        · subst e; exact c
        · exact hy k k1 (by omega)
      · exact Or.inr hx
/-- a line of a set that is free to take -/
def Fr (u : Mem) (q : Nat) (r : Int32) : Prop := (r = -1 ∧ ∀ k, 3 * q ≤ k → k < 3 * q + 3 → ¬ u 5 k = 0) ∨ ∃ k, k < 12 ∧ r = nI k ∧ k / 3 = q ∧ u 5 k = 0
theorem take_r (u : Mem) {q : Nat} (hq : q < 4) : ∃ r : Int32, pX2_freeLine u (nI q) = some r ∧ Fr u q r := by
  obtain ⟨r, g1, g3⟩ := take_p (u := u) hq 3 (3 * q) (FU - 3 * q) (-1) 0 rfl (Nat.le_refl _) (by unfold FU; omega) (Or.inl ⟨rfl, fun k h1 h2 => by omega⟩)
  refine ⟨r, ?_, g3⟩
  have e := fl_head (u := u) hq (-1) 0 (3 * q) 0 (FU - 3 * q) (by omega)
  rw [show FU - 3 * q + 3 * q = FU by unfold FU; omega] at e
  exact e.trans g1
theorem isL_f {u : Mem} {q : Nat} {r : Int32} (hA : Fr u q r) : pX4_isLine r = some (if r = -1 then 0 else 1) := by
  rcases hA with ⟨rfl, -⟩ | ⟨k, hk, rfl, -⟩
  · decide
  · rw [isL_n hk, if_neg (nI_m1 (by omega))]
/-- where all three lines of a set are dirty, the fullest stripe has dirty lines -/
theorem full_r {lat : Nat → Int32} {u : Mem} (hl : ∀ k, k < 12 → LI lat u k) {q : Nat} (hq : q < 4) (hd : ∀ k, 3 * q ≤ k → k < 3 * q + 3 → ¬ u 5 k = 0) : ∃ k : Nat, k < 16 ∧ k % 4 = q ∧ 0 < Dn u (nI k) ∧ pX2_fullestStripe u (nI q) = some (nI k) := by
  have hD : ∀ j, j < 16 → Dn u (nI j) ≤ 3 := fun j hj => Dn_3 hj hl
  obtain ⟨r, g1, g2⟩ := fs_p hq hD 16 0 FU (-1) 0 rfl (by decide) (by decide) (Or.inl ⟨rfl, rfl, fun j hj => by omega⟩)
  have h0 := hd (3 * q) (Nat.le_refl _) (by omega)
  obtain ⟨b, hb, e1, hs, -⟩ := (hl (3 * q) (by omega)).dirty h0
  have hpos : 0 < Dn u (nI (b / 4)) := by
    refine rc_pos (k := 3 * q) ?_ 12 0 (Nat.zero_le _) (by omega)
    unfold dz
    rw [decide_eq_true h0, e1, div4 (by omega), decide_eq_true rfl]
    rfl
  rcases g2 with ⟨-, g5⟩ | ⟨k, rfl, g5, g6⟩
  · have := g5 (b / 4) (by omega) (by omega); omega
  · exact ⟨k, g6.1, g6.2.1, g5, g1⟩
/-- sums over the stripes are sums over the lines -/
theorem sm_line {lat : Nat → Int32} {u : Mem} {k : Nat} (hl : LI lat u k) : sm (fun q => (dz u (nI q) k).toNat) 0 16 = (dy u k).toNat := by
  by_cases hz : u 5 k = 0
  · rw [show dy u k = false from decide_eq_false (not_not_intro hz), show (fun q => (dz u (nI q) k).toNat) = fun _ => 0 by funext q; unfold dz; rw [decide_eq_false (not_not_intro hz)]; rfl]
    exact sm_zero 16 0
  · obtain ⟨b, b1, b2', -⟩ := hl.dirty hz
    rw [show dy u k = true from decide_eq_true hz, ← show _ = (true.toNat) from sm_one (b / 4) (by omega)]
    refine sm_congr 16 0 (fun q q1 q2 => ?_)
    unfold dz
    rw [decide_eq_true hz, b2', div4 (by omega), Bool.true_and]
    by_cases e : b / 4 = q
    · rw [decide_eq_true e, decide_eq_true (congrArg nI e)]
    · rw [decide_eq_false e, decide_eq_false (fun e1 => e ((nI_eq (by omega) (by omega)).mp e1))]
theorem sm_all {lat : Nat → Int32} {u : Mem} (hl : ∀ k, k < 12 → LI lat u k) : ∀ (d i : Nat), i + d ≤ 12 → sm (fun q => rc (dz u (nI q)) i d) 0 16 = rc (dy u) i d := by
  intro d
  induction d with
  | zero => intro i hi; exact sm_zero 16 0
  | succ d ih =>
    intro i hi
    show sm (fun q => (dz u (nI q) i).toNat + rc (dz u (nI q)) (i + 1) d) 0 16 = (dy u i).toNat + rc (dy u) (i + 1) d
    rw [sm_add, sm_line (hl i (by omega)), ih (i + 1) (by omega)]
theorem sm_Dn {lat : Nat → Int32} {u : Mem} (hl : ∀ k, k < 12 → LI lat u k) : sm (fun q => Dn u (nI q)) 0 16 = Dt u := sm_all hl 12 0 (by decide)
