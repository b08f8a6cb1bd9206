/-! THE LAW'S WRITE, AND ALL ITS DEEDS. -/
theorem LN_1 {u : Mem} {k : Nat} (h : ¬ u 1 k = -1) : LN u k 1 = u 2 k := by
  rw [LN_at h, if_neg (by decide), if_pos rfl]
theorem LN_4 {u : Mem} {k : Nat} (h : ¬ u 1 k = -1) : LN u k 4 = if u 5 k = 0 then 0 else 1 := by
  rw [LN_at h, if_neg (by decide), if_neg (by decide), if_neg (by decide), if_neg (by decide)]
theorem Dd.eq {P P' : Mem → Mem → (Nat → Mem) → Option (Int32 × GM)} {u u1 : Mem} {r : Int32} (h : Dd P u r u1) (e : ∀ t hh S, P' t hh S = P t hh S) : Dd P' u r u1 := by
  intro t hh S z x h1 h2
  rw [e]
  exact h t hh S z x h1 h2
section WRS
variable {N : Nat} {lat : Nat → Int32} {u : Mem}
theorem LN4_1 (h : Core N lat u) {k : Nat} (hk : k < 12) : (1 : Int32) ≤ LN u k 4 ↔ ¬ u 5 k = 0 := by
  unfold LN
  rcases h.2.2.2.2.1 k hk with ⟨a1, a2⟩ | ⟨b, B⟩
  · rw [if_pos a1, a2]
    exact ⟨fun q => absurd q (by decide), fun q => absurd rfl q⟩
  · rw [if_neg B.ne, if_neg (by decide), if_neg (by decide), if_neg (by decide), if_neg (by decide)]
    by_cases z : u 5 k = 0
    · rw [if_pos z]; exact ⟨fun q => absurd q (by decide), fun q => absurd z q⟩
    · rw [if_neg z]; exact ⟨fun _ => z, fun _ => Int32.le_refl _⟩
/-- the law looks for a free line -/
theorem wl_p (h : Core N lat u) {q : Nat} (hq : q < 4) (x1 x2 x3 x4 x5 x6 x7 : Int32) (t hh : Mem) (S : Nat → Mem) : ∀ (d i n : Nat) (f : Bool), i + d = 3 → d < n →
    ∃ (m : Nat) (f' : Bool), pL_writes_81 x1 x2 x3 x4 x5 x6 x7 (nI q) n (b2 f) (nI i) t u hh S = pL_writes_81 x1 x2 x3 x4 x5 x6 x7 (nI q) (m + 1) (b2 f') (nI 3) t u hh S ∧ (f' = true ↔ (f = true ∨ ∃ k, 3 * q + i ≤ k ∧ k < 3 * q + 3 ∧ u 5 k = 0)) := by
  intro d
  induction d with
  | zero =>
    intro i n f hi hn
    obtain ⟨p, rfl⟩ : ∃ p, n = p + 1 := ⟨n - 1, by omega⟩
    obtain rfl : i = 3 := by omega
    exact ⟨p, f, rfl, fun e => Or.inl e, fun e => e.elim id (fun ⟨k, k1, k2, _⟩ => by omega)⟩
  | succ d ih =>
    intro i n f hi hn
    obtain ⟨p, rfl⟩ : ∃ p, n = p + 1 := ⟨n - 1, by omega⟩
    have hlt : ¬ (3 : Int32) ≤ nI i := nI_ge (b := 3) (by omega) (by decide)
    have e1 : pL_writes_81 x1 x2 x3 x4 x5 x6 x7 (nI q) (p + 1) (b2 f) (nI i) t u hh S = pL_writes_81 x1 x2 x3 x4 x5 x6 x7 (nI q) p (b2 (f || decide (u 5 (3 * q + i) = 0))) (nI (i + 1)) t u hh S := by
      show pL_writes_81b x1 x2 x3 x4 x5 x6 x7 (nI q) _ (b2 f) (nI i) t u hh S = _
      unfold pL_writes_81b pL_writes_105 pL_writes_110
      rw [if_neg hlt, nI_1]
      cases f with
      | true => rw [if_neg (show ¬ b2 true = 0 by decide)]; rfl
      | false =>
        have := q_line (u := u) t hh S hq (c := i) (p := 4) (by omega) (by decide)
        rw [if_pos (show b2 false = 0 from rfl), show pX4_line t u hh S (nI q) (nI i) 4 = some (LN u (3 * q + i) 4) from this, ob_some]
        by_cases z : u 5 (3 * q + i) = 0
        · rw [if_neg (fun w => (LN4_1 h (by omega)).mp w z), decide_eq_true z]; rfl
        · rw [if_pos ((LN4_1 h (by omega)).mpr z), decide_eq_false z]; rfl
    obtain ⟨m, f', g1, g2⟩ := ih (i + 1) p (f || decide (u 5 (3 * q + i) = 0)) (by omega) (by omega)
    refine ⟨m, f', e1.trans g1, g2.trans ⟨fun e => ?_, fun e => ?_⟩⟩
    · rcases e with e | ⟨k, k1, k2, k3⟩
      · rcases Bool.or_eq_true_iff.mp e with e | e
        · exact Or.inl e
        · exact Or.inr ⟨3 * q + i, Nat.le_refl _, by omega, of_decide_eq_true e⟩
      · exact Or.inr ⟨k, by omega, k2, k3⟩
    · rcases e with e | ⟨k, k1, k2, k3⟩
      · exact Or.inl (Bool.or_eq_true_iff.mpr (Or.inl e))
      · by_cases c : k = 3 * q + i
        · exact Or.inl (Bool.or_eq_true_iff.mpr (Or.inr (decide_eq_true (by rw [← c]; exact k3))))
        · exact Or.inr ⟨k, by omega, k2, k3⟩
theorem cnt_e (t u hh : Mem) (S : Nat → Mem) : pX4_count t u hh S 0 = some (u 10 0) ∧ pX4_count t u hh S 1 = some (u 10 1) ∧ pX4_count t u hh S 2 = some (u 10 2) ∧ pX4_count t u hh S 3 = some (u 10 3) ∧ pX4_count t u hh S 6 = some (u 10 6) :=
  ⟨q_count t hh S (i := 0) (by decide), q_count t hh S (i := 1) (by decide), q_count t hh S (i := 2) (by decide), q_count t hh S (i := 3) (by decide), q_count t hh S (i := 6) (by decide)⟩
theorem dcs_01 {z : Nat} (h : z ≤ 3) : dcs z 0 + dcs z 1 = 0 ↔ z = 0 := by
  rcases (show z = 0 ∨ z = 1 ∨ z = 2 ∨ z = 3 by omega) with rfl | rfl | rfl | rfl <;> decide
theorem a_write (h : Core N lat u) (hN : N < 2 ^ 20) {b v : Nat} (hb : b < 64) (hv : v ≤ 999) (hon : u 6 1 = 1) : ∃ u1 : Mem, Dd (fun t hh S => pL_writes t u hh S (nI b) (nI v)) u 1 u1 ∧ Core (N + 1) (upd lat b (nI v)) u1 ∧ Cd u u1 ∧ u1 10 2 + u1 10 3 = (u 10 2 + u 10 3) + 1 := by
  obtain ⟨g, z, u1, g1, d1, d2, d3, d4, d5, d6, d7, d8, d9, d10⟩ := d_write hb hv hN h hon
  refine ⟨u1, d1.then (fun t hh S h1 S1 e => ?_), d7, d9, ?_⟩
  · have e : pX4_write t u hh S (nI b) (nI v) = some (nI (wcs g z 0 + wcs g z 1), (t, u1, h1, S1)) := e
    obtain ⟨q0, q1, q2, q3, q6⟩ := cnt_e t u hh S
    obtain ⟨p0, p1, p2, p3, p6⟩ := cnt_e t u1 h1 S1
    have hW : wcs g z 0 + wcs g z 1 < 2 ^ 31 := by have := wcs_b (g := g) (i := 0) d3; have := wcs_b (g := g) (i := 1) d3; omega
    -- the last look
    have f201 : pL_writes_201 (nI b) (nI v) (u 10 2) (u 10 3) (b2 g) 1 t u1 h1 S1 = some (1, (t, u1, h1, S1)) := by
      obtain ⟨r, r1, r2⟩ := lo_r (u := u1) t h1 S1 (nI b)
      unfold pL_writes_201 pL_writes_368 pL_writes_364 pL_writes_369 pL_writes_283 pL_writes_284
      rw [r1, ob_some]
      cases g with
      | false =>
        obtain ⟨w1, w2, w3⟩ := d6 rfl
        have hf : fnd u1 b = true := fnd_t (Or.inl w2)
        rw [if_pos (show b2 false = 0 from rfl), if_neg one0, p3, ob_some, d10 3, if_pos (by rfl), q_onDisk t h1 S1 hb, ob_some, if_pos w1, q_isFound d7 t h1 S1 hb, ob_some, hf, if_neg (show ¬ b2 true = 0 by decide), q_isIn d7.1, ob_some]
        rcases d7.1.1 with q | q
        · rw [q, if_pos rfl, if_pos b2_1]
        · rw [q, if_neg one0]
          rcases r2 with ⟨rfl, -⟩ | ⟨k, hk, rfl, hk1⟩
          · rw [if_pos (show (-1 : Int32) < 0 by decide), if_pos b2_1]
          · obtain ⟨y1, y2⟩ := w3 k hk (d8.symm.trans q) hk1
            have l1 := q_ln (u := u1) t h1 S1 hk (p := 1) (by decide)
            have l4 := q_ln (u := u1) t h1 S1 hk (p := 4) (by decide)
            rw [if_neg (nn0 (by omega)), show pX4_line t u1 h1 S1 (nI k / 3) (nI k - nI k / 3 * 3) 1 = some (LN u1 k 1) from l1, ob_some, LN_1 (ne_m1 hb hk1), if_pos y1, show pX4_line t u1 h1 S1 (nI k / 3) (nI k - nI k / 3 * 3) 4 = some (LN u1 k 4) from l4, ob_some, LN_4 (ne_m1 hb hk1), if_pos y2, if_pos rfl, if_pos b2_1]
      | true =>
        obtain ⟨k0, w0, w1, w2, w3⟩ := d4 rfl
        rw [if_neg (show ¬ b2 true = 0 by decide), if_neg one0, p2, ob_some, d10 2, if_pos (by rfl)]
        rcases r2 with ⟨-, r2⟩ | ⟨k, hk, rfl, hk1⟩
        · exact absurd w1 (r2 k0 w0)
        · have := d7.2.2.2.2.2 k k0 hk w0 (ne_m1 hb hk1) (hk1.trans w1.symm)
          subst this
          have hf : fnd u1 b = true := fnd_t (Or.inr ⟨by rw [d8]; exact (g1.mp rfl).1, k, hk, hk1⟩)
          have l1 := q_ln (u := u1) t h1 S1 hk (p := 1) (by decide)
          have l4 := q_ln (u := u1) t h1 S1 hk (p := 4) (by decide)
          rw [if_neg (nn0 (by omega)), show pX4_line t u1 h1 S1 (nI k / 3) (nI k - nI k / 3 * 3) 1 = some (LN u1 k 1) from l1, ob_some, LN_1 (ne_m1 hb hk1), if_pos w2, show pX4_line t u1 h1 S1 (nI k / 3) (nI k - nI k / 3 * 3) 4 = some (LN u1 k 4) from l4, ob_some, LN_4 (ne_m1 hb hk1), if_neg (show ¬ u1 5 k = 0 by rw [w3]; decide), if_pos rfl, q_isFound d7 t h1 S1 hb, ob_some, hf, if_neg (show ¬ b2 true = 0 by decide), if_pos b2_1]
    have hc23 : u1 10 2 + u1 10 3 = (u 10 2 + u 10 3) + 1 := by
      rw [d10 2, d10 3, add4]
      cases g
      · rfl
      · rw [show wcs true z 2 + wcs true z 3 = 1 by unfold wcs; rw [if_pos rfl, if_pos rfl, if_pos rfl, if_neg (by decide), dcs_3]]; rfl
    have f172 : ∀ a : Int32, pL_writes_172 (nI b) (nI v) (u 10 2) (u 10 3) (b2 g) a a t u1 h1 S1 = some (1, (t, u1, h1, S1)) := fun a => by
      unfold pL_writes_172
      rw [if_pos rfl, p2, ob_some, p3, ob_some, hc23, if_pos rfl]
      exact f201
    -- the write itself
    have f81 : ∀ (m : Nat) (f : Bool), (g = true → (f = true ↔ z = 0)) → pL_writes_81 (nI b) (nI v) (u 10 0 + u 10 1) (u 10 2) (u 10 3) (nI (wcs g z 0 + wcs g z 1)) (b2 g) (nI (b / 4 % 4)) (m + 1) (b2 f) (nI 3) t u hh S = some (1, (t, u1, h1, S1)) := by
      intro m f hf
      show pL_writes_81b (nI b) (nI v) (u 10 0 + u 10 1) (u 10 2) (u 10 3) (nI (wcs g z 0 + wcs g z 1)) (b2 g) (nI (b / 4 % 4)) _ (b2 f) (nI 3) t u hh S = _
      unfold pL_writes_81b pL_writes_157 pL_writes_171
      rw [if_pos (show (3 : Int32) ≤ nI 3 by decide), e, bdG_some, if_pos rfl, p0, ob_some, p1, ob_some, d10 0, d10 1, add4, if_pos rfl]
      cases g with
      | false =>
        rw [if_pos (show b2 false = 0 from rfl), if_pos (show b2 false = 0 from rfl), if_neg (show ¬ nI (wcs false z 0 + wcs false z 1) = 0 by show ¬ nI 4 = 0; decide)]
        exact f172 0
      | true =>
        rw [if_neg (show ¬ b2 true = 0 by decide), if_neg (show ¬ b2 true = 0 by decide)]
        have hz : wcs true z 0 + wcs true z 1 = dcs z 0 + dcs z 1 := rfl
        cases f with
        | true =>
          have z0 := (hf rfl).mp rfl
          rw [if_pos ((nI0 hW).mpr (by rw [hz]; exact (dcs_01 d3).mpr z0)), if_neg (show ¬ b2 true = 0 by decide)]
          exact f172 1
        | false =>
          have z0 : ¬ z = 0 := fun q => absurd ((hf rfl).mpr q) (by decide)
          rw [if_neg (fun q => z0 ((dcs_01 d3).mp (by rw [← hz]; exact (nI0 hW).mp q))), if_pos (show b2 false = 0 from rfl)]
          exact f172 0
    have f54 : pL_writes_54 (nI b) (nI v) (u 10 0 + u 10 1) (u 10 2) (u 10 3) (nI (wcs g z 0 + wcs g z 1)) (b2 g) t u hh S = some (1, (t, u1, h1, S1)) := by
      obtain ⟨r, r1, r2⟩ := lo_r (u := u) t hh S (nI b)
      have hq : b / 4 % 4 < 4 := Nat.mod_lt _ (by decide)
      unfold pL_writes_54 pL_writes_76
      rw [r1, ob_some]
      simp only [div4 (show b < 2 ^ 31 by omega), set4 (show b / 4 < 2 ^ 31 by omega)]
      rcases r2 with ⟨rfl, r2⟩ | ⟨k, hk, rfl, hk1⟩
      · rw [if_pos (show (-1 : Int32) < 0 by decide)]
        obtain ⟨m, f', w1, w2⟩ := wl_p h hq (nI b) (nI v) (u 10 0 + u 10 1) (u 10 2) (u 10 3) (nI (wcs g z 0 + wcs g z 1)) (b2 g) t hh S 3 0 FU false rfl (by decide)
        rw [show pL_writes_81 (nI b) (nI v) (u 10 0 + u 10 1) (u 10 2) (u 10 3) (nI (wcs g z 0 + wcs g z 1)) (b2 g) (nI (b / 4 % 4)) FU 0 0 t u hh S = _ from w1]
        refine f81 m f' (fun hg => w2.trans (Iff.trans ⟨fun q => ?_, fun q => ?_⟩ (d5 hg).symm))
        · rcases q with q | ⟨k, k1, k2, k3⟩
          · cases q
          · exact Or.inr ⟨k, by omega, k2, k3⟩
        · rcases q with ⟨k, k1, k2⟩ | ⟨k, k1, k2, k3⟩
          · exact absurd k2 (r2 k k1)
          · exact Or.inr ⟨k, by omega, k2, k3⟩
      · rw [if_neg (nn0 (by omega))]
        obtain ⟨m, f', w1, w2⟩ := wl_p h hq (nI b) (nI v) (u 10 0 + u 10 1) (u 10 2) (u 10 3) (nI (wcs g z 0 + wcs g z 1)) (b2 g) t hh S 3 0 FU true rfl (by decide)
        rw [show pL_writes_81 (nI b) (nI v) (u 10 0 + u 10 1) (u 10 2) (u 10 3) (nI (wcs g z 0 + wcs g z 1)) (b2 g) (nI (b / 4 % 4)) FU 1 0 t u hh S = _ from w1]
        refine f81 m f' (fun hg => ⟨fun _ => (d5 hg).mpr (Or.inl ⟨k, hk, hk1⟩), fun _ => w2.mpr (Or.inl rfl)⟩)
    show pL_writes t u hh S (nI b) (nI v) = _
    unfold pL_writes pL_writes_53
    rw [q0, ob_some, q1, ob_some, q2, ob_some, q3, ob_some, d2, ob_some, q_isIn h.1, ob_some]
    unfold pX4_charge
    rw [ob_some]
    rcases h.1.1 with q | q
    · have hg : g = false := by
        cases g
        · rfl
        · rw [q] at g1; exact absurd (g1.mp rfl).1 (by decide)
      rw [hg] at f54
      rw [q, if_pos rfl, hg]
      exact f54
    · rw [q, if_neg one0]
      by_cases c : u 0 2 < 20
      · have hg : g = false := by
          cases g
          · rfl
          · exact absurd c (g1.mp rfl).2
        rw [hg] at f54
        rw [if_pos c, hg]
        exact f54
      · have hg : g = true := g1.mpr ⟨q, c⟩
        rw [hg] at f54
        rw [if_neg c, hg]
        exact f54
  · rw [d10 2, d10 3, add4]
    cases g
    · rfl
    · rw [show wcs true z 2 + wcs true z 3 = 1 by unfold wcs; rw [if_pos rfl, if_pos rfl, if_pos rfl, if_neg (by decide), dcs_3]]; rfl
/-- the block that a number names -/
theorem blk_r (y : Int32) : ∃ b : Nat, b < 64 ∧ ∀ {α : Type} (f : Int32 → Option α), (if (y &&& 3) = 0 then (pL_up (y >>> (2 &&& 31)) 64).bind f else (pL_up (y >>> (2 &&& 31)) 4).bind fun y2 => (pL_up (y >>> (4 &&& 31)) 5).bind fun y3 => f ((16 * y2) + y3)) = f (nI b) := by
  by_cases c : (y &&& 3) = 0
  · obtain ⟨j, hj, e⟩ := up_r (y >>> (2 &&& 31)) (n := 64) (by decide) (by decide)
    refine ⟨j, hj, fun f => ?_⟩
    rw [if_pos c, show pL_up (y >>> (2 &&& 31)) 64 = some (nI j) from e]; rfl
  · obtain ⟨j, hj, e⟩ := up_r (y >>> (2 &&& 31)) (n := 4) (by decide) (by decide)
    obtain ⟨i, hi, e2⟩ := up_r (y >>> (4 &&& 31)) (n := 5) (by decide) (by decide)
    refine ⟨16 * j + i, by omega, fun f => ?_⟩
    rw [if_neg c, show pL_up (y >>> (2 &&& 31)) 4 = some (nI j) from e, ob_some, show pL_up (y >>> (4 &&& 31)) 5 = some (nI i) from e2, ob_some]
    rw [show (16 : Int32) * nI j + nI i = nI (16 * j + i) by rw [show (16 : Int32) = nI 16 from rfl, pk_mul, nI_add]]
theorem a35 (h : Core N lat u) (x y b : Int32) (t hh : Mem) (S : Nat → Mem) : pL_acts_35 x y b t u hh S = pL_acts_55 x y b (rdy u) t u hh S := by
  unfold pL_acts_35 pL_acts_54
  rw [q_isOn h.1, ob_some, q_isIn h.1, ob_some]
  rcases h.1.2 with e | e
  · rw [e, if_pos rfl, rdy_0 (fun q => by rw [e] at q; exact absurd q.1 (by decide))]
  · rw [e, if_neg one0]
    rcases h.1.1 with e2 | e2
    · rw [e2, if_pos rfl, rdy_0 (fun q => by rw [e2] at q; exact absurd q.2 (by decide))]
    · rw [e2, if_neg one0, rdy_1 ⟨e, e2⟩]
/-- a write, or the power on -/
def P11 (t u hh : Mem) (S : Nat → Mem) (x2 x3 : Int32) : Option (Int32 × GM) :=
    (pX4_isOn t u hh S).bind fun y366 =>
    if y366 = 0 then
      bdG (pX4_power t u hh S 1) fun y368 t369 u370 h371 S372 =>
      if y368 < 0 then
        pL_acts_840 0 t369 u370 h371 S372
      else
        pL_acts_840 1 t369 u370 h371 S372
    else
      (pL_up (x2 >>> (9 &&& 31)) 1000).bind fun y374 =>
      bdG (pL_writes t u hh S x3 y374) fun y375 t376 u377 h378 S379 =>
      pL_acts_840 y375 t376 u377 h378 S379
/-- a deed done: the write of v to b, or none -/
def Ok2 (N : Nat) (lat : Nat → Int32) (b v : Nat) (u u1 : Mem) (lat1 : Nat → Int32) : Prop := Core (N + 1) lat1 u1 ∧ Cd u u1 ∧ ((lat1 = lat ∧ u1 10 2 + u1 10 3 = u 10 2 + u 10 3) ∨ (lat1 = upd lat b (nI v) ∧ u1 10 2 + u1 10 3 = (u 10 2 + u 10 3) + 1))
theorem Ok1.two {u1 : Mem} (h : Ok1 N lat u u1) (b v : Nat) : Ok2 N lat b v u u1 lat := ⟨h.1, h.2.1, Or.inl ⟨rfl, h.2.2⟩⟩
theorem a_last (h : Core N lat u) (hN : N < 2 ^ 20) {b v : Nat} (hb : b < 64) (hv : v ≤ 999) {y : Int32} (ev : pL_up (y >>> (9 &&& 31)) 1000 = some (nI v)) : ∃ (u1 : Mem) (lat1 : Nat → Int32), Dd (fun t hh S => P11 t u hh S y (nI b)) u 1 u1 ∧ Ok2 N lat b v u u1 lat1 := by
  by_cases c : u 6 1 = 0
  · obtain ⟨n, u1, d1, d2, d3⟩ := a_on h
    refine ⟨u1, lat, d1.then (fun t hh S h1 S1 e => ?_), d3.two b v⟩
    have e : pX4_power t u hh S 1 = some (nI n, (t, u1, h1, S1)) := e
    show P11 t u hh S y (nI b) = _
    unfold P11 pL_acts_840
    rw [q_isOn h.1, ob_some, if_pos c, e, bdG_some, if_neg (nn0 d2), if_pos b2_1]
  · obtain ⟨u1, d1, d2, d3, d4⟩ := a_write h hN hb hv (h.1.2.resolve_left c)
    refine ⟨u1, upd lat b (nI v), d1.then (fun t hh S h1 S1 e => ?_), d2, d3, Or.inr ⟨rfl, d4⟩⟩
    have e : pL_writes t u hh S (nI b) (nI v) = some (1, (t, u1, h1, S1)) := e
    show P11 t u hh S y (nI b) = _
    unfold P11 pL_acts_840
    rw [q_isOn h.1, ob_some, if_neg c, ev, ob_some, e, bdG_some, if_pos b2_1]
theorem acts_r (h : Core N lat u) (hN : N < 2 ^ 20) (x y : Int32) {b v : Nat} (hb : b < 64) (hv : v ≤ 999) (eb : ∀ {α : Type} (f : Int32 → Option α), (if (y &&& 3) = 0 then (pL_up (y >>> (2 &&& 31)) 64).bind f else (pL_up (y >>> (2 &&& 31)) 4).bind fun y2 => (pL_up (y >>> (4 &&& 31)) 5).bind fun y3 => f ((16 * y2) + y3)) = f (nI b)) (ev : pL_up (y >>> (9 &&& 31)) 1000 = some (nI v)) : ∃ (u1 : Mem) (lat1 : Nat → Int32), Dd (fun t hh S => pL_acts t u hh S x y) u 1 u1 ∧ Ok2 N lat b v u u1 lat1 := by
  obtain ⟨j, hj, ej⟩ := up_r x (n := 20) (by decide) (by decide)
  have ej : pL_up x 20 = some (nI j) := ej
  have e0 : ∀ t hh S, pL_acts t u hh S x y = pL_acts_55 x y (nI b) (rdy u) t u hh S := fun t hh S => by
    unfold pL_acts
    rw [← a35 h]
    exact eb (fun z => pL_acts_35 x y z t u hh S)
  have e1 : ∀ t hh S, pX4_count t u hh S 0 = some (u 10 0) ∧ pX4_count t u hh S 1 = some (u 10 1) := fun t hh S => ⟨(cnt_e t u hh S).1, (cnt_e t u hh S).2.1⟩
  have ch : ∀ t hh S, pX4_charge t u hh S = some (u 0 2) := fun _ _ _ => rfl
  by_cases j0 : j = 0
  · subst j0
    by_cases c : (y &&& 3) ≤ 0
    · obtain ⟨u1, d1, d2⟩ := a_power h (x := 0) (Or.inl rfl)
      refine ⟨u1, lat, d1.eq (fun t hh S => ?_), d2.two b v⟩
      rw [e0]; unfold pL_acts_55
      rw [(e1 t hh S).1, ob_some, (e1 t hh S).2, ob_some, ej, ob_some, if_pos (by decide), if_pos c]
    · obtain ⟨u1, d1, d2⟩ := a_power h (x := 1) (Or.inr rfl)
      refine ⟨u1, lat, d1.eq (fun t hh S => ?_), d2.two b v⟩
      rw [e0]; unfold pL_acts_55
      rw [(e1 t hh S).1, ob_some, (e1 t hh S).2, ob_some, ej, ob_some, if_pos (by decide), if_neg c]
  by_cases j12 : j = 1 ∨ j = 2
  · by_cases c : (y &&& 1) = 0
    · obtain ⟨u1, d1, d2⟩ := a_stick h (x := 1) (Or.inr rfl)
      refine ⟨u1, lat, d1.eq (fun t hh S => ?_), d2.two b v⟩
      rw [e0]; unfold pL_acts_55
      rw [(e1 t hh S).1, ob_some, (e1 t hh S).2, ob_some, ej, ob_some]
      rcases j12 with rfl | rfl
      · rw [if_neg (by decide), if_pos (by decide), if_pos c]
      · rw [if_neg (by decide), if_neg (by decide), if_pos (by decide), if_pos c]
    · obtain ⟨u1, d1, d2⟩ := a_stick h (x := 0) (Or.inl rfl)
      refine ⟨u1, lat, d1.eq (fun t hh S => ?_), d2.two b v⟩
      rw [e0]; unfold pL_acts_55
      rw [(e1 t hh S).1, ob_some, (e1 t hh S).2, ob_some, ej, ob_some]
      rcases j12 with rfl | rfl
      · rw [if_neg (by decide), if_pos (by decide), if_neg c]
      · rw [if_neg (by decide), if_neg (by decide), if_pos (by decide), if_neg c]
  by_cases j34 : j = 3 ∨ j = 4
  · by_cases c : ((y >>> (8 &&& 31)) &&& 3) = 0
    · obtain ⟨u1, d1, d2⟩ := a_pass h y (n := 99) (by decide) (by decide)
      refine ⟨u1, lat, d1.eq (fun t hh S => ?_), d2.two b v⟩
      rw [e0]; unfold pL_acts_55
      rw [(e1 t hh S).1, ob_some, (e1 t hh S).2, ob_some, ej, ob_some]
      rcases j34 with rfl | rfl
      · rw [if_neg (by decide), if_neg (by decide), if_neg (by decide), if_pos (by decide), ch, ob_some, if_pos c]; rfl
      · rw [if_neg (by decide), if_neg (by decide), if_neg (by decide), if_neg (by decide), if_pos (by decide), ch, ob_some, if_pos c]; rfl
    · obtain ⟨u1, d1, d2⟩ := a_pass h y (n := 30) (by decide) (by decide)
      refine ⟨u1, lat, d1.eq (fun t hh S => ?_), d2.two b v⟩
      rw [e0]; unfold pL_acts_55
      rw [(e1 t hh S).1, ob_some, (e1 t hh S).2, ob_some, ej, ob_some]
      rcases j34 with rfl | rfl
      · rw [if_neg (by decide), if_neg (by decide), if_neg (by decide), if_pos (by decide), ch, ob_some, if_neg c]; rfl
      · rw [if_neg (by decide), if_neg (by decide), if_neg (by decide), if_neg (by decide), if_pos (by decide), ch, ob_some, if_neg c]; rfl
  by_cases j5 : j = 5
  · subst j5
    obtain ⟨i, hi, ei⟩ := up_r y (n := 100) (by decide) (by decide)
    obtain ⟨u1, d1, d2⟩ := a_limit h hi
    refine ⟨u1, lat, d1.eq (fun t hh S => ?_), d2.two b v⟩
    rw [e0]; unfold pL_acts_55
    rw [(e1 t hh S).1, ob_some, (e1 t hh S).2, ob_some, ej, ob_some, if_neg (by decide), if_neg (by decide), if_neg (by decide), if_neg (by decide), if_neg (by decide), if_pos (by decide), show pL_up y 100 = some (nI i) from ei, ob_some, ch, ob_some]
  by_cases j6 : j = 6
  · subst j6
    obtain ⟨u1, d1, d2⟩ := a_all h
    refine ⟨u1, lat, d1.eq (fun t hh S => ?_), d2.two b v⟩
    rw [e0]; unfold pL_acts_55 P6
    rw [(e1 t hh S).1, ob_some, (e1 t hh S).2, ob_some, ej, ob_some, if_neg (by decide), if_neg (by decide), if_neg (by decide), if_neg (by decide), if_neg (by decide), if_neg (by decide), if_pos (by decide)]
  by_cases j7 : j = 7
  · subst j7
    obtain ⟨u1, d1, d2⟩ := a_one h hb
    refine ⟨u1, lat, d1.eq (fun t hh S => ?_), d2.two b v⟩
    rw [e0]; unfold pL_acts_55 P7
    rw [(e1 t hh S).1, ob_some, (e1 t hh S).2, ob_some, ej, ob_some, if_neg (by decide), if_neg (by decide), if_neg (by decide), if_neg (by decide), if_neg (by decide), if_neg (by decide), if_neg (by decide), if_pos (by decide)]
  by_cases j8 : j = 8 ∨ j = 9 ∨ j = 10
  · obtain ⟨u1, d1, d2⟩ := a_read h hN hb
    refine ⟨u1, lat, d1.eq (fun t hh S => ?_), d2.two b v⟩
    rw [e0]; unfold pL_acts_55 P8
    rw [(e1 t hh S).1, ob_some, (e1 t hh S).2, ob_some, ej, ob_some]
    rcases j8 with rfl | rfl | rfl
    · rw [if_neg (by decide), if_neg (by decide), if_neg (by decide), if_neg (by decide), if_neg (by decide), if_neg (by decide), if_neg (by decide), if_neg (by decide), if_pos (by decide)]
    · rw [if_neg (by decide), if_neg (by decide), if_neg (by decide), if_neg (by decide), if_neg (by decide), if_neg (by decide), if_neg (by decide), if_neg (by decide), if_neg (by decide), if_pos (by decide)]
    · rw [if_neg (by decide), if_neg (by decide), if_neg (by decide), if_neg (by decide), if_neg (by decide), if_neg (by decide), if_neg (by decide), if_neg (by decide), if_neg (by decide), if_neg (by decide), if_pos (by decide)]
  · obtain ⟨u1, lat1, d1, d2⟩ := a_last h hN hb hv ev
    refine ⟨u1, lat1, d1.eq (fun t hh S => ?_), d2⟩
    have ne : ∀ i, i ≤ 10 → ¬ nI j = nI i := fun i hi q => by
      have := nI_inj (by omega) (by omega) q
      omega
    rw [e0]; unfold pL_acts_55 P11
    rw [(e1 t hh S).1, ob_some, (e1 t hh S).2, ob_some, ej, ob_some, if_neg (show ¬ nI j = 0 from ne 0 (by decide)), if_neg (show ¬ nI j = 1 from ne 1 (by decide)), if_neg (show ¬ nI j = 2 from ne 2 (by decide)), if_neg (show ¬ nI j = 3 from ne 3 (by decide)), if_neg (show ¬ nI j = 4 from ne 4 (by decide)), if_neg (show ¬ nI j = 5 from ne 5 (by decide)), if_neg (show ¬ nI j = 6 from ne 6 (by decide)), if_neg (show ¬ nI j = 7 from ne 7 (by decide)), if_neg (show ¬ nI j = 8 from ne 8 (by decide)), if_neg (show ¬ nI j = 9 from ne 9 (by decide)), if_neg (show ¬ nI j = 10 from ne 10 (by decide))]
end WRS
