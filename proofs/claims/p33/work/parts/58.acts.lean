/-! EACH DEED OF THE LAW HOLDS. -/
theorem add4 (a b : Int32) (x y : Nat) : (a + nI x) + (b + nI y) = (a + b) + nI (x + y) := by
  rw [← nI_add]
  grind
theorem b2_1 : isz 1 = true := rfl
theorem nn0 {r : Nat} (h : r < 2 ^ 31) : ¬ nI r < 0 := nI_pos h
theorem nI0 {r : Nat} (h : r < 2 ^ 31) : nI r = 0 ↔ r = 0 := ⟨fun e => nI_inj h (by decide) (e.trans nI_0.symm), fun e => by rw [e]; exact nI_0⟩
/-- what a deed of the law leaves -/
def Ok1 (N : Nat) (lat : Nat → Int32) (u u1 : Mem) : Prop := Core (N + 1) lat u1 ∧ Cd u u1 ∧ u1 10 2 + u1 10 3 = u 10 2 + u 10 3
theorem ok1 {N : Nat} {lat : Nat → Int32} {u u1 : Mem} (h : Core N lat u1) (g : Cd u u1) (h2 : u1 10 2 = u 10 2) (h3 : u1 10 3 = u 10 3) : Ok1 N lat u u1 := ⟨h.mono (Nat.le_succ N), g, by rw [h2, h3]⟩
section ACTS
variable {N : Nat} {lat : Nat → Int32} {u : Mem}
theorem a_power (h : Core N lat u) {x : Int32} (hx : x = 0 ∨ x = 1) : ∃ u1 : Mem, Dd (fun t hh S => pL_acts_147 x t u hh S) u 1 u1 ∧ Ok1 N lat u u1 := by
  obtain ⟨r, u1, d1, d2, d3, d4, d5, d6, d7, d8⟩ := d_power h hx
  refine ⟨u1, d1.then (fun t hh S h1 S1 e => ?_), ok1 d4 d6 d7 d8⟩
  have e : pX4_power t u hh S x = some (nI r, (t, u1, h1, S1)) := e
  have f207 : ∀ a : Int32, nI r = a → pL_acts_207 x (nI r) a t u1 h1 S1 = some (1, (t, u1, h1, S1)) := fun a ha => by
    unfold pL_acts_207 pL_acts_224
    rw [if_pos ha, q_isOn d4.1, ob_some, d5, if_pos rfl, if_pos b2_1]
  have f187 : r = 0 → ∀ y, pL_acts_187 x y t u hh S = some (1, (t, u1, h1, S1)) := fun hr y => by
    unfold pL_acts_187 pL_acts_188
    rw [e, bdG_some, if_pos rfl]
    exact f207 0 ((nI0 (by omega)).mpr hr)
  show pL_acts_147 x t u hh S = _
  unfold pL_acts_147
  rw [q_dirty, ob_some, q_isOn h.1, ob_some, q_isIn h.1, ob_some]
  unfold pX4_charge
  rw [ob_some]
  by_cases c : x = 1 ∧ u 6 1 = 0 ∧ u 0 3 = 1 ∧ u 0 2 < 20
  · obtain ⟨k1, k2, k3, k4⟩ := id c
    rw [if_pos c] at d2
    subst k1
    rw [if_neg one0, if_pos k2, k3, if_neg one0, if_neg (Int32.not_le.mpr k4)]
    unfold pL_acts_188
    rw [e, bdG_some, if_neg one0]
    exact f207 _ (by rw [d2])
  · rw [if_neg c] at d2
    rcases hx with rfl | rfl
    · rw [if_pos rfl]; exact f187 d2 _
    · rw [if_neg one0]
      by_cases q1 : u 6 1 = 0
      · rw [if_pos q1]
        rcases h.1.1 with q2 | q2
        · rw [q2, if_pos rfl]; exact f187 d2 _
        · rw [q2, if_neg one0, if_pos (Int32.not_lt.mp fun q => c ⟨rfl, q1, q2, q⟩)]
          exact f187 d2 _
      · rw [if_neg q1]; exact f187 d2 _
theorem a_stick (h : Core N lat u) {x : Int32} (hx : x = 0 ∨ x = 1) : ∃ u1 : Mem, Dd (fun t hh S => pL_acts_236 x t u hh S) u 1 u1 ∧ Ok1 N lat u u1 := by
  by_cases c : u 6 1 = 0
  · obtain ⟨r, u1, d1, d2, d3, d4, d5, d6, d7, d8⟩ := d_stick h c hx
    refine ⟨u1, d1.then (fun t hh S h1 S1 e => ?_), ok1 d2 d6 d7 d8⟩
    have e : pX4_moveStick t u hh S x = some (nI r, (t, u1, h1, S1)) := e
    have hU := Us_12 u
    show pL_acts_236 x t u hh S = _
    unfold pL_acts_236 pL_acts_309 pL_acts_313 pL_acts_314
    rw [q_used, ob_some, q_isOn h.1, ob_some, if_pos c, e, bdG_some, if_neg (nn0 (by omega)), q_isIn d2.1, ob_some, if_pos d3, q_used, ob_some]
    rw [if_pos (show nI (Us u1) = nI (Us u) - nI r by rw [pk_sub (by omega)]; congr 1; omega)]
    rcases hx with rfl | rfl
    · rw [if_pos rfl, if_pos ((nI0 (by omega)).mpr (d5 rfl)), if_pos b2_1]
    · rw [if_neg one0, if_pos b2_1]
  · obtain ⟨r, u1, d1, d2, d3, d4, d5, d6, d7, d8⟩ := d_power h (x := 0) (Or.inl rfl)
    refine ⟨u1, d1.then (fun t hh S h1 S1 e => ?_), ok1 d4 d6 d7 d8⟩
    have e : pX4_power t u hh S 0 = some (nI r, (t, u1, h1, S1)) := e
    rw [if_neg (fun q => absurd q.1 (by decide))] at d2
    show pL_acts_236 x t u hh S = _
    unfold pL_acts_236 pL_acts_264
    rw [q_used, ob_some, q_isOn h.1, ob_some, if_neg c, e, bdG_some, if_pos ((nI0 (by omega)).mpr d2), if_pos b2_1]
theorem up_r (v : Int32) {n : Nat} (h0 : 0 < n) (hn : n < 2 ^ 31) : ∃ j : Nat, j < n ∧ pL_up v (nI n) = some (nI j) := by
  obtain ⟨q, hq, e⟩ := pk_andE v 31 (m := 2147483647) (by decide)
  refine ⟨q % n, Nat.mod_lt _ h0, ?_⟩
  unfold pL_up nzr
  rw [if_neg (nI_ne0 h0 hn), ob_some, e, pk_rem (d := n) (by omega) h0 hn]
def rdy (u : Mem) : Int32 := if u 6 1 = 1 ∧ u 0 3 = 1 then 1 else 0
theorem a_pass (h : Core N lat u) (y : Int32) {n : Nat} (h0 : 0 < n) (hn : n ≤ 99) : ∃ u1 : Mem, Dd (fun t hh S => pL_acts_339 (rdy u) (u 10 0 + u 10 1) (u 0 2) 1 y (nI n) t u hh S) u 1 u1 ∧ Ok1 N lat u u1 := by
  obtain ⟨j, hj, ej⟩ := up_r y h0 (by omega)
  have hx : (1 : Int32) + nI j = nI (1 + j) := nI_add 1 j
  obtain ⟨c, c', u1, d1, d2, d3, d4, d5, d6, d7, d8, d9⟩ := d_pass (x := 1 + j) (by omega) (by omega) h
  have hk : ∀ i, i < 9 → ¬ i = 6 → u1 10 i = u 10 i := fun i _ hi => by rw [d9 i, if_neg hi]; exact Int32.add_zero _
  refine ⟨u1, d1.then (fun t hh S h1 S1 e => ?_), ok1 d6 d8 (hk 2 (by decide) (by decide)) (hk 3 (by decide) (by decide))⟩
  have e : pX4_pass t u hh S (nI (1 + j)) = some (nI c', (t, u1, h1, S1)) := e
  have hD := Dt_12 u
  have q6 : ∀ (u : Mem) (hh : Mem) (S : Nat → Mem), pX4_count t u hh S 6 = some (u 10 6) := fun u hh S => q_count t hh S (i := 6) (by decide)
  have q0 : ∀ (u : Mem) (hh : Mem) (S : Nat → Mem), pX4_count t u hh S 0 = some (u 10 0) := fun u hh S => q_count t hh S (i := 0) (by decide)
  have q1 : ∀ (u : Mem) (hh : Mem) (S : Nat → Mem), pX4_count t u hh S 1 = some (u 10 1) := fun u hh S => q_count t hh S (i := 1) (by decide)
  -- is it lost
  obtain ⟨L, hL⟩ : ∃ L : Nat, L = if u 6 1 = 1 ∧ u 0 3 = 1 then 0 else los u c (1 + j) := ⟨_, rfl⟩
  have f464 : ∀ s0 : Int32, (s0 = 0 ∧ L = 0 ∨ s0 = 1 ∧ L = Dt u ∧ c' = 0) → pL_acts_464 (u 10 6) (nI (Dt u)) s0 t u1 h1 S1 = some (1, (t, u1, h1, S1)) := by
    intro s0 hs
    unfold pL_acts_464 pL_acts_483 pL_acts_499 pL_acts_504
    rw [q6, ob_some, d9 6, if_pos rfl, ← hL]
    rcases hs with ⟨rfl, hs⟩ | ⟨rfl, hs, hc'⟩
    · rw [if_pos rfl, hs, if_pos (by rw [nI_0]), if_pos rfl, if_pos b2_1]
    · rw [if_neg one0, hs, if_pos rfl, if_neg one0, q_used, ob_some]
      have : Us u1 = 0 := by
        obtain ⟨L', c0, l1, l2, l3, l4, l5, l6⟩ := d6.2.1
        have := nI_inj (by omega) (by omega) (l5.symm.trans d4)
        exact rc_0 12 0 (fun k _ hk => decide_eq_false (not_not_intro (l6 (by omega) k (by omega))))
      rw [this, if_pos nI_0, if_pos b2_1]
  have f381 : ∀ s0 : Int32, (s0 = 0 ∧ L = 0 ∨ s0 = 1 ∧ L = Dt u ∧ c' = 0) → pL_acts_381 (rdy u) (u 10 0 + u 10 1) (u 0 2) (nI (1 + j)) (u 10 6) (nI (Dt u)) s0 t u hh S = some (1, (t, u1, h1, S1)) := by
    intro s0 hs
    unfold pL_acts_381 pL_acts_461
    rw [e, bdG_some, q0, ob_some, q1, ob_some, hk 0 (by decide) (by decide), hk 1 (by decide) (by decide), if_pos rfl]
    unfold pX4_charge
    rw [ob_some, d4, if_pos rfl, d2]
    unfold rdy
    by_cases r : u 6 1 = 1 ∧ u 0 3 = 1
    · rw [if_pos r, if_neg one0]
      obtain ⟨w1, w2⟩ := d7.1 r
      rw [if_neg (nI_nlt w1 (by omega)), show (2 : Int32) * nI (1 + j) = nI (2 * (1 + j)) by rw [show (2 : Int32) = nI 2 from rfl, pk_mul], nI_add, if_neg (nI_nlt w2 (by omega))]
      exact f464 s0 hs
    · rw [if_neg r, if_pos rfl]
      have w := d7.2 r
      by_cases q : c ≤ 1 + j
      · rw [if_pos (nI_le q (by omega)), if_pos (by rw [w, show c - (1 + j) = 0 by omega]; exact nI_0)]
        exact f464 s0 hs
      · rw [if_neg (nI_ge (by omega) (by omega)), if_pos (by rw [w]; exact (pk_sub (by omega)).symm)]
        exact f464 s0 hs
  show pL_acts_339 (rdy u) (u 10 0 + u 10 1) (u 0 2) 1 y (nI n) t u hh S = _
  unfold pL_acts_339 pL_acts_380
  rw [ej, ob_some, q6, ob_some, q_dirty, ob_some, hx]
  by_cases r : u 6 1 = 1 ∧ u 0 3 = 1
  · rw [if_pos r] at hL
    rw [if_neg (show ¬ rdy u = 0 by unfold rdy; rw [if_pos r]; exact one0)]
    exact f381 0 (Or.inl ⟨rfl, hL⟩)
  · rw [if_neg r] at hL
    rw [if_pos (show rdy u = 0 by unfold rdy; rw [if_neg r])]
    unfold los at hL
    by_cases z : c = 0
    · rw [if_neg (by omega)] at hL
      rw [if_pos (show u 0 2 ≤ 0 by rw [d2, z]; decide)]
      exact f381 0 (Or.inl ⟨rfl, hL⟩)
    · rw [if_neg (show ¬ u 0 2 ≤ 0 by rw [d2]; exact nI_nle (by omega) (by omega))]
      by_cases q : 1 + j < c
      · rw [if_neg (by omega)] at hL
        rw [if_pos (show nI (1 + j) < u 0 2 by rw [d2]; exact nI_lt q (by omega))]
        exact f381 0 (Or.inl ⟨rfl, hL⟩)
      · rw [if_pos ⟨by omega, by omega⟩] at hL
        rw [if_neg (show ¬ nI (1 + j) < u 0 2 by rw [d2]; exact nI_nlt (by omega) (by omega))]
        exact f381 1 (Or.inr ⟨rfl, hL, by have := d7.2 r; omega⟩)
theorem a_limit (h : Core N lat u) {j : Nat} (hj : j < 100) : ∃ u1 : Mem, Dd (fun t hh S => bdG (pX4_setLimit t u hh S (1 + nI j)) fun y313 t314 u315 h316 S317 => if (1 + nI j) ≤ u 0 2 then pL_acts_541 y313 (1 + nI j) t314 u315 h316 S317 else pL_acts_541 y313 (u 0 2) t314 u315 h316 S317) u 1 u1 ∧ Ok1 N lat u u1 := by
  have hx : (1 : Int32) + nI j = nI (1 + j) := nI_add 1 j
  obtain ⟨c, u1, d1, d2, d3, d4, d5, d6, d7⟩ := d_limit (x := 1 + j) (by omega) (by omega) h
  refine ⟨u1, d1.then (fun t hh S h1 S1 e => ?_), ok1 d4 d5 d6 d7⟩
  have e : pX4_setLimit t u hh S (nI (1 + j)) = some (nI (min c (1 + j)), (t, u1, h1, S1)) := e
  show (bdG (pX4_setLimit t u hh S (1 + nI j)) _) = _
  rw [hx, e, bdG_some, d2]
  unfold pL_acts_541 pL_acts_549
  by_cases q : 1 + j ≤ c
  · rw [if_pos (nI_le q (by omega)), if_pos (by congr 1; omega), if_pos b2_1]
  · rw [if_neg (nI_ge (by omega) (by omega)), if_pos (by congr 1; omega), if_pos b2_1]
/-- a deed that switches the power on -/
theorem a_on (h : Core N lat u) : ∃ (r : Nat) (u1 : Mem), Dd (fun t hh S => pX4_power t u hh S 1) u (nI r) u1 ∧ r < 2 ^ 31 ∧ Ok1 N lat u u1 := by
  obtain ⟨r, u1, d1, d2, d3, d4, d5, d6, d7, d8⟩ := d_power h (x := 1) (Or.inr rfl)
  exact ⟨r, u1, d1, by omega, ok1 d4 d6 d7 d8⟩
theorem rdy_0 (h : ¬ (u 6 1 = 1 ∧ u 0 3 = 1)) : rdy u = 0 := by unfold rdy; rw [if_neg h]
theorem rdy_1 (h : u 6 1 = 1 ∧ u 0 3 = 1) : rdy u = 1 := by unfold rdy; rw [if_pos h]
/-- destaging all, or a tick -/
def P6 (t u hh : Mem) (S : Nat → Mem) : Option (Int32 × GM) :=
    if rdy u = 0 then
      (pX4_ifDestaged t u hh S).bind fun y333 =>
      if y333 = (-1) then
        bdG (pX4_pass t u hh S 1) fun y335 t336 u337 h338 S339 =>
        if y335 < 0 then
          pL_acts_575 t336 u337 h338 S339
        else
          pL_acts_576 1 t336 u337 h338 S339
      else
        pL_acts_575 t u hh S
    else
      (pX4_ifDestaged t u hh S).bind fun y320 =>
      (pX4_dirty t u hh S).bind fun y321 =>
      bdG (pX4_destageAll t u hh S) fun y322 t323 u324 h325 S326 =>
      if y322 = y321 then
        (pX4_dirty t323 u324 h325 S326).bind fun y328 =>
        if y328 = 0 then
          (pX4_count t323 u324 h325 S326 0).bind fun y330 =>
          (pX4_count t323 u324 h325 S326 1).bind fun y331 =>
          if (y330 + y331) = ((u 10 0 + u 10 1) + y320) then
            pL_acts_629 1 t323 u324 h325 S326
          else
            pL_acts_628 t323 u324 h325 S326
        else
          pL_acts_628 t323 u324 h325 S326
      else
        pL_acts_628 t323 u324 h325 S326
theorem a_all (h : Core N lat u) : ∃ u1 : Mem, Dd (fun t hh S => P6 t u hh S) u 1 u1 ∧ Ok1 N lat u u1 := by
  by_cases r : u 6 1 = 1 ∧ u 0 3 = 1
  · obtain ⟨u1, d1, d2, d3, d4, d5⟩ := d_destageAll h r
    have z : ∀ j, (∀ x, dcs x j = 0) → u1 10 j = u 10 j := fun j hj => by
      rw [d5 j, show (fun q => dcs (Dn u (nI q)) j) = fun _ => 0 from funext fun q => hj _, sm_zero]; exact Int32.add_zero _
    refine ⟨u1, d1.then (fun t hh S h1 S1 e => ?_), ok1 d2 d4 (z 2 dcs_2) (z 3 dcs_3)⟩
    have e : pX4_destageAll t u hh S = some (nI (Dt u), (t, u1, h1, S1)) := e
    show P6 t u hh S = _
    unfold P6 pL_acts_629
    have c0 : pX4_count t u1 h1 S1 0 = some (u1 10 0) := q_count t h1 S1 (i := 0) (by decide)
    have c1 : pX4_count t u1 h1 S1 1 = some (u1 10 1) := q_count t h1 S1 (i := 1) (by decide)
    rw [rdy_1 r, if_neg one0, q_ifDestaged h, ob_some, q_dirty, ob_some, e, bdG_some, if_pos rfl, q_dirty, ob_some, d3, if_pos nI_0, c0, ob_some, c1, ob_some, d5 0, d5 1, if_pos r, add4, if_pos rfl, if_pos b2_1]
  · obtain ⟨c, c', u1, d1, d2, d3, d4, d5, d6, d7, d8, d9⟩ := d_pass (x := 1) (by decide) (by decide) h
    refine ⟨u1, d1.then (fun t hh S h1 S1 e => ?_), ok1 d6 d8 (by rw [d9 2, if_neg (by decide)]; exact Int32.add_zero _) (by rw [d9 3, if_neg (by decide)]; exact Int32.add_zero _)⟩
    have e : pX4_pass t u hh S 1 = some (nI c', (t, u1, h1, S1)) := e
    show P6 t u hh S = _
    unfold P6 pL_acts_576
    rw [rdy_0 r, if_pos rfl, q_ifDestaged h, ob_some, if_neg r, if_pos rfl, e, bdG_some, if_neg (nn0 (by omega)), if_pos b2_1]
/-- destaging a stripe, or the power on -/
def P7 (t u hh : Mem) (S : Nat → Mem) (x3 : Int32) : Option (Int32 × GM) :=
    (pX4_dirtyOf t u hh S (x3 / 4)).bind fun y341 =>
    if rdy u = 0 then
      bdG (pX4_power t u hh S 1) fun y343 t344 u345 h346 S347 =>
      if y343 < 0 then
        pL_acts_689 0 t344 u345 h346 S347
      else
        pL_acts_689 1 t344 u345 h346 S347
    else
      bdG (pX4_destage t u hh S (x3 / 4)) fun y349 t350 u351 h352 S353 =>
      if y349 = y341 then
        (pX4_dirtyOf t350 u351 h352 S353 (x3 / 4)).bind fun y355 =>
        if y355 = 0 then
          pL_acts_689 1 t350 u351 h352 S353
        else
          pL_acts_672 t350 u351 h352 S353
      else
        pL_acts_672 t350 u351 h352 S353
theorem a_one (h : Core N lat u) {b : Nat} (hb : b < 64) : ∃ u1 : Mem, Dd (fun t hh S => P7 t u hh S (nI b)) u 1 u1 ∧ Ok1 N lat u u1 := by
  have hq : b / 4 < 16 := by omega
  have e4 : nI b / 4 = nI (b / 4) := div4 (by omega)
  by_cases r : u 6 1 = 1 ∧ u 0 3 = 1
  · obtain ⟨u1, d1, d2, d3, d4, d5, d6⟩ := d_destage hq h r
    refine ⟨u1, d1.then (fun t hh S h1 S1 e => ?_), ok1 d2 d4 d5 d6⟩
    have e : pX4_destage t u hh S (nI (b / 4)) = some (nI (Dn u (nI (b / 4))), (t, u1, h1, S1)) := e
    show P7 t u hh S (nI b) = _
    unfold P7 pL_acts_689
    rw [e4, q_dirtyOf t hh S hq, ob_some, rdy_1 r, if_neg one0, e, bdG_some, if_pos rfl, q_dirtyOf t h1 S1 hq, ob_some, d3, if_pos nI_0, if_pos b2_1]
  · obtain ⟨n, u1, d1, d2, d3⟩ := a_on h
    refine ⟨u1, d1.then (fun t hh S h1 S1 e => ?_), d3⟩
    have e : pX4_power t u hh S 1 = some (nI n, (t, u1, h1, S1)) := e
    show P7 t u hh S (nI b) = _
    unfold P7 pL_acts_689
    rw [e4, q_dirtyOf t hh S hq, ob_some, rdy_0 r, if_pos rfl, e, bdG_some, if_neg (nn0 d2), if_pos b2_1]
/-- a read, or the power on -/
def P8 (t u hh : Mem) (S : Nat → Mem) (x3 : Int32) : Option (Int32 × GM) :=
    (pX4_isIn t u hh S).bind fun y357 =>
    if y357 = 0 then
      pL_acts_706 x3 (u 10 0 + u 10 1) (-1) t u hh S
    else
      (pL_lineOf t u hh S x3).bind fun y359 =>
      pL_acts_706 x3 (u 10 0 + u 10 1) y359 t u hh S
theorem a_read (h : Core N lat u) (hN : N < 2 ^ 20) {b : Nat} (hb : b < 64) : ∃ u1 : Mem, Dd (fun t hh S => P8 t u hh S (nI b)) u 1 u1 ∧ Ok1 N lat u u1 := by
  -- the line and the value that the law looks at
  have look : ∀ (t hh : Mem) (S : Nat → Mem), ∃ (k : Int32) (y : Int32), P8 t u hh S (nI b) = pL_acts_734 (nI b) (u 10 0 + u 10 1) k y t u hh S ∧ ((k = -1 ∧ y = u 7 b ∧ (u 0 3 = 0 ∨ ∀ k, k < 12 → ¬ u 1 k = nI b)) ∨ (u 0 3 = 1 ∧ ∃ i, i < 12 ∧ k = nI i ∧ u 1 i = nI b ∧ y = u 2 i)) := by
    intro t hh S
    unfold P8 pL_acts_706
    rw [q_isIn h.1, ob_some]
    rcases h.1.1 with e | e
    · rw [e, if_pos rfl, if_pos (show (-1 : Int32) < 0 by decide), q_onDisk t hh S hb, ob_some]
      exact ⟨-1, u 7 b, rfl, Or.inl ⟨rfl, rfl, Or.inl rfl⟩⟩
    · rw [if_neg (by rw [e]; exact one0)]
      obtain ⟨r, r1, r2⟩ := lo_r (u := u) t hh S (nI b)
      rw [r1, ob_some]
      rcases r2 with ⟨rfl, r2⟩ | ⟨i, hi, rfl, r3⟩
      · rw [if_pos (show (-1 : Int32) < 0 by decide), q_onDisk t hh S hb, ob_some]
        exact ⟨-1, u 7 b, rfl, Or.inl ⟨rfl, rfl, Or.inr r2⟩⟩
      · have := q_ln (u := u) t hh S hi (p := 1) (by decide)
        rw [if_neg (nn0 (by omega)), show pX4_line t u hh S (nI i / 3) (nI i - nI i / 3 * 3) 1 = some (LN u i 1) from this, ob_some, LN_at (ne_m1 hb r3), if_neg (by decide), if_pos rfl]
        exact ⟨nI i, u 2 i, rfl, Or.inr ⟨e, i, hi, rfl, r3, rfl⟩⟩
  by_cases c : u 6 1 = 0
  · obtain ⟨n, u1, d1, d2, d3⟩ := a_on h
    refine ⟨u1, d1.then (fun t hh S h1 S1 e => ?_), d3⟩
    have e : pX4_power t u hh S 1 = some (nI n, (t, u1, h1, S1)) := e
    obtain ⟨k, y, g1, -⟩ := look t hh S
    show P8 t u hh S (nI b) = _
    rw [g1]
    unfold pL_acts_734 pL_acts_801
    rw [q_isOn h.1, ob_some, if_pos c, e, bdG_some, if_neg (nn0 d2), if_pos b2_1]
  · have hon : u 6 1 = 1 := h.1.2.resolve_left c
    obtain ⟨f, v, u1, d1, d2, d3, d4, d5, d6⟩ := d_read hb hN h hon
    refine ⟨u1, d1.then (fun t hh S h1 S1 e => ?_), d4, d5, ?_⟩
    · have e : pX4_read t u hh S (nI b) = some (v, (t, u1, h1, S1)) := e
      obtain ⟨k, y, g1, g2⟩ := look t hh S
      show P8 t u hh S (nI b) = _
      rw [g1]
      unfold pL_acts_734 pL_acts_776 pL_acts_801
      have c0 : pX4_count t u1 h1 S1 0 = some (u1 10 0) := q_count t h1 S1 (i := 0) (by decide)
      have c1 : pX4_count t u1 h1 S1 1 = some (u1 10 1) := q_count t h1 S1 (i := 1) (by decide)
      rw [q_isOn h.1, ob_some, if_neg c, e, bdG_some, c0, ob_some, c1, ob_some, d6 0, d6 1, add4]
      cases f with
      | true =>
        obtain ⟨w1, i, w2, w3, w4⟩ := d2 rfl
        rcases g2 with ⟨-, -, g2⟩ | ⟨-, i', v1, v2, v3, v4⟩
        · rcases g2 with g2 | g2
          · rw [g2] at w1; exact absurd w1 (by decide)
          · exact absurd w3 (g2 i w2)
        · have := h.2.2.2.2.2 i i' w2 v1 (ne_m1 hb w3) (w3.trans v3.symm)
          subst this
          rw [if_pos (w4.trans v4.symm), v2, if_neg (nn0 (by omega)), if_pos (by rfl), if_pos b2_1]
      | false =>
        obtain ⟨w1, w2⟩ := d3 rfl
        rcases g2 with ⟨v1, v2, -⟩ | ⟨v0, i', v1, -, v3, -⟩
        · rw [if_pos (w2.trans v2.symm), v1, if_pos (show (-1 : Int32) < 0 by decide), if_pos (by rfl), if_pos b2_1]
        · rcases w1 with w1 | w1
          · rw [w1] at v0; exact absurd v0 (by decide)
          · exact absurd v3 (w1 i' v1)
    · rw [d6 2, d6 3, add4]
      cases f <;> exact Int32.add_zero _
end ACTS
