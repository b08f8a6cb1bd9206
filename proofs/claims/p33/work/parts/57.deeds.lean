/-! THE DEEDS OF THE OBJECT: each saves the state before it, and does what its part above does. -/
theorem bdG_some {α : Type} (x : Int32) (t u hh : Mem) (S : Nat → Mem) (f : Int32 → Mem → Mem → Mem → (Nat → Mem) → Option α) : bdG (some (x, (t, u, hh, S))) f = f x t u hh S := rfl
/-- a deed: from u to u1, with the answer r, whatever is saved -/
def Dd (P : Mem → Mem → (Nat → Mem) → Option (Int32 × GM)) (u : Mem) (r : Int32) (u1 : Mem) : Prop := ∀ (t hh : Mem) (S : Nat → Mem) (z x : Nat), Hs hh z x → x < 2 ^ 30 → ∃ (h1 : Mem) (S1 : Nat → Mem), P t hh S = some (r, (t, u1, h1, S1)) ∧ Hs h1 (min 6 (z + 1)) (x + 1) ∧ Ag (S1 (x % 6)) u
/-- what is done behind a deed and asks only -/
theorem Dd.then {P P' : Mem → Mem → (Nat → Mem) → Option (Int32 × GM)} {u u1 : Mem} {r r' : Int32} (h : Dd P u r u1) (e : ∀ (t hh : Mem) (S : Nat → Mem) (h1 : Mem) (S1 : Nat → Mem), P t hh S = some (r, (t, u1, h1, S1)) → P' t hh S = some (r', (t, u1, h1, S1))) : Dd P' u r' u1 := by
  intro t hh S z x h1 h2
  obtain ⟨h', S', g1, g2, g3⟩ := h t hh S z x h1 h2
  exact ⟨h', S', e t hh S h' S' g1, g2, g3⟩
theorem dd_of {N : Nat} {lat : Nat → Int32} {P : Mem → Mem → (Nat → Mem) → Option (Int32 × GM)} {u u1 : Mem} {r : Int32} (h : Core N lat u) (e : ∀ (t hh : Mem) (S : Nat → Mem) (h1 : Mem) (S1 : Nat → Mem), pX0_save u hh S = some (h1, S1) → P t hh S = some (r, (t, u1, h1, S1))) : Dd P u r u1 := by
  intro t hh S z x h1 h2
  obtain ⟨h', S', g1, g2, g3⟩ := save_u (S := S) h h1 h2
  exact ⟨h', S', e t hh S h' S' g1, g2, g3⟩
theorem d_power {N : Nat} {lat : Nat → Int32} {u : Mem} (h : Core N lat u) {x : Int32} (hx : x = 0 ∨ x = 1) : ∃ (r : Nat) (u1 : Mem), Dd (fun t hh S => pX4_power t u hh S x) u (nI r) u1 ∧ (r = if x = 1 ∧ u 6 1 = 0 ∧ u 0 3 = 1 ∧ u 0 2 < 20 then Dt u else 0) ∧ r ≤ 12 ∧ Core N lat u1 ∧ u1 6 1 = x ∧ Cd u u1 ∧ u1 10 2 = u 10 2 ∧ u1 10 3 = u 10 3 := by
  obtain ⟨r, u1, g1, g2, g3, g4, g5, g6, g7, g8⟩ := power_r h hx
  refine ⟨r, u1, dd_of h (fun t hh S h1 S1 e => ?_), g2, g3, g4, g5, g6, g7, g8⟩
  show pX4_power t u hh S x = _
  unfold pX4_power
  rw [e, bdH_some, g1, bd2_some]
theorem d_stick {N : Nat} {lat : Nat → Int32} {u : Mem} (h : Core N lat u) (hoff : u 6 1 = 0) {x : Int32} (hx : x = 0 ∨ x = 1) : ∃ (r : Nat) (u1 : Mem), Dd (fun t hh S => pX4_moveStick t u hh S x) u (nI r) u1 ∧ Core N lat u1 ∧ u1 0 3 = x ∧ r + Us u1 = Us u ∧ (x = 0 → r = 0) ∧ Cd u u1 ∧ u1 10 2 = u 10 2 ∧ u1 10 3 = u 10 3 := by
  obtain ⟨r, u1, g1, g2, g3, g4, g5, g6, g7, g8⟩ := stick_r h hx
  refine ⟨r, u1, dd_of h (fun t hh S h1 S1 e => ?_), g2, g3, g4, g5, g6, g7, g8⟩
  show pX4_moveStick t u hh S x = _
  unfold pX4_moveStick
  rw [if_pos hoff, e, bdH_some, g1, bd2_some]
theorem d_pass {N x : Nat} {lat : Nat → Int32} {u : Mem} (h1 : 1 ≤ x) (hx : x ≤ 99) (h : Core N lat u) : ∃ (c c' : Nat) (u1 : Mem), Dd (fun t hh S => pX4_pass t u hh S (nI x)) u (nI c') u1 ∧ u 0 2 = nI c ∧ c ≤ 100 ∧ u1 0 2 = nI c' ∧ c' ≤ 100 ∧ Core N lat u1 ∧ ((u 6 1 = 1 ∧ u 0 3 = 1 → c ≤ c' ∧ c' ≤ c + 2 * x) ∧ (¬ (u 6 1 = 1 ∧ u 0 3 = 1) → c' = c - x)) ∧ Cd u u1 ∧ ∀ j, u1 10 j = u 10 j + nI (if j = 6 then (if u 6 1 = 1 ∧ u 0 3 = 1 then 0 else los u c x) else 0) := by
  obtain ⟨c, c', u1, g1, g2, g3, g4, g5, g6, g7, g8, g9, g10, g11⟩ := pass_r (x := x) (by omega) h
  refine ⟨c, c', u1, dd_of h (fun t hh S h1 S1 e => ?_), g2, g3, g4, g5, g6, g9, lost_cd ?_ g10 g11, g11⟩
  · show pX4_pass t u hh S (nI x) = _
    unfold pX4_pass
    rw [if_neg (show ¬ nI x < 1 from nI_nlt (b := 1) (by omega) (by omega)), if_pos (show nI x ≤ 99 from nI_le (b := 99) hx (by decide)), e, bdH_some, g1, ob_some, g4]
  · have := los_12 u c x
    split <;> omega
theorem d_limit {N x : Nat} {lat : Nat → Int32} {u : Mem} (h1 : 1 ≤ x) (hx : x ≤ 100) (h : Core N lat u) : ∃ (c : Nat) (u1 : Mem), Dd (fun t hh S => pX4_setLimit t u hh S (nI x)) u (nI (min c x)) u1 ∧ u 0 2 = nI c ∧ c ≤ 100 ∧ Core N lat u1 ∧ Cd u u1 ∧ u1 10 2 = u 10 2 ∧ u1 10 3 = u 10 3 := by
  obtain ⟨c, u1, g1, g2, g3, g4, g5, g6, g7⟩ := limit_r h1 hx h
  refine ⟨c, u1, dd_of h (fun t hh S h1 S1 e => ?_), g2, g3, g5, g6, congrFun g7 2, congrFun g7 3⟩
  show pX4_setLimit t u hh S (nI x) = _
  unfold pX4_setLimit
  rw [if_neg (show ¬ nI x < 1 from nI_nlt (b := 1) (by omega) (by omega)), if_pos (show nI x ≤ 100 from nI_le (b := 100) hx (by decide)), e, bdH_some, g1, ob_some, g4]
theorem req_d {u : Mem} (h : Bits u) (hr : u 6 1 = 1 ∧ u 0 3 = 1) (t hh : Mem) (S : Nat → Mem) : pX4_requireDestaging t u hh S = some () := by
  unfold pX4_requireDestaging
  rw [can_e h, ob_some, decide_eq_true hr, if_neg (show ¬ b2 true = 0 by decide)]
theorem d_destageAll {N : Nat} {lat : Nat → Int32} {u : Mem} (h : Core N lat u) (hr : u 6 1 = 1 ∧ u 0 3 = 1) : ∃ u1 : Mem, Dd (fun t hh S => pX4_destageAll t u hh S) u (nI (Dt u)) u1 ∧ Core N lat u1 ∧ Dt u1 = 0 ∧ Cd u u1 ∧ ∀ j, u1 10 j = u 10 j + nI (sm (fun q => dcs (Dn u (nI q)) j) 0 16) := by
  obtain ⟨u1, g1, g2, g3, g4, g5, g6⟩ := da_r h hr.2
  refine ⟨u1, dd_of h (fun t hh S h1 S1 e => ?_), g2, g5, da_cd h.2.2.2.2.1 g3 g6, g6⟩
  show pX4_destageAll t u hh S = _
  unfold pX4_destageAll
  rw [req_d h.1 hr, ob_some, e, bdH_some, g1, bd2_some]
theorem d_destage {N q : Nat} {lat : Nat → Int32} {u : Mem} (hq : q < 16) (h : Core N lat u) (hr : u 6 1 = 1 ∧ u 0 3 = 1) : ∃ u1 : Mem, Dd (fun t hh S => pX4_destage t u hh S (nI q)) u (nI (Dn u (nI q))) u1 ∧ Core N lat u1 ∧ Dn u1 (nI q) = 0 ∧ Cd u u1 ∧ u1 10 2 = u 10 2 ∧ u1 10 3 = u 10 3 := by
  obtain ⟨u1, g1, g2, g3, g4, g5, g6⟩ := ds_r hq h hr.2
  have hD := Dn_3 hq h.2.2.2.2.1
  refine ⟨u1, dd_of h (fun t hh S h1 S1 e => ?_), g2, by rw [Dn_after g4.2.1 g5, if_pos rfl], ⟨dcs (Dn u (nI q)), fun i _ => ⟨g6 i, by have := dcs_4 (i := i) hD; omega⟩, by rw [dcs_5]; exact Nat.zero_le _, dcs_8.resolve_right (by omega), by rw [Mi_c g3]; exact Nat.le_add_right _ _⟩, ?_, ?_⟩
  · show pX4_destage t u hh S (nI q) = _
    unfold pX4_destage
    rw [req_s hq, ob_some, req_d h.1 hr, ob_some, e, bdH_some, g1, bd2_some]
  · rw [g6, dcs_2]; exact Int32.add_zero _
  · rw [g6, dcs_3]; exact Int32.add_zero _
theorem req_p {u : Mem} (hon : u 6 1 = 1) (t hh : Mem) (S : Nat → Mem) : pX4_requirePower t u hh S = some () := by
  unfold pX4_requirePower
  rw [hon, if_neg one0]
theorem rcs_b (f : Bool) (i : Nat) : rcs f i ≤ 1 := by
  unfold rcs
  repeat' split
  all_goals omega
theorem d_read {N b : Nat} {lat : Nat → Int32} {u : Mem} (hb : b < 64) (hN : N < 2 ^ 20) (h : Core N lat u) (hon : u 6 1 = 1) : ∃ (f : Bool) (y : Int32) (u1 : Mem), Dd (fun t hh S => pX4_read t u hh S (nI b)) u y u1 ∧ (f = true → u 0 3 = 1 ∧ ∃ k, k < 12 ∧ u 1 k = nI b ∧ y = u 2 k) ∧ (f = false → (u 0 3 = 0 ∨ ∀ k, k < 12 → ¬ u 1 k = nI b) ∧ y = u 7 b) ∧ Core (N + 1) lat u1 ∧ Cd u u1 ∧ ∀ i, u1 10 i = u 10 i + nI (rcs f i) := by
  obtain ⟨f, y, u1, g1, g2, g3, g4, g5, g6⟩ := rb_r h hN hb
  refine ⟨f, y, u1, dd_of h (fun t hh S h1 S1 e => ?_), g2, g3, g4, ⟨rcs f, fun i _ => ⟨g6 i, by have := rcs_b f i; omega⟩, ?_, ?_, ?_⟩, g6⟩
  · show pX4_read t u hh S (nI b) = _
    unfold pX4_read
    rw [req_b hb, ob_some, req_p hon, ob_some, e, bdH_some, g1, bd2_some]
  · cases f <;> decide
  · cases f <;> decide
  · rw [Mi_c (fun b _ => g5 b)]; exact Nat.le_add_right _ _
theorem wcs_b {g : Bool} {z i : Nat} (hz : z ≤ 3) : wcs g z i ≤ 4 := by
  unfold wcs
  have := dcs_4 (i := i) hz
  repeat' split
  all_goals omega
theorem d_write {N b : Nat} {lat : Nat → Int32} {u : Mem} (hb : b < 64) {v : Nat} (hv : v ≤ 999) (hN : N < 2 ^ 20) (h : Core N lat u) (hon : u 6 1 = 1) :
    ∃ (g : Bool) (z : Nat) (u1 : Mem), (g = true ↔ u 0 3 = 1 ∧ ¬ u 0 2 < 20) ∧ Dd (fun t hh S => pX4_write t u hh S (nI b) (nI v)) u (nI (wcs g z 0 + wcs g z 1)) u1 ∧ (∀ t hh S, pX4_ifWritten t u hh S (nI b) = some (nI (wcs g z 0 + wcs g z 1))) ∧ z ≤ 3 ∧
      (g = true → ∃ k, k < 12 ∧ u1 1 k = nI b ∧ u1 2 k = nI v ∧ u1 5 k = 1) ∧ (g = true → (z = 0 ↔ ((∃ k, k < 12 ∧ u 1 k = nI b) ∨ ∃ k, 3 * (b / 4 % 4) ≤ k ∧ k < 3 * (b / 4 % 4) + 3 ∧ u 5 k = 0))) ∧
      (g = false → u1 7 b = nI v ∧ u1 8 b = u1 9 b ∧ ∀ k, k < 12 → u 0 3 = 1 → u1 1 k = nI b → u1 2 k = nI v ∧ u1 5 k = 0) ∧
      Core (N + 1) (upd lat b (nI v)) u1 ∧ u1 0 3 = u 0 3 ∧ Cd u u1 ∧ (∀ i, u1 10 i = u 10 i + nI (wcs g z i)) := by
  obtain ⟨g, z, u1, g1, g2, g3, g4, g5, g6, g7, g8, g9, g10, g11, g12, g13⟩ := wb_r (nI v) h hN hb
  refine ⟨g, z, u1, g1, dd_of h (fun t hh S h1 S1 e => ?_), fun t hh S => by rw [q_ifWritten t hh S hb hon]; exact g3, g4, g5, g6, g7, g8, g10, ⟨wcs g z, fun i _ => ⟨g13 i, by have := wcs_b (g := g) (i := i) g4; omega⟩, ?_, ?_, ?_⟩, g13⟩
  · show pX4_write t u hh S (nI b) (nI v) = _
    unfold pX4_write
    rw [req_b hb, ob_some, if_neg (nI_pos (by omega)), if_pos (show nI v ≤ 999 from nI_le (b := 999) hv (by decide)), req_p hon, ob_some, e, bdH_some, g2, bd2_some]
  · unfold wcs
    cases g
    · exact Nat.zero_le _
    · rw [if_pos rfl, if_neg (by decide), dcs_5]; exact Nat.zero_le _
  · unfold wcs
    cases g
    · exact Nat.zero_le _
    · rw [if_pos rfl, if_pos rfl, if_neg (by decide), if_neg (by decide)]
      exact dcs_8.resolve_right (by omega)
  · rw [Mi_e, Mi_e]
    refine Nat.le_trans (rc_mono 64 0 (fun y _ hy q => ?_)) (Nat.le_add_right _ _)
    rw [g9 y (by omega)] at q
    by_cases e : y = b
    · rw [if_pos e] at q; cases q
    · rw [if_neg e] at q; exact q
