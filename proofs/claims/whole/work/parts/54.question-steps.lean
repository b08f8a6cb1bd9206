/-! THE CALLS THAT ASK, one by one. -/
theorem told_m {m : Mem} {s : Nat → Int32} (x : Int32) : (bd2 (pX5_told (mp m s) x) fun y2 u3 => some (y2, u3)) = some (x, mp (se m 0 0) s) := by
  unfold pX5_told
  rw [pf_e, ob_some, bd2_some, mp_mset0]
  rfl
theorem pf0_m {m : Mem} {s : Nat → Int32} {α : Type} (F : Mem → Option α) : (pf (mp m s) 0 0 0).bind F = F (mp (se m 0 0) s) := by
  rw [pf_e, ob_some, mp_mset0]
  rfl
theorem step_isOn {j : Nat} {v t u hh : Mem} {S : Nat → Mem} (hs : Sim j v t u hh S) : StepD (Sim (j + 1)) (pX4_isOn t u hh S) (pX5_isOn v) t u hh S := by
  obtain ⟨m, s, L, f, rfl, h, hI, hH, hC, hT⟩ := sim_in hs
  refine ⟨u 6 1, _, by unfold pX4_isOn; rw [if_pos (z01 hI.1.2)], ?_, sim_se 0 h hI hH hC hT⟩
  unfold pX5_isOn pX5_isOn_20
  rw [pf0_m, ldm1, ob_some, h.1.2.1]
  rcases hI.1.2 with p | p <;> rw [p] <;> rfl
theorem step_isIn {j : Nat} {v t u hh : Mem} {S : Nat → Mem} (hs : Sim j v t u hh S) : StepD (Sim (j + 1)) (pX4_isIn t u hh S) (pX5_isIn v) t u hh S := by
  obtain ⟨m, s, L, f, rfl, h, hI, hH, hC, hT⟩ := sim_in hs
  refine ⟨u 0 3, _, by unfold pX4_isIn; rw [if_pos (z01 hI.1.1)], ?_, sim_se 0 h hI hH hC hT⟩
  unfold pX5_isIn pX5_isIn_20
  rw [pf0_m, ldm0, ob_some, h.1.1]
  rcases hI.1.1 with p | p <;> rw [p] <;> rfl
theorem step_charge {j : Nat} {v t u hh : Mem} {S : Nat → Mem} (hs : Sim j v t u hh S) : StepD (Sim (j + 1)) (pX4_charge t u hh S) (pX5_charge v) t u hh S := by
  obtain ⟨m, s, L, f, rfl, h, hI, hH, hC, hT⟩ := sim_in hs
  refine ⟨u 0 2, _, rfl, ?_, sim_se 0 h hI hH hC hT⟩
  unfold pX5_charge
  rw [ldm3, ob_some, h.1.2.2.2.1, told_m]
theorem step_dirty {j : Nat} {v t u hh : Mem} {S : Nat → Mem} (hs : Sim j v t u hh S) : StepD (Sim (j + 1)) (pX4_dirty t u hh S) (pX5_dirty v) t u hh S := by
  obtain ⟨m, s, L, f, rfl, h, hI, hH, hC, hT⟩ := sim_in hs
  refine ⟨nI (Dt u), _, by unfold pX4_dirty; rw [dirtyLines_e]; rfl, ?_, sim_se 0 h hI hH hC hT⟩
  unfold pX5_dirty
  rw [dirtyLines_m h hI.2.2.2.1, ob_some, told_m]
theorem step_used {j : Nat} {v t u hh : Mem} {S : Nat → Mem} (hs : Sim j v t u hh S) : StepD (Sim (j + 1)) (pX4_used t u hh S) (pX5_used v) t u hh S := by
  obtain ⟨m, s, L, f, rfl, h, hI, hH, hC, hT⟩ := sim_in hs
  obtain ⟨r, k1, k2⟩ := us_p (m := se m 0 0) h 12 0 FU 0 rfl (by decide)
  refine ⟨r, _, by unfold pX4_used; rw [show pX2_usedLines u = some r from k1]; rfl, ?_, sim_se 0 h hI hH hC hT⟩
  unfold pX5_used
  rw [pf0_m]
  exact k2
theorem step_missing {j : Nat} {v t u hh : Mem} {S : Nat → Mem} (hs : Sim j v t u hh S) : StepD (Sim (j + 1)) (pX4_missing t u hh S) (pX5_missing v) t u hh S := by
  obtain ⟨m, s, L, f, rfl, h, hI, hH, hC, hT⟩ := sim_in hs
  obtain ⟨r, k1, k2⟩ := mi_p (m := se m 0 0) h hI t hh S 64 0 FU 0 rfl (by decide)
  refine ⟨r, _, k1, ?_, sim_se 0 h hI hH hC hT⟩
  unfold pX5_missing
  rw [pf0_m]
  exact k2
theorem step_ifDestaged {j : Nat} {v t u hh : Mem} {S : Nat → Mem} (hs : Sim j v t u hh S) : StepD (Sim (j + 1)) (pX4_ifDestaged t u hh S) (pX5_ifDestaged v) t u hh S := by
  obtain ⟨m, s, L, f, rfl, h, hI, hH, hC, hT⟩ := sim_in hs
  obtain ⟨r, k1, k2⟩ := od_p (m := se m 0 0) h hI 16 0 FU 0 rfl (by decide)
  obtain ⟨g, g1, g2⟩ := can_r (m := se m 0 0) h hI
  have e2 : pX5_ifDestaged (mp m s) = if b2 g = 0 then some (-1, mp (se m 0 0) s) else some (r, mp (se m 0 0) s) := by
    unfold pX5_ifDestaged
    rw [pf0_m]
    refine k2.trans ?_
    rw [g2, ob_some]
  refine ⟨if b2 g = 0 then -1 else r, _, ?_, by rw [e2]; split <;> rfl, sim_se 0 h hI hH hC hT⟩
  unfold pX4_ifDestaged pX4_ifDestaged_21
  rw [g1, ob_some, show pX1_operationsIfDestaged u = some r from k1]
  cases g <;> rfl
theorem step_ticksToLoss {j : Nat} {v t u hh : Mem} {S : Nat → Mem} (hs : Sim j v t u hh S) : StepD (Sim (j + 1)) (pX4_ticksToLoss t u hh S) (pX5_ticksToLoss v) t u hh S := by
  obtain ⟨m, s, L, f, rfl, h, hI, hH, hC, hT⟩ := sim_in hs
  obtain ⟨g, g1, g2⟩ := can_r (m := m) h hI
  have hsim : Sim (j + 1) (mp (se m 0 0) s) t u hh S := sim_se 0 h hI hH hC hT
  unfold StepD pX4_ticksToLoss pX4_ticksToLoss_23 pX5_ticksToLoss pX5_ticksToLoss_15 pX5_ticksToLoss_25
  rw [g1, g2, dirtyLines_e, dirtyLines_m h hI.2.2.2.1, ob_some, ob_some, ob_some, ob_some, ldm3, ob_some, h.1.2.2.2.1, told_m, told_m]
  cases g
  · rw [if_pos (show b2 false = 0 from rfl), if_pos (show b2 false = 0 from rfl)]
    by_cases c : nI (Dt u) = 0
    · rw [if_pos c, if_pos c]; exact ⟨_, _, rfl, rfl, hsim⟩
    · rw [if_neg c, if_neg c]; exact ⟨_, _, rfl, rfl, hsim⟩
  · rw [if_neg (show ¬ b2 true = 0 by decide), if_neg (show ¬ b2 true = 0 by decide)]
    exact ⟨_, _, rfl, by split <;> rfl, hsim⟩
theorem step_savedStates {j : Nat} {v t u hh : Mem} {S : Nat → Mem} (hs : Sim j v t u hh S) : StepD (Sim (j + 1)) (pX4_savedStates t u hh S) (pX5_savedStates v) t u hh S := by
  obtain ⟨m, s, L, f, rfl, h, hI, hH, hC, hT⟩ := sim_in hs
  obtain ⟨x, z, q1, q2, q3, q4, q5, q6, q7⟩ := id hH
  refine ⟨nI z, _, by unfold pX4_savedStates; rw [q4], ?_, sim_se 0 h hI hH hC hT⟩
  unfold pX5_savedStates
  rw [told_m, mp_0, q6]
theorem step_textLength {j : Nat} {v t u hh : Mem} {S : Nat → Mem} (hs : Sim j v t u hh S) : StepD (Sim (j + 1)) (pX4_textLength t u hh S) (pX5_textLength v) t u hh S := by
  obtain ⟨m, s, L, f, rfl, h, hI, hH, hC, hT⟩ := sim_in hs
  refine ⟨nI L, _, by unfold pX4_textLength; rw [hT.2.1], ?_, sim_se 0 h hI hH hC hT⟩
  unfold pX5_textLength
  rw [told_m, mp_0, hT.2.2.1]
theorem step_F {j : Nat} {v t u hh : Mem} {S : Nat → Mem} (hs : Sim j v t u hh S) : StepF (Sim (j + 1)) v t u hh S := by
  obtain ⟨m, s, L, f, rfl, h, hI, hH, hC, hT⟩ := sim_in hs
  refine ⟨?_, ?_⟩
  · rw [mp_1, show s 14 = u 10 8 from h.2.1 8 (by decide), show s 13 = u 10 7 from h.2.1 7 (by decide)]
  · rw [mp_mset0]
    exact sim_se 0 h hI hH hC hT
theorem step_idle {j : Nat} {v t u hh : Mem} {S : Nat → Mem} (hs : Sim j v t u hh S) : Sim (j + 1) v t u hh S := by
  obtain ⟨m, s, L, f, rfl, h, hI, hH, hC, hT⟩ := sim_in hs
  exact sim_mk h (hI.mono (by omega)) (hH.mono (by omega) (by omega)) hC hT
/-- a question of a block -/
theorem askB {j : Nat} {m t u hh : Mem} {S : Nat → Mem} {s : Nat → Int32} {L : Nat} {f : Nat → Nat} (h : Rel s u) (hI : Inv (100 * j) u) (hH : Hist (100 * j) (100 * j) s (m 0 1) hh S) (hC : TxC L f) (hT : Tx L f m t) {x : Int32} {P : Option Int32} {T : Option (String × Mem)} {G : Option (Int32 × Mem)} {E : Int32 → Option (Int32 × Mem)} {F : Int32 → Option Int32} {exs : List String}
    (hex : exs = ["java/lang/IndexOutOfBoundsException"]) (hP : P = (pX4_requireBlock x).bind fun _ => F x) (hTt : T = orS (tX4_requireBlock x) t ((pX4_requireBlock x).bind fun _ => none)) (hG : G = (pX5_isBlock x).bind fun y1 => if y1 = 0 then E 1 else E 0)
    (hE1 : E 1 = some (0, mp (se m 0 1) s)) (hE0 : ∀ b, b < 64 → x = nI b → ∃ r, F (nI b) = some r ∧ E 0 = some (r, mp (se m 0 0) s)) : StepB (Sim (j + 1)) P T G exs t u hh S := by
  subst hex
  unfold StepB
  rw [hP, hTt, hG]
  rcases isB_c x with ⟨b, hb, rfl, e⟩ | ⟨e1, e2⟩
  · left
    obtain ⟨r, k1, k2⟩ := hE0 b hb rfl
    exact ⟨r, _, by rw [(rqB1 hb).1, ob_some]; exact k1, by rw [e, ob_some, if_neg one0]; exact k2, seM, sim_se 0 h hI hH hC hT⟩
  · right
    exact ⟨0, _, t, 0, _, rfl, by rw [(rqB e1).2]; rfl, by rw [e2, ob_some, if_pos rfl]; exact hE1, seM, sim_se 1 h hI hH hC hT⟩
theorem step_onDisk {j : Nat} {v t u hh : Mem} {S : Nat → Mem} (hs : Sim j v t u hh S) (x : Int32) : StepB (Sim (j + 1)) (pX4_onDisk t u hh S x) (tX4_onDisk t u hh S x) (pX5_onDisk v x) ["java/lang/IndexOutOfBoundsException"] t u hh S := by
  obtain ⟨m, s, L, f, rfl, h, hI, hH, hC, hT⟩ := sim_in hs
  refine askB h hI hH hC hT (E := fun c => pX5_onDisk_13 x c (mp m s)) (F := fun x => (pX1_diskValueOf u x).bind fun y2 => some y2) rfl rfl rfl rfl ?_ (fun b hb e => ?_)
  · show pX5_onDisk_13 x 1 (mp m s) = _
    unfold pX5_onDisk_13 pX5_onDisk_34
    rw [holds_m, bd2_some, if_neg one0, if_pos rfl]
  · subst e
    refine ⟨u 7 b, ?_, ?_⟩
    · show (pX1_diskValueOf u (nI b)).bind _ = _
      unfold pX1_diskValueOf pX1_diskValueOf_17
      rw [isB_n hb, ob_some, if_neg one0, ld_n hb (by decide)]
      rfl
    · show pX5_onDisk_13 (nI b) 0 (mp m s) = _
      unfold pX5_onDisk_13 pX5_onDisk_34
      rw [holds_m, bd2_some, if_pos rfl, if_neg one0, ldm_dv hb, ob_some, (h.2.2.1 b hb).1]
theorem step_isFound {j : Nat} {v t u hh : Mem} {S : Nat → Mem} (hs : Sim j v t u hh S) (x : Int32) : StepB (Sim (j + 1)) (pX4_isFound t u hh S x) (tX4_isFound t u hh S x) (pX5_isFound v x) ["java/lang/IndexOutOfBoundsException"] t u hh S := by
  obtain ⟨m, s, L, f, rfl, h, hI, hH, hC, hT⟩ := sim_in hs
  refine askB h hI hH hC hT (E := fun c => pX5_isFound_13 x c (mp m s)) (F := fun x => (pX1_finds u x).bind fun y2 => if isz y2 = true then some y2 else none) rfl rfl rfl rfl ?_ (fun b hb e => ?_)
  · show pX5_isFound_13 x 1 (mp m s) = _
    unfold pX5_isFound_13 pX5_isFound_31 pX5_isFound_32
    rw [holds_m, bd2_some, if_neg one0, if_pos rfl]
    rfl
  · subst e
    obtain ⟨g, g1, g2⟩ := fd_r (m := se m 0 0) h hI hb
    refine ⟨b2 g, ?_, ?_⟩
    · show (pX1_finds u (nI b)).bind _ = _
      rw [g1, ob_some, if_pos (b2_z g)]
    · show pX5_isFound_13 (nI b) 0 (mp m s) = _
      unfold pX5_isFound_13 pX5_isFound_31 pX5_isFound_32
      rw [holds_m, bd2_some, if_pos rfl, if_neg one0, g2, ob_some]
      cases g <;> rfl
theorem step_ifWritten {j : Nat} {v t u hh : Mem} {S : Nat → Mem} (hs : Sim j v t u hh S) (x : Int32) : StepB (Sim (j + 1)) (pX4_ifWritten t u hh S x) (tX4_ifWritten t u hh S x) (pX5_ifWritten v x) ["java/lang/IndexOutOfBoundsException"] t u hh S := by
  obtain ⟨m, s, L, f, rfl, h, hI, hH, hC, hT⟩ := sim_in hs
  refine askB h hI hH hC hT (E := fun c => pX5_ifWritten_13 x c (mp m s)) (F := fun x => if (u 6 1) = 0 then pX4_ifWritten_26 t u hh S (-1) else (pX1_operationsIfWritten u x).bind fun y3 => pX4_ifWritten_26 t u hh S y3) rfl rfl rfl rfl ?_ (fun b hb e => ?_)
  · show pX5_ifWritten_13 x 1 (mp m s) = _
    unfold pX5_ifWritten_13
    rw [holds_m, bd2_some, if_neg one0, if_pos rfl]
  · subst e
    obtain ⟨r, k1, k2⟩ := ow_r (m := se m 0 0) h hI hb
    have e2 : pX5_ifWritten_13 (nI b) 0 (mp m s) = if u 6 1 = 0 then some (-1, mp (se m 0 0) s) else some (r, mp (se m 0 0) s) := by
      unfold pX5_ifWritten_13
      rw [holds_m, bd2_some, if_pos rfl, if_neg one0, ldm1, ob_some, h.1.2.1]
      by_cases p : u 6 1 = 0
      · rw [if_pos p, if_pos p]
      · rw [if_neg p, if_neg p]; exact k2
    refine ⟨if u 6 1 = 0 then -1 else r, ?_, ?_⟩
    · show (if (u 6 1) = 0 then pX4_ifWritten_26 t u hh S (-1) else (pX1_operationsIfWritten u (nI b)).bind fun y3 => pX4_ifWritten_26 t u hh S y3) = _
      unfold pX4_ifWritten_26
      rw [k1, ob_some]
      split <;> rfl
    · show pX5_ifWritten_13 (nI b) 0 (mp m s) = _
      rw [e2]
      split <;> rfl
theorem step_dirtyOf {j : Nat} {v t u hh : Mem} {S : Nat → Mem} (hs : Sim j v t u hh S) (x : Int32) : StepB (Sim (j + 1)) (pX4_dirtyOf t u hh S x) (tX4_dirtyOf t u hh S x) (pX5_dirtyOf v x) ["java/lang/IndexOutOfBoundsException"] t u hh S := by
  obtain ⟨m, s, L, f, rfl, h, hI, hH, hC, hT⟩ := sim_in hs
  unfold StepB pX4_dirtyOf tX4_dirtyOf pX5_dirtyOf pX5_dirtyOf_13 pX5_dirtyOf_28
  rcases isS_c x with ⟨q, hq, rfl, e1, e2, e3⟩ | ⟨e1, e2⟩
  · left
    refine ⟨nI (Dn u (nI q)), _, by rw [e2, ob_some, dirtyLinesOf_e, ob_some], ?_, seM, sim_se 0 h hI hH hC hT⟩
    rw [e1, ob_some, if_neg one0, holds_m, bd2_some, if_pos rfl, if_neg one0, dirtyIn_e h hI.2.2.2.1, ob_some]
  · right
    refine ⟨0, _, t, 0, _, rfl, by rw [e2]; rfl, ?_, seM, sim_se 1 h hI hH hC hT⟩
    rw [e1, ob_some, if_pos rfl, holds_m, bd2_some, if_neg one0, if_pos rfl]
    rfl
theorem step_line {j : Nat} {v t u hh : Mem} {S : Nat → Mem} (hs : Sim j v t u hh S) (x y z : Int32) : StepB (Sim (j + 1)) (pX4_line t u hh S x y z) (tX4_line t u hh S x y z) (pX5_line v x y z) ["java/lang/IndexOutOfBoundsException", "java/lang/IllegalArgumentException"] t u hh S := by
  obtain ⟨m, s, L, f, rfl, h, hI, hH, hC, hT⟩ := sim_in hs
  have bad : ∀ c : Int32, ¬ c = 0 → pX5_line_37 x y z c (mp m s) = some (0, mp (se m 0 c) s) := fun c hc => by
    unfold pX5_line_37
    rw [holds_m, bd2_some, if_neg hc, if_pos rfl]
  have sm' : ∀ c, Sim (j + 1) (mp (se m 0 c) s) t u hh S := fun c => sim_se c h hI hH hC hT
  have io : tX4_line t u hh S x y z = some ("java/lang/IndexOutOfBoundsException", t) → pX5_line (mp m s) x y z = some (0, mp (se m 0 1) s) → StepB (Sim (j + 1)) (pX4_line t u hh S x y z) (tX4_line t u hh S x y z) (pX5_line (mp m s) x y z) ["java/lang/IndexOutOfBoundsException", "java/lang/IllegalArgumentException"] t u hh S := fun a b => Or.inr ⟨0, _, t, 0, _, rfl, a, b, seM, sm' 1⟩
  have ia : tX4_line t u hh S x y z = some ("java/lang/IllegalArgumentException", t) → pX5_line (mp m s) x y z = some (0, mp (se m 0 2) s) → StepB (Sim (j + 1)) (pX4_line t u hh S x y z) (tX4_line t u hh S x y z) (pX5_line (mp m s) x y z) ["java/lang/IndexOutOfBoundsException", "java/lang/IllegalArgumentException"] t u hh S := fun a b => Or.inr ⟨1, _, t, 0, _, rfl, a, b, seM, sm' 2⟩
  have em : pX5_line (mp m s) x y z = if x < 0 then pX5_line_37 x y z 1 (mp m s) else if 3 < x then pX5_line_37 x y z 1 (mp m s) else if y < 0 then pX5_line_37 x y z 1 (mp m s) else if 2 < y then pX5_line_37 x y z 1 (mp m s) else if z < 0 then pX5_line_37 x y z 2 (mp m s) else if 4 < z then pX5_line_37 x y z 2 (mp m s) else pX5_line_37 x y z 0 (mp m s) := by
    unfold pX5_line pX5_line_19
    rw [in_le, in_le, in_le, ob_some, ob_some, ob_some]
    by_cases a1 : x < 0
    · rw [if_pos a1, if_pos a1, if_pos rfl]
    · rw [if_neg a1, if_neg a1]
      by_cases a2 : 3 < x
      · rw [if_pos a2, if_pos a2, if_pos rfl]
      · rw [if_neg a2, if_neg a2, if_neg one0]
        by_cases a3 : y < 0
        · rw [if_pos a3, if_pos a3, if_pos rfl]
        · rw [if_neg a3, if_neg a3]
          by_cases a4 : 2 < y
          · rw [if_pos a4, if_pos a4, if_pos rfl]
          · rw [if_neg a4, if_neg a4, if_neg one0]
            by_cases a5 : z < 0
            · rw [if_pos a5, if_pos a5, if_pos rfl]
            · rw [if_neg a5, if_neg a5]
              by_cases a6 : 4 < z
              · rw [if_pos a6, if_pos a6, if_pos rfl]
              · rw [if_neg a6, if_neg a6, if_neg one0]
  rcases pk_ix x (n := 4) (by decide) with a | a | ⟨k1, hk1, rfl⟩
  · exact io (by unfold tX4_line; rw [if_pos a]) (by rw [em, if_pos a]; exact bad 1 (by decide))
  · have a0 : ¬ x < 0 := fun e => absurd (Int32.lt_of_lt_of_le e (by decide : (0 : Int32) ≤ nI 4)) (Int32.not_lt.mpr a)
    have a3 : (3 : Int32) < x := Int32.lt_of_lt_of_le (by decide : (3 : Int32) < nI 4) a
    exact io (by unfold tX4_line; rw [if_neg a0, if_pos (show (4 : Int32) ≤ x from a)]) (by rw [em, if_neg a0, if_pos a3]; exact bad 1 (by decide))
  · have a0 : ¬ nI k1 < 0 := nI_pos (by omega)
    have a1 : ¬ (4 : Int32) ≤ nI k1 := nI_ge (a := k1) (b := 4) hk1 (by decide)
    have a2 : ¬ (3 : Int32) < nI k1 := nI_nlt (a := 3) (b := k1) (by omega) (by decide)
    rcases pk_ix y (n := 3) (by decide) with b | b | ⟨k2, hk2, rfl⟩
    · exact io (by unfold tX4_line; rw [if_neg a0, if_neg a1, if_pos b]) (by rw [em, if_neg a0, if_neg a2, if_pos b]; exact bad 1 (by decide))
    · have b0 : ¬ y < 0 := fun e => absurd (Int32.lt_of_lt_of_le e (by decide : (0 : Int32) ≤ nI 3)) (Int32.not_lt.mpr b)
      have b3 : (2 : Int32) < y := Int32.lt_of_lt_of_le (by decide : (2 : Int32) < nI 3) b
      exact io (by unfold tX4_line; rw [if_neg a0, if_neg a1, if_neg b0, if_neg (show ¬ y < (3 : Int32) from Int32.not_lt.mpr b)]) (by rw [em, if_neg a0, if_neg a2, if_neg b0, if_pos b3]; exact bad 1 (by decide))
    · have b0 : ¬ nI k2 < 0 := nI_pos (by omega)
      have b1 : nI k2 < 3 := nI_lt (b := 3) hk2 (by decide)
      have b2' : ¬ (2 : Int32) < nI k2 := nI_nlt (a := 2) (b := k2) (by omega) (by decide)
      rcases pk_ix z (n := 5) (by decide) with c | c | ⟨k3, hk3, rfl⟩
      · exact ia (by unfold tX4_line; rw [if_neg a0, if_neg a1, if_neg b0, if_pos b1, if_pos c]) (by rw [em, if_neg a0, if_neg a2, if_neg b0, if_neg b2', if_pos c]; exact bad 2 (by decide))
      · have c0 : ¬ z < 0 := fun e => absurd (Int32.lt_of_lt_of_le e (by decide : (0 : Int32) ≤ nI 5)) (Int32.not_lt.mpr c)
        have c3 : (4 : Int32) < z := Int32.lt_of_lt_of_le (by decide : (4 : Int32) < nI 5) c
        exact ia (by unfold tX4_line; rw [if_neg a0, if_neg a1, if_neg b0, if_pos b1, if_neg c0, if_neg (Int32.not_le.mpr c3)]) (by rw [em, if_neg a0, if_neg a2, if_neg b0, if_neg b2', if_neg c0, if_pos c3]; exact bad 2 (by decide))
      · have c0 : ¬ nI k3 < 0 := nI_pos (by omega)
        have c1 : nI k3 ≤ 4 := nI_le (b := 4) (by omega) (by decide)
        have c2 : ¬ (4 : Int32) < nI k3 := nI_nlt (a := 4) (b := k3) (by omega) (by decide)
        obtain ⟨r, w1, w2⟩ := pt_r (m := se m 0 0) h hI (k := 3 * k1 + k2) (j := k3) (by omega) hk3
        have ix1 : nI k1 * 3 + nI k2 = nI (3 * k1 + k2) := by rw [show (3 : Int32) = nI 3 from rfl, pk_mul, nI_add, Nat.mul_comm]
        have ix2 : 3 * nI k1 + nI k2 = nI (3 * k1 + k2) := by rw [show (3 : Int32) = nI 3 from rfl, pk_mul, nI_add]
        refine Or.inl ⟨r, _, ?_, ?_, seM, sm' 0⟩
        · unfold pX4_line
          rw [if_neg a0, if_neg a1, if_neg b0, if_pos b1, if_neg c0, if_pos c1, ix1, w1, ob_some]
        · rw [em, if_neg a0, if_neg a2, if_neg b0, if_neg b2', if_neg c0, if_neg c2]
          unfold pX5_line_37
          rw [holds_m, bd2_some, if_pos rfl, if_neg one0, ix2]
          exact w2
theorem step_count {j : Nat} {v t u hh : Mem} {S : Nat → Mem} (hs : Sim j v t u hh S) (x : Int32) : StepB (Sim (j + 1)) (pX4_count t u hh S x) (tX4_count t u hh S x) (pX5_count v x) ["java/lang/IllegalArgumentException"] t u hh S := by
  obtain ⟨m, s, L, f, rfl, h, hI, hH, hC, hT⟩ := sim_in hs
  unfold StepB pX4_count tX4_count pX5_count pX5_count_16 pX5_count_35
  rw [in_le, ob_some]
  rcases pk_ix x (n := 8) (by decide) with a | a | ⟨k, hk, rfl⟩
  · right
    refine ⟨0, _, t, 0, mp (se m 0 1) s, rfl, by rw [if_pos a], ?_, seM, sim_se 1 h hI hH hC hT⟩
    rw [if_pos a, if_pos rfl, holds_m, bd2_some, if_neg one0, if_pos rfl]
  · right
    have a0 : ¬ x < 0 := fun e => absurd (Int32.lt_of_lt_of_le e (by decide : (0 : Int32) ≤ nI 8)) (Int32.not_lt.mpr a)
    have a3 : (7 : Int32) < x := Int32.lt_of_lt_of_le (by decide : (7 : Int32) < nI 8) a
    refine ⟨0, _, t, 0, mp (se m 0 1) s, rfl, by rw [if_neg a0, if_neg (Int32.not_le.mpr a3)], ?_, seM, sim_se 1 h hI hH hC hT⟩
    rw [if_neg a0, if_pos a3, if_pos rfl, holds_m, bd2_some, if_neg one0, if_pos rfl]
  · left
    have a0 : ¬ nI k < 0 := nI_pos (by omega)
    have a1 : nI k ≤ 7 := nI_le (b := 7) (by omega) (by decide)
    have a2 : ¬ (7 : Int32) < nI k := nI_nlt (a := 7) (b := k) (by omega) (by decide)
    refine ⟨u 10 k, mp (se m 0 0) s, ?_, ?_, seM, sim_se 0 h hI hH hC hT⟩
    · rw [if_neg a0, if_pos a1, ld_n (by omega) (by decide), ob_some]
    · rw [if_neg a0, if_neg a2, if_neg one0, holds_m, bd2_some, if_pos rfl, if_neg one0, show (6 : Int32) + nI k = nI (6 + k) from nI_add 6 k, ld_m (by omega), ob_some, h.2.1 k (by omega)]
