/-! THE CALLS THAT CHANGE A STATE, one by one. -/
def Sim (j : Nat) (v t u hh : Mem) (S : Nat → Mem) : Prop := Rel (v 1) u ∧ Inv (100 * j) u ∧ Hist (100 * j) (100 * j) (v 1) (v 0 1) hh S ∧ ∃ (L : Nat) (f : Nat → Nat), TxC L f ∧ Tx L f v t
theorem sim_mk {j : Nat} {m t u hh : Mem} {S : Nat → Mem} {s : Nat → Int32} {L : Nat} {f : Nat → Nat} (h : Rel s u) (hI : Inv (100 * j) u) (hH : Hist (100 * j) (100 * j) s (m 0 1) hh S) (hC : TxC L f) (hT : Tx L f m t) : Sim j (mp m s) t u hh S := ⟨h, hI, hH, L, f, hC, hT⟩
theorem sim_in {j : Nat} {v t u hh : Mem} {S : Nat → Mem} (h : Sim j v t u hh S) : ∃ (m : Mem) (s : Nat → Int32) (L : Nat) (f : Nat → Nat), v = mp m s ∧ Rel s u ∧ Inv (100 * j) u ∧ Hist (100 * j) (100 * j) s (m 0 1) hh S ∧ TxC L f ∧ Tx L f m t := by
  obtain ⟨h1, h2, h3, L, f, h4, h5⟩ := h
  exact ⟨v, v 1, L, f, (mp_self v).symm, h1, h2, h3, h4, h5⟩
theorem se0 {m : Mem} {c : Int32} : se m 0 c 0 0 = c := by rw [se_at, if_pos rfl]
theorem seM {m : Mem} {s : Nat → Int32} {c : Int32} : mp (se m 0 c) s 0 0 = c := se0 (m := m) (c := c)
theorem bdH_some {α : Type} (h : Mem) (S : Nat → Mem) (f : Mem → (Nat → Mem) → Option α) : bdH (some (h, S)) f = f h S := rfl
theorem se01 {m : Mem} {c : Int32} : se m 0 c 0 1 = m 0 1 := by rw [se_at, if_neg (by decide)]
/-- nothing but the model's own word of what was thrown -/
theorem sim_se {j : Nat} {m t u hh : Mem} {S : Nat → Mem} {s : Nat → Int32} {L : Nat} {f : Nat → Nat} (c : Int32) (h : Rel s u) (hI : Inv (100 * j) u) (hH : Hist (100 * j) (100 * j) s (m 0 1) hh S) (hC : TxC L f) (hT : Tx L f m t) : Sim (j + 1) (mp (se m 0 c) s) t u hh S :=
  sim_mk h (hI.mono (by omega)) (by rw [se01]; exact hH.mono (by omega) (by omega)) hC (Tx_m hT (by decide))
theorem holds_m {m : Mem} {s : Nat → Int32} (c : Int32) : pX5_holds (mp m s) c = some (if c = 0 then 1 else 0, mp (se m 0 c) s) := by
  unfold pX5_holds pX5_holds_14
  rw [pf_e, ob_some, mp_mset0]
  by_cases e : c = 0
  · rw [if_pos e, if_pos e]; rfl
  · rw [if_neg e, if_neg e]; rfl
theorem isB_c (x : Int32) : (∃ b, b < 64 ∧ x = nI b ∧ pX5_isBlock x = some 1) ∨ (pX4_isBlock x = some 0 ∧ pX5_isBlock x = some 0) := by
  unfold pX5_isBlock pX5_in pX5_in_14 pX5_in_15 pX4_isBlock pX4_isBlock_14 pX4_isBlock_15
  rcases pk_ix x (n := 64) (by decide) with h | h | ⟨b, hb, rfl⟩
  · right
    rw [if_pos h, if_pos h]
    exact ⟨rfl, rfl⟩
  · right
    by_cases h0 : x < 0
    · rw [if_pos h0, if_pos h0]; exact ⟨rfl, rfl⟩
    · have h63 : (63 : Int32) < x := Int32.lt_of_lt_of_le (by decide : (63 : Int32) < nI 64) h
      rw [if_neg h0, if_neg h0, if_pos (show (64 : Int32) ≤ x from h), if_pos h63]
      exact ⟨rfl, rfl⟩
  · left
    refine ⟨b, hb, rfl, ?_⟩
    rw [if_neg (nI_pos (by omega)), if_neg (show ¬ (63 : Int32) < nI b from nI_nlt (a := 63) (b := b) (by omega) (by decide))]
    rfl
theorem isS_c (x : Int32) : (∃ q, q < 16 ∧ x = nI q ∧ pX5_isStripe x = some 1 ∧ pX4_requireStripe x = some () ∧ tX4_requireStripe x = none) ∨ (pX5_isStripe x = some 0 ∧ tX4_requireStripe x = some "java/lang/IndexOutOfBoundsException") := by
  unfold pX5_isStripe pX5_in pX5_in_14 pX5_in_15 pX4_requireStripe tX4_requireStripe
  rcases pk_ix x (n := 16) (by decide) with h | h | ⟨b, hb, rfl⟩
  · right
    rw [if_pos h, if_pos h]
    exact ⟨rfl, rfl⟩
  · right
    by_cases h0 : x < 0
    · rw [if_pos h0, if_pos h0]; exact ⟨rfl, rfl⟩
    · have h15 : (15 : Int32) < x := Int32.lt_of_lt_of_le (by decide : (15 : Int32) < nI 16) h
      rw [if_neg h0, if_neg h0, if_pos h15, if_neg (show ¬ x < (16 : Int32) from Int32.not_lt.mpr h)]
      exact ⟨rfl, rfl⟩
  · left
    refine ⟨b, hb, rfl, ?_, ?_, ?_⟩
    · rw [if_neg (nI_pos (by omega)), if_neg (show ¬ (15 : Int32) < nI b from nI_nlt (a := 15) (b := b) (by omega) (by decide))]
      rfl
    · rw [if_neg (nI_pos (by omega)), if_pos (show nI b < 16 from nI_lt (b := 16) hb (by decide))]
    · rw [if_neg (nI_pos (by omega)), if_pos (show nI b < 16 from nI_lt (b := 16) hb (by decide))]
/-- a change of the state, the old one kept first -/
theorem do_r {j : Nat} {m t u hh : Mem} {S : Nat → Mem} {s : Nat → Int32} {L : Nat} {f : Nat → Nat} (hj : j < 512) (h : Rel s u) (hI : Inv (100 * j) u) (hH : Hist (100 * j) (100 * j) s (m 0 1) hh S) (hC : TxC L f) (hT : Tx L f m t) {P : Option (Int32 × Mem)} {G : Mem → Option (Int32 × Mem)}
    (hop : ∀ (m' : Mem) (s' : Nat → Int32), Rel s' u → ∃ (r : Int32) (u' : Mem) (s'' : Nat → Int32), P = some (r, u') ∧ G (mp m' s') = some (r, mp m' s'') ∧ Rel s'' u' ∧ Inv (100 * j + 1) u' ∧ Same s' s'') :
    ∃ (h' : Mem) (S' : Nat → Mem) (r : Int32) (u' v9 : Mem), pX0_save u hh S = some (h', S') ∧ P = some (r, u') ∧ ((pX5_keeps (mp (se m 0 0) s)).bind G) = some (r, v9) ∧ v9 0 0 = 0 ∧ Sim (j + 1) v9 t u' h' S' := by
  obtain ⟨h', S', z', s', k1, k2, k3, k4⟩ := keep_r (m := se m 0 0) (J := 100 * j) h hI (by omega) (by rw [se01]; exact hH)
  obtain ⟨r, u', s'', p1, p2, p3, p4, p5⟩ := hop (mset (se m 0 0) 0 1 z') s' k3
  refine ⟨h', S', r, u', mp (mset (se m 0 0) 0 1 z') s'', k1, p1, by rw [k2, ob_some]; exact p2, ?_, ?_⟩
  · show mset (se m 0 0) 0 1 z' 0 0 = 0
    rw [mset_at, if_pos rfl, if_neg (by decide)]
    exact se0
  · refine sim_mk p3 (p4.mono (by omega)) ?_ hC (Tx_m (Tx_m hT (by decide)) (by decide))
    rw [show mset (se m 0 0) 0 1 z' 0 1 = z' by rw [mset_at, if_pos rfl, if_pos rfl]]
    exact (k4.same p5).mono (by omega) (by omega)
theorem bd2_id {o : Option (Int32 × Mem)} : (bd2 o fun y u => some (y, u)) = o := by
  cases o with
  | none => rfl
  | some q => rfl
theorem rqB {x : Int32} (h : pX4_isBlock x = some 0) : pX4_requireBlock x = none ∧ tX4_requireBlock x = some "java/lang/IndexOutOfBoundsException" := by
  unfold pX4_requireBlock tX4_requireBlock
  rw [h, ob_some, ob_some, if_pos rfl, if_pos rfl]
  exact ⟨rfl, rfl⟩
theorem rqB1 {b : Nat} (hb : b < 64) : pX4_requireBlock (nI b) = some () ∧ tX4_requireBlock (nI b) = none := by
  unfold pX4_requireBlock tX4_requireBlock
  rw [isB_n hb, ob_some, ob_some, if_neg one0, if_neg one0]
  exact ⟨rfl, rfl⟩
theorem step_write {j : Nat} {v t u hh : Mem} {S : Nat → Mem} (hj : j < 512) (hs : Sim j v t u hh S) (x y : Int32) : StepA (Sim (j + 1)) (pX4_write t u hh S x y) (tX4_write t u hh S x y) (pX5_write v x y) ["java/lang/IndexOutOfBoundsException", "java/lang/IllegalArgumentException", "java/lang/IllegalStateException"] u hh S := by
  obtain ⟨m, s, L, f, rfl, h, hI, hH, hC, hT⟩ := sim_in hs
  have bad : ∀ (c : Int32), ¬ c = 0 → pX5_write_41 x y c (mp m s) = some (0, mp (se m 0 c) s) := fun c hc => by
    unfold pX5_write_41
    rw [holds_m, bd2_some, if_neg hc, if_pos rfl]
  have sm' : ∀ c, Sim (j + 1) (mp (se m 0 c) s) t u hh S := fun c => sim_se c h hI hH hC hT
  unfold StepA pX4_write tX4_write pX5_write
  rcases isB_c x with ⟨b, hb, rfl, e⟩ | ⟨e1, e2⟩
  · rw [e, ob_some, if_neg one0, (rqB1 hb).1, (rqB1 hb).2, ob_some]
    unfold pX5_in pX5_in_14 pX5_in_15
    by_cases y0 : y < 0
    · right
      refine ⟨1, _, t, 0, mp (se m 0 2) s, rfl, ?_, ?_, seM, sm' 2⟩
      · rw [if_pos y0]; rfl
      · rw [if_pos y0]; exact bad 2 (by decide)
    · rw [if_neg y0, if_neg y0, if_neg y0]
      by_cases y9 : y ≤ 999
      · rw [if_pos y9, if_pos y9, if_neg (Int32.not_lt.mpr y9), show (if isz (1 : Int32) = true then some (1 : Int32) else none) = some 1 from rfl, ob_some, if_neg one0, ldm1, ob_some, h.1.2.1]
        unfold pX4_requirePower tX4_requirePower
        by_cases p : u 6 1 = 0
        · right
          refine ⟨2, _, t, 0, mp (se m 0 3) s, rfl, ?_, ?_, seM, sm' 3⟩
          · rw [if_pos p]; rfl
          · rw [if_pos p]; exact bad 3 (by decide)
        · left
          obtain ⟨h', S', r, u', v9, k1, k2, k3, k4, k5⟩ := do_r hj h hI hH hC hT (P := pX1_writeBlock u (nI b) y) (G := fun w => bd2 (pX5_writes w (nI b) y) fun y105 u106 => some (y105, u106)) (fun m' s' R => by
            obtain ⟨r, u', s'', q1, q2, q3, q4, q5, -⟩ := wr_r (m := m') R hI (by omega) hb y
            exact ⟨r, u', s'', q1, by rw [bd2_id]; exact q2, q3, q4, q5⟩)
          refine ⟨r, t, u', h', S', v9, ?_, ?_, k4, k5⟩
          · rw [if_neg p, ob_some, k1, bdH_some, k2, bd2_some]
          · rw [if_neg p]; unfold pX5_write_41; rw [holds_m, bd2_some, if_pos rfl, if_neg one0]; exact k3
      · right
        refine ⟨1, _, t, 0, mp (se m 0 2) s, rfl, ?_, ?_, seM, sm' 2⟩
        · rw [if_neg y9]; rfl
        · rw [if_pos (Int32.not_le.mp y9)]; exact bad 2 (by decide)
  · right
    refine ⟨0, _, t, 0, mp (se m 0 1) s, rfl, ?_, ?_, seM, sm' 1⟩
    · rw [(rqB e1).2]; rfl
    · rw [e2, ob_some, if_pos rfl]; exact bad 1 (by decide)
theorem step_read {j : Nat} {v t u hh : Mem} {S : Nat → Mem} (hj : j < 512) (hs : Sim j v t u hh S) (x : Int32) : StepA (Sim (j + 1)) (pX4_read t u hh S x) (tX4_read t u hh S x) (pX5_read v x) ["java/lang/IndexOutOfBoundsException", "java/lang/IllegalStateException"] u hh S := by
  obtain ⟨m, s, L, f, rfl, h, hI, hH, hC, hT⟩ := sim_in hs
  have bad : ∀ (c : Int32), ¬ c = 0 → pX5_read_26 x c (mp m s) = some (0, mp (se m 0 c) s) := fun c hc => by
    unfold pX5_read_26
    rw [holds_m, bd2_some, if_neg hc, if_pos rfl]
  have sm' : ∀ c, Sim (j + 1) (mp (se m 0 c) s) t u hh S := fun c => sim_se c h hI hH hC hT
  unfold StepA pX4_read tX4_read pX5_read
  rcases isB_c x with ⟨b, hb, rfl, e⟩ | ⟨e1, e2⟩
  · rw [e, ob_some, if_neg one0, (rqB1 hb).1, (rqB1 hb).2, ob_some, ldm1, ob_some, h.1.2.1]
    unfold pX4_requirePower tX4_requirePower
    by_cases p : u 6 1 = 0
    · right
      refine ⟨1, _, t, 0, mp (se m 0 2) s, rfl, ?_, ?_, seM, sm' 2⟩
      · rw [if_pos p]; rfl
      · rw [if_pos p]; exact bad 2 (by decide)
    · left
      obtain ⟨h', S', r, u', v9, k1, k2, k3, k4, k5⟩ := do_r hj h hI hH hC hT (P := pX1_readBlock u (nI b)) (G := fun w => bd2 (pX5_reads w (nI b)) fun y105 u106 => some (y105, u106)) (fun m' s' R => by
        obtain ⟨r, u', s'', q1, q2, q3, q4, q5, -⟩ := rd_r (m := m') R hI hb
        exact ⟨r, u', s'', q1, by rw [bd2_id]; exact q2, q3, q4.mono (by omega), q5⟩)
      refine ⟨r, t, u', h', S', v9, ?_, ?_, k4, k5⟩
      · rw [if_neg p, ob_some, k1, bdH_some, k2, bd2_some]
      · rw [if_neg p]; unfold pX5_read_26; rw [holds_m, bd2_some, if_pos rfl, if_neg one0]; exact k3
  · right
    refine ⟨0, _, t, 0, mp (se m 0 1) s, rfl, ?_, ?_, seM, sm' 1⟩
    · rw [(rqB e1).2]; rfl
    · rw [e2, ob_some, if_pos rfl]; exact bad 1 (by decide)
theorem step_destage {j : Nat} {v t u hh : Mem} {S : Nat → Mem} (hj : j < 512) (hs : Sim j v t u hh S) (x : Int32) : StepA (Sim (j + 1)) (pX4_destage t u hh S x) (tX4_destage t u hh S x) (pX5_destage v x) ["java/lang/IndexOutOfBoundsException", "java/lang/IllegalStateException"] u hh S := by
  obtain ⟨m, s, L, f, rfl, h, hI, hH, hC, hT⟩ := sim_in hs
  have bad : ∀ (c : Int32), ¬ c = 0 → pX5_destage_24 x c (mp m s) = some (0, mp (se m 0 c) s) := fun c hc => by
    unfold pX5_destage_24
    rw [holds_m, bd2_some, if_neg hc, if_pos rfl]
  have sm' : ∀ c, Sim (j + 1) (mp (se m 0 c) s) t u hh S := fun c => sim_se c h hI hH hC hT
  obtain ⟨g, g1, g2⟩ := can_r (m := m) h hI
  unfold StepA pX4_destage tX4_destage pX5_destage
  rcases isS_c x with ⟨q, hq, rfl, e1, e2, e3⟩ | ⟨e1, e2⟩
  · rw [e1, ob_some, if_neg one0, e2, e3, ob_some, g2, ob_some]
    unfold pX4_requireDestaging tX4_requireDestaging
    rw [g1, ob_some, ob_some]
    cases g
    · right
      refine ⟨1, _, t, 0, mp (se m 0 2) s, rfl, ?_, ?_, seM, sm' 2⟩
      · rfl
      · rw [if_pos (show b2 false = 0 from rfl)]; exact bad 2 (by decide)
    · left
      obtain ⟨h', S', r, u', v9, k1, k2, k3, k4, k5⟩ := do_r hj h hI hH hC hT (P := pX1_destageStripe u (nI q)) (G := fun w => bd2 (pX5_destages w (nI q)) fun y105 u106 => some (y105, u106)) (fun m' s' R => by
        obtain ⟨r, u', s'', q1, q2, q3, q4, q5, -⟩ := ds_r (m := m') hq R hI
        exact ⟨_, u', s'', q1, by rw [bd2_id]; exact q2, q3, q4.mono (by omega), q5⟩)
      refine ⟨r, t, u', h', S', v9, ?_, ?_, k4, k5⟩
      · rw [if_neg (show ¬ b2 true = 0 by decide), ob_some, k1, bdH_some, k2, bd2_some]
      · rw [if_neg (show ¬ b2 true = 0 by decide)]; unfold pX5_destage_24; rw [holds_m, bd2_some, if_pos rfl, if_neg one0]; exact k3
  · right
    refine ⟨0, _, t, 0, mp (se m 0 1) s, rfl, ?_, ?_, seM, sm' 1⟩
    · rw [e2]; rfl
    · rw [e1, ob_some, if_pos rfl]; exact bad 1 (by decide)
theorem step_destageAll {j : Nat} {v t u hh : Mem} {S : Nat → Mem} (hj : j < 512) (hs : Sim j v t u hh S) : StepA (Sim (j + 1)) (pX4_destageAll t u hh S) (tX4_destageAll t u hh S) (pX5_destageAll v) ["java/lang/IllegalStateException"] u hh S := by
  obtain ⟨m, s, L, f, rfl, h, hI, hH, hC, hT⟩ := sim_in hs
  have sm' : ∀ c, Sim (j + 1) (mp (se m 0 c) s) t u hh S := fun c => sim_se c h hI hH hC hT
  obtain ⟨g, g1, g2⟩ := can_r (m := m) h hI
  unfold StepA pX4_destageAll tX4_destageAll pX5_destageAll pX5_destageAll_13 pX4_requireDestaging tX4_requireDestaging
  rw [g1, g2, ob_some, ob_some, ob_some]
  cases g
  · right
    refine ⟨0, _, t, 0, mp (se m 0 1) s, rfl, rfl, ?_, seM, sm' 1⟩
    rw [if_pos (show b2 false = 0 from rfl), holds_m, bd2_some, if_neg one0, if_pos rfl]
  · left
    obtain ⟨h', S', r, u', v9, k1, k2, k3, k4, k5⟩ := do_r hj h hI hH hC hT (P := pX1_destageStripes u) (G := fun w => bd2 (pX5_destagesAll w) fun y105 u106 => some (y105, u106)) (fun m' s' R => by
      obtain ⟨r, u', s'', q1, q2, q3, q4, q5⟩ := da_r (m := m') R hI
      exact ⟨_, u', s'', q1, by rw [bd2_id]; exact q2, q3, q4.mono (by omega), q5⟩)
    refine ⟨r, t, u', h', S', v9, ?_, ?_, k4, k5⟩
    · rw [if_neg (show ¬ b2 true = 0 by decide), ob_some, k1, bdH_some, k2, bd2_some]
    · rw [if_neg (show ¬ b2 true = 0 by decide), holds_m, bd2_some, if_pos rfl, if_neg one0]; exact k3
theorem bz_01 (x : Int32) : bz x = 0 ∨ bz x = 1 := by
  unfold bz
  split
  · exact Or.inl rfl
  · exact Or.inr rfl
theorem step_power {j : Nat} {v t u hh : Mem} {S : Nat → Mem} (hj : j < 512) (hs : Sim j v t u hh S) (x : Int32) : StepC (Sim (j + 1)) (pX4_power t u hh S (bz x)) (pX5_power v (bz x)) := by
  obtain ⟨m, s, L, f, rfl, h, hI, hH, hC, hT⟩ := sim_in hs
  obtain ⟨h', S', r, u', v9, k1, k2, k3, k4, k5⟩ := do_r hj h hI hH hC hT (P := pX1_switchPower u (bz x)) (G := fun w => bd2 (pX5_powers w (bz x)) fun y u => some (y, u)) (fun m' s' R => by
    obtain ⟨r, u', s'', q1, q2, q3, q4, q5⟩ := power_r (m := m') R hI (bz_01 x)
    exact ⟨_, u', s'', q1, by rw [bd2_id]; exact q2, q3, q4.mono (by omega), q5⟩)
  refine ⟨r, t, u', h', S', v9, ?_, ?_, k5⟩
  · unfold pX4_power; rw [k1, bdH_some, k2, bd2_some]
  · unfold pX5_power; rw [pf_e, ob_some, mp_mset0]; exact k3
theorem step_moveStick {j : Nat} {v t u hh : Mem} {S : Nat → Mem} (hj : j < 512) (hs : Sim j v t u hh S) (x : Int32) : StepA (Sim (j + 1)) (pX4_moveStick t u hh S (bz x)) (tX4_moveStick t u hh S (bz x)) (pX5_moveStick v (bz x)) ["java/lang/IllegalStateException"] u hh S := by
  obtain ⟨m, s, L, f, rfl, h, hI, hH, hC, hT⟩ := sim_in hs
  have sm' : ∀ c, Sim (j + 1) (mp (se m 0 c) s) t u hh S := fun c => sim_se c h hI hH hC hT
  unfold StepA pX4_moveStick tX4_moveStick pX5_moveStick pX5_moveStick_15
  rw [ldm1, ob_some, h.1.2.1]
  by_cases p : u 6 1 = 0
  · left
    obtain ⟨h', S', r, u', v9, k1, k2, k3, k4, k5⟩ := do_r hj h hI hH hC hT (P := pX1_placeStick u (bz x)) (G := fun w => bd2 (pX5_movesStick w (bz x)) fun y105 u106 => some (y105, u106)) (fun m' s' R => by
      obtain ⟨r, u', s'', q1, q2, q3, q4, q5, -⟩ := stick_r (m := m') R hI (bz_01 x)
      exact ⟨_, u', s'', q1, by rw [bd2_id]; exact q2, q3, q4.mono (by omega), q5⟩)
    refine ⟨r, t, u', h', S', v9, ?_, ?_, k4, k5⟩
    · rw [if_pos p, k1, bdH_some, k2, bd2_some]
    · rw [if_pos p, holds_m, bd2_some, if_pos rfl, if_neg one0]; exact k3
  · right
    refine ⟨0, _, t, 0, mp (se m 0 1) s, rfl, by rw [if_neg p], ?_, seM, sm' 1⟩
    rw [if_neg p, holds_m, bd2_some, if_neg one0, if_pos rfl]
theorem in_le {x a b : Int32} : pX5_in x a b = some (if x < a then 0 else if b < x then 0 else 1) := by
  unfold pX5_in pX5_in_14 pX5_in_15
  by_cases c : x < a
  · rw [if_pos c, if_pos c]; rfl
  · rw [if_neg c, if_neg c]
    by_cases c2 : b < x
    · rw [if_pos c2, if_pos c2]; rfl
    · rw [if_neg c2, if_neg c2]; rfl
theorem rng {x b : Int32} {n : Nat} (hb : b = nI n) (hn : n < 2 ^ 31) (h1 : ¬ x < 1) (h2 : x ≤ b) : ∃ k, 1 ≤ k ∧ k ≤ n ∧ x = nI k := by
  have h0 : ¬ x < 0 := fun e => h1 (Int32.lt_trans e (by decide))
  obtain ⟨k, hk, rfl⟩ := nI_of h0
  subst hb
  have := (nI_leI hk hn).mp h2
  refine ⟨k, ?_, this, rfl⟩
  rcases Nat.eq_zero_or_pos k with e | e
  · subst e; exact absurd (by decide) h1
  · exact e
theorem step_pass {j : Nat} {v t u hh : Mem} {S : Nat → Mem} (hj : j < 512) (hs : Sim j v t u hh S) (x : Int32) : StepA (Sim (j + 1)) (pX4_pass t u hh S x) (tX4_pass t u hh S x) (pX5_pass v x) ["java/lang/IllegalArgumentException"] u hh S := by
  obtain ⟨m, s, L, f, rfl, h, hI, hH, hC, hT⟩ := sim_in hs
  have sm' : ∀ c, Sim (j + 1) (mp (se m 0 c) s) t u hh S := fun c => sim_se c h hI hH hC hT
  unfold StepA pX4_pass tX4_pass pX5_pass pX5_pass_16
  rw [in_le, ob_some]
  by_cases c1 : x < 1
  · right
    refine ⟨0, _, t, 0, mp (se m 0 1) s, rfl, by rw [if_pos c1], ?_, seM, sm' 1⟩
    rw [if_pos c1, if_pos rfl, holds_m, bd2_some, if_neg one0, if_pos rfl]
  · rw [if_neg c1, if_neg c1, if_neg c1]
    by_cases c2 : x ≤ 99
    · left
      obtain ⟨k, w1, w2, rfl⟩ := rng (b := 99) (n := 99) rfl (by decide) c1 c2
      obtain ⟨h', S', r, u', v9, k1, k2, k3, k4, k5⟩ := do_r hj h hI hH hC hT (P := (pX1_letPass u (nI k)).bind fun u5 => some (u5 0 2, u5)) (G := fun w => bd2 (pX5_passes w (nI k)) fun y105 u106 => some (y105, u106)) (fun m' s' R => by
        obtain ⟨u', s'', q1, q2, q3, q4, q5⟩ := pass_r (m := m') (x := k) (by omega) R hI
        exact ⟨_, u', s'', by rw [q1, ob_some], by rw [bd2_id]; exact q2, q3, q4.mono (by omega), q5⟩)
      refine ⟨r, t, u', h', S', v9, ?_, ?_, k4, k5⟩
      · rw [if_pos c2, k1, bdH_some]
        cases e : pX1_letPass u (nI k) with
        | none => rw [e] at k2; cases k2
        | some w => rw [e, ob_some] at k2; cases k2; rfl
      · rw [if_neg (Int32.not_lt.mpr c2), if_neg one0, holds_m, bd2_some, if_pos rfl, if_neg one0]; exact k3
    · right
      refine ⟨0, _, t, 0, mp (se m 0 1) s, rfl, by rw [if_neg c2], ?_, seM, sm' 1⟩
      rw [if_pos (Int32.not_le.mp c2), if_pos rfl, holds_m, bd2_some, if_neg one0, if_pos rfl]
theorem step_setLimit {j : Nat} {v t u hh : Mem} {S : Nat → Mem} (hj : j < 512) (hs : Sim j v t u hh S) (x : Int32) : StepA (Sim (j + 1)) (pX4_setLimit t u hh S x) (tX4_setLimit t u hh S x) (pX5_setLimit v x) ["java/lang/IllegalArgumentException"] u hh S := by
  obtain ⟨m, s, L, f, rfl, h, hI, hH, hC, hT⟩ := sim_in hs
  have sm' : ∀ c, Sim (j + 1) (mp (se m 0 c) s) t u hh S := fun c => sim_se c h hI hH hC hT
  unfold StepA pX4_setLimit tX4_setLimit pX5_setLimit pX5_setLimit_16
  rw [in_le, ob_some]
  by_cases c1 : x < 1
  · right
    refine ⟨0, _, t, 0, mp (se m 0 1) s, rfl, by rw [if_pos c1], ?_, seM, sm' 1⟩
    rw [if_pos c1, if_pos rfl, holds_m, bd2_some, if_neg one0, if_pos rfl]
  · rw [if_neg c1, if_neg c1, if_neg c1]
    by_cases c2 : x ≤ 100
    · left
      obtain ⟨k, w1, w2, rfl⟩ := rng (b := 100) (n := 100) rfl (by decide) c1 c2
      obtain ⟨h', S', r, u', v9, k1, k2, k3, k4, k5⟩ := do_r hj h hI hH hC hT (P := (pX2_limitTo u (nI k)).bind fun u5 => some (u5 0 2, u5)) (G := fun w => (st w 1 2317 2 (nI k)).bind fun u105 => (ld u105 1 2317 3).bind fun y106 => if y106 ≤ nI k then (ld u105 1 2317 3).bind fun y108 => pX5_setLimit_60 3 y108 u105 else pX5_setLimit_60 3 (nI k) u105) (fun m' s' R => by
        obtain ⟨u', s'', q1, q2, q3, q4, q5⟩ := limit_r (m := m') w1 w2 R hI
        exact ⟨_, u', s'', by rw [q1, ob_some], q2, q3, q4.mono (by omega), q5⟩)
      refine ⟨r, t, u', h', S', v9, ?_, ?_, k4, k5⟩
      · rw [if_pos c2, k1, bdH_some]
        cases e : pX2_limitTo u (nI k) with
        | none => rw [e] at k2; cases k2
        | some w => rw [e, ob_some] at k2; cases k2; rfl
      · rw [if_neg (Int32.not_lt.mpr c2), if_neg one0, holds_m, bd2_some, if_pos rfl, if_neg one0]; exact k3
    · right
      refine ⟨0, _, t, 0, mp (se m 0 1) s, rfl, by rw [if_neg c2], ?_, seM, sm' 1⟩
      rw [if_pos (Int32.not_le.mp c2), if_pos rfl, holds_m, bd2_some, if_neg one0, if_pos rfl]
