/-! ONE TURN, THE FIRST STATE, ALL TURNS. -/
theorem core_cn {N : Nat} {lat : Nat → Int32} {u : Mem} (h : Core N lat u) : Core N lat (cn u) := by
  have w0 : ∀ i, i < 4 → cn u 0 i = u 0 i := fun i hi => cn_at (k := 0) hi
  have w6 : ∀ i, i < 2 → cn u 6 i = u 6 i := fun i hi => cn_at (k := 6) hi
  have w1 : ∀ k, k < 12 → cn u 1 k = u 1 k := fun k hk => cn_at (k := 1) hk
  have w2 : ∀ k, k < 12 → cn u 2 k = u 2 k := fun k hk => cn_at (k := 2) hk
  have w3 : ∀ k, k < 12 → cn u 3 k = u 3 k := fun k hk => cn_at (k := 3) hk
  have w4 : ∀ k, k < 12 → cn u 4 k = u 4 k := fun k hk => cn_at (k := 4) hk
  have w5 : ∀ k, k < 12 → cn u 5 k = u 5 k := fun k hk => cn_at (k := 5) hk
  have w7 : ∀ b, b < 64 → cn u 7 b = u 7 b := fun b hb => cn_at (k := 7) hb
  have w8 : ∀ b, b < 64 → cn u 8 b = u 8 b := fun b hb => cn_at (k := 8) hb
  have w9 : ∀ b, b < 64 → cn u 9 b = u 9 b := fun b hb => cn_at (k := 9) hb
  obtain ⟨c1, ⟨L, c, l1, l2, l3, l4, l5, l6⟩, ⟨n, m, a1, a2, a3, a4⟩, c4, c5, c6⟩ := h
  refine ⟨⟨by rw [w0 3 (by decide)]; exact c1.1, by rw [w6 1 (by decide)]; exact c1.2⟩, ⟨L, c, l1, l2, l3, by rw [w0 1 (by decide)]; exact l4, by rw [w0 2 (by decide)]; exact l5, fun e k hk => by rw [w1 k hk]; exact l6 e k hk⟩, ⟨n, m, a1, a2, by rw [w6 0 (by decide)]; exact a3, by rw [w0 0 (by decide)]; exact a4⟩, fun b hb => ?_, fun k hk => ?_, fun i j hi hj hn e => ?_⟩
  · unfold BI
    rw [w8 b hb, w9 b hb, w7 b hb, w6 0 (by decide)]
    exact c4 b hb
  · rcases c5 k hk with ⟨q1, q2⟩ | ⟨b, B⟩
    · exact Or.inl ⟨by rw [w1 k hk]; exact q1, by rw [w5 k hk]; exact q2⟩
    · refine Or.inr ⟨b, ?_⟩
      unfold LB
      rw [w1 k hk, w5 k hk, w3 k hk, w4 k hk, w2 k hk, w9 b B.1, w8 b B.1, w0 3 (by decide)]
      exact B
  · rw [w1 i hi] at hn
    rw [w1 i hi, w1 j hj] at e
    exact c6 i j hi hj hn e
theorem mi_cn {u : Mem} {b : Nat} (hb : b < 64) : mi (cn u) b = mi u b := by
  have w8 : cn u 8 b = u 8 b := cn_at (k := 8) hb
  have w9 : cn u 9 b = u 9 b := cn_at (k := 9) hb
  unfold mi
  rw [w8, w9]
  refine decide_eq_decide.mpr ⟨fun h => ⟨h.1, fun k hk q => h.2 k hk ?_⟩, fun h => ⟨h.1, fun k hk q => h.2 k hk ?_⟩⟩
  · rw [show cn u 1 k = u 1 k from cn_at (k := 1) hk, show cn u 3 k = u 3 k from cn_at (k := 3) hk]; exact q
  · rw [show cn u 1 k = u 1 k from cn_at (k := 1) hk, show cn u 3 k = u 3 k from cn_at (k := 3) hk] at q; exact q
theorem cnt_cn {N : Nat} {u : Mem} (h : Cn N u) : Cn N (cn u) := by
  obtain ⟨c, c1, c2, c3, c4⟩ := h
  refine ⟨c, fun i hi => ⟨?_, (c1 i hi).2⟩, c2, c3, ?_⟩
  · rw [show cn u 10 i = u 10 i from cn_at (k := 10) hi]; exact (c1 i hi).1
  · rw [Mi_c (fun b hb => mi_cn hb)]; exact c4
/-- what holds before each turn -/
def SimT (j : Nat) (_t u hh : Mem) (_S : Nat → Mem) (lat : Nat → Int32) : Prop := cn u = u ∧ Core j lat u ∧ Cn j u ∧ ∃ z x : Nat, Hs hh z x ∧ x ≤ j
theorem lg_self (T : Int64) : lg_cmp T T = 0 := by simp [lg_cmp]
theorem turn_r {j : Nat} {t u hh : Mem} {S : Nat → Mem} {lat : Nat → Int32} (hj : j < 70) (h : SimT j t u hh S lat) (x4 x y : Int32) : ∃ (u9 h9 : Mem) (S9 : Nat → Mem) (lat9 : Nat → Int32), pL_turn t u hh S lat x4 x y = some (t, u9, h9, S9, lat9) ∧ SimT (j + 1) t u9 h9 S9 lat9 := by
  obtain ⟨hc, h1, h2, z, x0, h3, h4⟩ := h
  obtain ⟨b, hb, eb⟩ := blk_r y
  obtain ⟨v, hv, ev⟩ := up_r (y >>> (9 &&& 31)) (n := 1000) (by decide) (by decide)
  have ev : pL_up (y >>> (9 &&& 31)) 1000 = some (nI v) := ev
  obtain ⟨u1, lat1, d1, d2, d3, d4⟩ := acts_r h1 (by omega) x y hb (by omega) eb ev
  obtain ⟨T0, hT0⟩ := told_r h1
  obtain ⟨T1, hT1⟩ := told_r d2
  obtain ⟨h', S', e1, e2, e3⟩ := d1 t hh S z x0 h3 (by omega)
  have e1 : pL_acts t u hh S x y = some (1, (t, u1, h', S')) := e1
  have hz6 : z ≤ 6 := h3.1
  -- the array of the latest values
  have hst : ∀ w : Int32, stl lat (nI b) w = some (upd lat b w) := fun w => by
    unfold stl
    rw [if_pos (inB_nI hb (by decide)), nI_clamp (by omega)]
  have hld : ldl lat (nI b) = some (lat b) := by
    unfold ldl
    rw [if_pos (inB_nI hb (by decide)), nI_clamp (by omega)]
  have hsame : upd lat b (lat b) = lat := by
    funext i
    rw [upd_at]
    by_cases c : i = b
    · rw [if_pos c, c]
    · rw [if_neg c]
  -- the end of a turn
  have fin : ∀ (hA : Mem) (SA : Nat → Mem), Hs hA (min 6 (z + 1)) (x0 + 1) → ∃ (u9 h9 : Mem) (S9 : Nat → Mem) (lat9 : Nat → Int32), (some (t, cn u1, hA, SA, lat1) : Option GL) = some (t, u9, h9, S9, lat9) ∧ SimT (j + 1) t u9 h9 S9 lat9 := fun hA SA q =>
    ⟨cn u1, hA, SA, lat1, rfl, cn_cn u1, core_cn d2, cnt_cn (h2.step d3), min 6 (z + 1), x0 + 1, q, by omega⟩
  -- behind the array
  have f198 : ∀ w : Int32, upd lat b w = lat1 → ∃ (u9 h9 : Mem) (S9 : Nat → Mem) (lat9 : Nat → Int32), pL_law_198 1 x4 x y T0 (nI b) w t u1 h' S' lat = some (t, u9, h9, S9, lat9) ∧ SimT (j + 1) t u9 h9 S9 lat9 := by
    intro w hw
    unfold pL_law_198 pL_law_271 pL_law_272 pL_law_273
    rw [hst, ob_some, hw, if_neg one0, if_neg one0]
    by_cases c : ((x >>> (8 &&& 31)) &&& 3) = 0
    · rw [if_pos c, hT1, ob_some]
      unfold pX4_savedStates
      rw [ob_some]
      -- back
      have hzz : ∃ z1, min 6 (z + 1) = z1 + 1 ∧ z1 ≤ 6 ∧ min 6 (z1 + 1) = min 6 (z + 1) := ⟨min 6 (z + 1) - 1, by omega, by omega, by omega⟩
      obtain ⟨z1, k1, k2, k3⟩ := hzz
      rw [k1] at e2
      obtain ⟨v9, h9, g1, g2, g3⟩ := undo_u (u := u1) t h1 e2 (by omega) e3
      have cv : cn v9 = u := (cn_ag g2).trans hc
      rw [g1, bdG_some, cv, e2.2.1, nI_pred, if_pos rfl, hT0, ob_some, lg_self, if_pos rfl]
      -- and forth
      obtain ⟨hB, SB, p1, p2, p3⟩ := d1 t h9 S' z1 x0 g3 (by omega)
      have p1 : pL_acts t u h9 S' x y = some (1, (t, u1, hB, SB)) := p1
      rw [p1, bdG_some, if_neg one0, hT1, ob_some, lg_self, if_pos rfl, if_neg one0]
      rw [k3] at p2
      exact fin hB SB p2
    · rw [if_neg c]
      exact fin h' S' e2
  have f160 : ∃ (u9 h9 : Mem) (S9 : Nat → Mem) (lat9 : Nat → Int32), pL_law_160 x4 x y (nI b) (u 10 2 + u 10 3) T0 1 t u1 h' S' lat = some (t, u9, h9, S9, lat9) ∧ SimT (j + 1) t u9 h9 S9 lat9 := by
    obtain ⟨c, c1, -, -, -⟩ := h2
    have hs : u 10 2 + u 10 3 = nI (c 2 + c 3) := by rw [(c1 2 (by decide)).1, (c1 3 (by decide)).1, nI_add]
    have b2' := (c1 2 (by decide)).2
    have b3 := (c1 3 (by decide)).2
    unfold pL_law_160
    rw [(cnt_e t u1 h' S').2.2.1, ob_some, (cnt_e t u1 h' S').2.2.2.1, ob_some]
    rcases d4 with ⟨q1, q2⟩ | ⟨q1, q2⟩
    · rw [q2, if_pos (Int32.le_refl _), hld, ob_some]
      exact f198 (lat b) (by rw [hsame, q1])
    · rw [q2, hs, nI_1, if_neg (nI_ge (by omega) (by omega)), ev, ob_some]
      exact f198 (nI v) q1.symm
  unfold pL_turn
  have e94 := eb (fun s => pL_law_94 x4 x y s t u hh S lat)
  rw [e94]
  unfold pL_law_94 pL_law_152
  rw [(cnt_e t u hh S).2.2.1, ob_some, (cnt_e t u hh S).2.2.2.1, ob_some, hT0, ob_some]
  unfold pX4_savedStates
  rw [ob_some, e1, bdG_some, if_neg one0, ob_some, h3.2.1, e2.2.1]
  by_cases c : 6 ≤ z
  · rw [if_pos (show (6 : Int32) ≤ nI z from nI_le (a := 6) c (by omega)), if_pos (show nI (min 6 (z + 1)) = 6 by rw [show min 6 (z + 1) = 6 by omega]; rfl)]
    exact f160
  · rw [if_neg (show ¬ (6 : Int32) ≤ nI z from nI_ge (b := 6) (by omega) (by decide)), if_pos (by rw [nI_1, show min 6 (z + 1) = z + 1 by omega])]
    exact f160
theorem all_turns : OkT SimT := by
  intro j t u hh S lat hj hs x y
  obtain ⟨u9, h9, S9, lat9, g1, g2⟩ := turn_r hj hs (nI j) x y
  obtain ⟨k1, k2⟩ := holds_r g2.2.1 (by omega) g2.2.2.1 t h9 S9
  exact ⟨t, u9, h9, S9, lat9, g1, k2, k1, g2⟩
theorem first_state : ∃ w : Mem, pX2_init m0 = some w ∧ HoldOK (cn (uS w)) ∧ pL_holds m0 (cn (uS w)) m0 (fun _ => uS w) (fun _ => 0) = some 1 ∧ SimT 0 m0 (cn (uS w)) m0 (fun _ => uS w) (fun _ => 0) := by
  obtain ⟨w, a1, a2, -, a4⟩ := in2_p 12 0 FU (mset (mset (mset m0 0 1 100) 0 2 100) 0 3 1) rfl (by decide)
  have w0 : uS w 0 = mset (mset (mset m0 0 1 100) 0 2 100) 0 3 1 0 := a4 0 (by decide)
  have w1 : ∀ k, k < 12 → uS w 1 k = -1 := fun k hk => a2 k hk (Nat.zero_le _)
  have w5 : ∀ k, uS w 5 k = 0 := fun k => congrFun (a4 5 (by decide)) k
  have C : Core 0 (fun _ => 0) (uS w) := by
    refine ⟨⟨Or.inr (by rw [w0]; rfl), Or.inr rfl⟩, ⟨100, 100, by decide, by decide, by decide, by rw [w0]; rfl, by rw [w0]; rfl, fun e => by cases e⟩, ⟨0, 0, by decide, by decide, rfl, by rw [w0]; rfl⟩, fun b hb => ⟨Int32.le_refl _, Int32.le_refl _, fun _ => rfl⟩, fun k hk => Or.inl ⟨w1 k hk, w5 k⟩, fun i j hi hj hn => absurd (w1 i hi) hn⟩
  have M : Mi' (uS w) = 0 := (Mi_e _).trans <| rc_0 64 0 (fun b _ hb => @decide_eq_false _ (Classical.propDecidable _) fun q => q.1 rfl)
  have K : Cn 0 (uS w) := ⟨fun _ => 0, fun i hi => ⟨rfl, Nat.zero_le _⟩, Nat.le_refl _, Nat.zero_le _, by rw [M]; exact Nat.le_refl _⟩
  have T : SimT 0 m0 (cn (uS w)) m0 (fun _ => uS w) (fun _ => 0) := ⟨cn_cn _, core_cn C, cnt_cn K, 0, 0, ⟨by decide, rfl, rfl⟩, Nat.le_refl _⟩
  obtain ⟨k1, k2⟩ := holds_r T.2.1 (by decide) T.2.2.1 m0 m0 (fun _ => uS w)
  refine ⟨w, ?_, k2, k1, T⟩
  unfold pX2_init
  rw [pf_e, ob_some, pf_e, ob_some, pz_e (by decide), ob_some]
  exact a1
