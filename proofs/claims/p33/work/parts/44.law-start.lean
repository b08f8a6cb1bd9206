/-! THE LAW'S LOOP, AND ITS ENTRY. -/
theorem pcell_ok {L k : Nat} {xs : Nat → Int32} (hL : L < 2 ^ 31) (hk : k < 2 ^ 31) : ∃ r, pcell L xs (nI k) = some r := by
  unfold pcell
  by_cases c : nI L ≤ nI k
  · rw [if_pos c]; exact ⟨_, rfl⟩
  · rw [if_neg c, if_pos (in_inB (vp_in_nI (Nat.not_le.mp fun q => c (nI_le q hk)) hL))]
    exact ⟨_, rfl⟩
/-- what holds asks of the numbers before its loops -/
def HoldOK (u : Mem) : Prop := ¬ u 0 2 < 0 ∧ ¬ 100 < u 0 2 ∧ ¬ u 10 0 < u 10 5 ∧ isNaN32 (FRv (u 10 8) (u 10 7)) = false ∧ quoOK (FRv (u 10 8) (u 10 7))
def OkT (Sim : Nat → Mem → Mem → Mem → (Nat → Mem) → (Nat → Int32) → Prop) : Prop := ∀ (j : Nat) (t u hh : Mem) (S : Nat → Mem) (lat : Nat → Int32), j < 70 → Sim j t u hh S lat → ∀ x y : Int32, ∃ (t9 u9 h9 : Mem) (S9 : Nat → Mem) (lat9 : Nat → Int32), pL_turn t u hh S lat (nI j) x y = some (t9, u9, h9, S9, lat9) ∧ HoldOK u9 ∧ pL_holds t9 u9 h9 S9 lat9 = some 1 ∧ Sim (j + 1) t9 u9 h9 S9 lat9
set_option maxHeartbeats 8000000 in
set_option maxRecDepth 100000 in
theorem law_loop {p : Program} {l : Launch} {e : Env} {s : State} {m : MethodId} {args : Array Value} {below : List Frame} {meth : Method} {c : Code} {Q : State → Prop} {D : va_G} {ca : Gp} {A : Nat → Prop} {b0 L q cells slots : Nat} {xs : Nat → Int32} {a b h : Nat → Nat} {f : Nat → Nat → Nat} {Sim : Nat → Mem → Mem → Mem → (Nat → Mem) → (Nat → Int32) → Prop} (C0 : Cx p s m args c cL_law 15 wsL_law RL D ca A) (hX : va_X b0 L xs s s.heap) (hbl : b0 < s.heap.size) (hbA : ¬ A b0) (hL : L ≤ 260) (hroom : cells ≤ room_1.cells ∧ slots ≤ room_1.slots) (ok : OkT Sim) (hend : ∀ (H : Heap) (locs : List Loc) (ls : Array Slot) (d1 : Drawn), s.drawn.sameBut d1 lw_cs → va_S A s.heap H locs → W p l e room_1 (s.setDrawn d1) m args below meth c H locs cells slots Q (F0 m 298 ls [.int 1])) : ∀ (k j : Nat) (d0 : Drawn) (H : Heap) (locs : List Loc) (ls : Array Slot) (t u hh : Mem) (S : Nat → Mem) (lat : Nat → Int32), j + k = 70 → s.drawn.sameBut d0 lw_cs → Sim j t u hh S lat → HS D A s (gW a b h f ca t u hh S ((q, .inl (ca.1 0, 64, .inl lat)) :: [])) H locs → lv_has ls 15 [(0, .ref b0), (1, .ref (h 2)), (2, .ref q), (3, .int 1), (4, .int (nI j))] → W p l e room_1 (s.setDrawn d0) m args below meth c H locs cells slots Q (F0 m 22 ls []) := by
  intro k
  induction k with
  | zero =>
    intro j d0 H locs ls t u hh S lat hj hd0 hs hH hl
    obtain ⟨hx, hb, hml, hown, hts⟩ := id C0.1
    obtain rfl : j = 70 := by omega
    refine lv_iload hx hb dL_law_22 (lv_at hl 4 rfl) ?_
    refine lv_bipush (v := 70) hx hb dL_law_24 (by decide) ?_
    refine lv_icmp_ge (tgt := 297) hx hb dL_law_26 (by decide) (fun c1 => ?_) (fun c1 => absurd (by decide) c1)
    refine lv_iload_n hx hb dL_law_297 rfl (lv_at hl 3 rfl) ?_
    exact hend H locs ls d0 hd0 hH.2.2
  | succ k ih =>
    intro j d0 H locs ls t u hh S lat hj hd0 hs hH hl
    obtain ⟨hx, hb, hml, hown, hts⟩ := id C0.1
    have e2 : (2 : Int32) * nI j = nI (2 * j) := by rw [show (2 : Int32) = nI 2 from rfl, pk_mul]
    obtain ⟨x5, h5⟩ : ∃ r, pcell L xs (2 * nI j) = some r := by rw [e2]; exact pcell_ok (by omega) (by omega)
    obtain ⟨x6, h6⟩ : ∃ r, pcell L xs (2 * nI j + 1) = some r := by rw [e2, nI_1]; exact pcell_ok (by omega) (by omega)
    obtain ⟨t9, u9, h9, S9, lat9, g1, ⟨k1, k2, k3, k4, k5⟩, g3, g4⟩ := ok j t u hh S lat (by omega) hs x5 x6
    refine lv_iload hx hb dL_law_22 (lv_at hl 4 rfl) ?_
    refine lv_bipush (v := 70) hx hb dL_law_24 (by decide) ?_
    refine lv_icmp_ge (tgt := 297) hx hb dL_law_26 (by decide) (fun c1 => absurd c1 (nI_ge (a := j) (b := 70) (by omega) (by decide))) (fun c1 => ?_)
    refine lv_iload_n hx hb dL_law_29 rfl (lv_at hl 3 rfl) ?_
    refine lv_if_eq (tgt := 297) hx hb dL_law_30 (by decide) (fun c2 => absurd c2 (by decide)) (fun c2 => ?_)
    refine lv_aload_n hx hb dL_law_33 rfl (lv_at hl 0 rfl) ?_
    refine lv_iconst (v := 2) hx hb dL_law_34 (by decide) ?_
    refine lv_iload hx hb dL_law_35 (lv_at hl 4 rfl) ?_
    refine lv_imul hx hb dL_law_37 ?_
    refine cl_cell (s := s.setDrawn d0) (C0.drawn d0) hH hl.1 (va_X.moved (u := s) (U := s.setDrawn d0) (Vm.Alike.refl s.vm) hX) hbl hbA h5 gL_law_L_cell ⟨Nat.le_of_ble_eq_true rfl, Nat.le_of_ble_eq_true rfl⟩ hroom (Nat.le_of_ble_eq_true rfl) dL_law_38 (fun H locs hH => ?_)
    refine lv_istore (lv' := [(5, .int x5), (0, .ref b0), (1, .ref (h 2)), (2, .ref q), (3, .int 1), (4, .int (nI j))]) hx hb dL_law_41 hl (by decide) rfl (fun ls hl => ?_)
    refine lv_aload_n hx hb dL_law_43 rfl (lv_at hl 1 rfl) ?_
    refine lv_iconst (v := 2) hx hb dL_law_44 (by decide) ?_
    refine lv_iload hx hb dL_law_45 (lv_at hl 5 rfl) ?_
    refine lv_imul hx hb dL_law_47 ?_
    refine lv_iconst (v := 1) hx hb dL_law_48 (by decide) ?_
    refine lv_iadd hx hb dL_law_49 ?_
    refine cl_cell (s := s.setDrawn d0) (C0.drawn d0) hH hl.1 (va_X.moved (u := s) (U := s.setDrawn d0) (Vm.Alike.refl s.vm) hX) hbl hbA h6 gL_law_L_cell ⟨Nat.le_of_ble_eq_true rfl, Nat.le_of_ble_eq_true rfl⟩ hroom (Nat.le_of_ble_eq_true rfl) dL_law_50 (fun H locs hH => ?_)
    refine lv_istore (lv' := [(6, .int x6), (5, .int x5), (0, .ref b0), (1, .ref (h 2)), (2, .ref q), (3, .int 1), (4, .int (nI j))]) hx hb dL_law_53 hl (by decide) rfl (fun ls hl => ?_)
    refine tl_L_turn (s := s.setDrawn d0) (C0.drawn d0) hroom (fun H locs ls hH hl => ?_) g1 hH (lv_sub hl [2, 3, 4, 6, 1, 0] rfl)
    refine lv_aload_n hx hb dL_law_277 rfl (lv_at hl 1 rfl) ?_
    refine lv_aload_n hx hb dL_law_278 rfl (lv_at hl 2 rfl) ?_
    refine cl_iSD hd0 C0 hH hl.1 (As := [.ref (h 2), .ref q]) (rest := []) (mL_holds l D ca a b h f [] q t9 u9 h9 S9 lat9 k1 k2 k3 k4 k5 g3) gL_law_L_holds rfl rfl rfl hd_L_holds ⟨Nat.le_of_ble_eq_true rfl, Nat.le_of_ble_eq_true rfl⟩ hroom rfl (Nat.le_of_ble_eq_true rfl) dL_law_279 (fun d1 H locs hd1 hH => ?_)
    refine lv_if_eq (tgt := 289) hx hb dL_law_282 (by decide) (fun c2 => absurd c2 (by decide)) (fun c2 => ?_)
    refine lv_iconst (v := 1) hx hb dL_law_285 (by decide) ?_
    refine lv_goto (tgt := 290) hx hb dL_law_286 (by decide) ?_
    refine lv_istore_n (lv' := [(3, .int 1), (0, .ref b0), (1, .ref (h 2)), (2, .ref q), (4, .int (nI j))]) hx hb dL_law_290 rfl hl (by decide) rfl (fun ls hl => ?_)
    refine lv_iinc (v := nI (j + 1)) (lv' := [(4, .int (nI (j + 1))), (3, .int 1), (0, .ref b0), (1, .ref (h 2)), (2, .ref q)]) hx hb dL_law_291 hl (k := 4) rfl (by rw [show Int32.ofInt 1 = 1 from rfl, nI_1]) (by decide) rfl (fun ls hl => ?_)
    refine lv_goto (tgt := 22) hx hb dL_law_294 (by decide) ?_
    exact ih (j + 1) d1 H locs ls t9 u9 h9 S9 lat9 (by omega) hd1 g4 hH (lv_sub hl [2, 3, 4, 1, 0] rfl)
theorem fm_nil {α : Type} {P : α → Prop} : ∀ q ∈ ([] : List α), P q := fun _ h => absurd h List.not_mem_nil
set_option maxHeartbeats 4000000 in
set_option maxRecDepth 100000 in
/-- the kinds of arrays and the classes, by the tables -/
theorem st_K {s : State} {av : Array Value} (hts : ∀ w ∈ lw_tbl, w.before av s = true) : ∃ (D : va_G) (k : Nat → ClassId), ∀ g : (Nat → Nat) × (Nat → Nat), va_K D vwCl (tysA (k, g)) s := by
  obtain ⟨c0, i0, h0⟩ := u_known (C := RX0) (T := TX0) (N := 3) (n := 3) hts inX0 (hts (.instantiable RX0 3) (by decide +kernel))
  obtain ⟨c1, i1, h1⟩ := u_known (C := RX1) (T := TX1) (N := 7) (n := 7) hts inX1 (hts (.instantiable RX1 7) (by decide +kernel))
  obtain ⟨c2, i2, h2⟩ := u_known (C := RX2) (T := TX2) (N := 9) (n := 9) hts inX2 (hts (.instantiable RX2 9) (by decide +kernel))
  obtain ⟨c3, i3, h3⟩ := u_known (C := RX3) (T := TX3) (N := 6) (n := 6) hts inX3 (hts (.instantiable RX3 6) (by decide +kernel))
  obtain ⟨c4, i4, h4⟩ := u_known (C := RX4) (T := TX4) (N := 3) (n := 3) hts inX4 (hts (.instantiable RX4 3) (by decide +kernel))
  obtain ⟨a0, ka0, co0, f0, g0, k0⟩ := Cond.arrayClass_spec (hts (.arrayClass .int) (by decide +kernel))
  obtain ⟨a1, ka1, co1, f1, g1, k1⟩ := Cond.arrayClass_spec (hts (.arrayClass .boolean) (by decide +kernel))
  obtain ⟨a2, ka2, co2, f2, g2, k2⟩ := Cond.arrayClass_spec (hts (.arrayClass .char) (by decide +kernel))
  obtain ⟨co3, a3, ka3, f3, -, g3, k3, n3⟩ := Cond.arrayOver_spec (hts (.arrayOver (.object "GatheringCache$State")) (by decide +kernel))
  refine ⟨(fun k => [c0, c1, c2, c3, c4].getD k c0, fun k => [i0, i1, i2, i3, i4].getD k i0), fun k => [a0, a1, a2, a3].getD k a0, fun g => ⟨fun k q hq => ?_, fun k q hq => ?_⟩⟩
  · match k, hq with
    | 0, hq => cases hq; exact h0
    | 1, hq => cases hq; exact h1
    | 2, hq => cases hq; exact h2
    | 3, hq => cases hq; exact h3
    | 4, hq => cases hq; exact h4
    | k + 5, hq => simp at hq
  · match k, hq with
    | 0, hq => cases hq; exact ⟨fun n z => ⟨fun k h => (by cases h), ka0, g0, co0, k0⟩, f0⟩
    | 1, hq => cases hq; exact ⟨fun n z => ⟨fun k h => (by cases h), ka1, g1, co1, k1⟩, f1⟩
    | 2, hq => cases hq; exact ⟨fun n z => ⟨fun k h => (by cases h), ka2, g2, co2, k2⟩, f2⟩
    | 3, hq => cases hq; exact ⟨fun n z => ⟨fun k h => (by cases h), ka3, g3, co3, k3⟩, ka3, co3, g3, k3, f3, n3⟩
    | k + 4, hq => simp at hq
theorem perm_q (a b h : Nat → Nat) (f : Nat → Nat → Nat) (ca : Gp) (t u hh : Mem) (S : Nat → Mem) (wr : va_W) (x : Nat × va_E) : ([x] ++ gW a b h f ca t u hh S wr).Perm (gW a b h f ca t u hh S (x :: wr)) := by
  have e : ∀ wr : va_W, gW a b h f ca t u hh S wr = (tW b ca t ++ (sW a ca u ++ (h3W a b h f ca hh ++ svL f ca S js6))) ++ wr := fun wr => by
    unfold gW hW
    simp only [List.append_assoc]
  rw [e, e]
  rw [List.singleton_append]
  exact List.perm_middle.symm
set_option maxHeartbeats 4000000 in
set_option maxRecDepth 100000 in
theorem st_E {s : State} {av : Array Value} {ca : Gp} (hts : ∀ w ∈ lw_tbl, w.before av s = true) : EV ca (fun q : Nat => s.heap.size ≤ q) s := by
  refine ⟨?_, ⟨trivial, trivial, trivial, va_AO.of (hts (.arrayOver (.object "GatheringCache$State")) (by decide +kernel))⟩, trivial⟩
  exact List.forall_mem_cons.mpr ⟨va_Nw.of rfl (hts (.methodLinkNest RX4 9 yX1_init "GatheringCache") (by decide +kernel)), List.forall_mem_cons.mpr ⟨va_Nw.of rfl (hts (.methodLinkNest RX0 17 yX1_init "GatheringCache") (by decide +kernel)), List.forall_mem_cons.mpr ⟨va_Nw.of rfl (hts (.methodLinkNest RX4 25 yX3_init "GatheringCache") (by decide +kernel)), List.forall_mem_cons.mpr ⟨va_Nw.of rfl (hts (.methodLinkNest RX2 63 yX4_stripeOf "GatheringCache") (by decide +kernel)), List.forall_mem_cons.mpr ⟨va_Nw.of rfl (hts (.methodLinkNest RX1 55 yX4_isBlock "GatheringCache") (by decide +kernel)), List.forall_mem_cons.mpr ⟨va_Nw.of rfl (hts (.methodLinkNest RX1 59 yX4_readsToWrite "GatheringCache") (by decide +kernel)), List.forall_mem_cons.mpr ⟨va_Nw.of rfl (hts (.methodLinkNest RX1 63 yX4_writesToWrite "GatheringCache") (by decide +kernel)), List.forall_mem_cons.mpr ⟨va_Nw.of rfl (hts (.methodLinkNest RX1 83 yX4_isLine "GatheringCache") (by decide +kernel)), List.forall_mem_cons.mpr ⟨va_Nw.of rfl (hts (.methodLinkNest RX1 152 yX4_operationsToWrite "GatheringCache") (by decide +kernel)), List.forall_mem_cons.mpr ⟨va_Nw.of rfl (hts (.methodLinkNest RX1 77 yX4_stripeOf "GatheringCache") (by decide +kernel)), List.forall_mem_cons.mpr ⟨va_Nw.of rfl (hts (.methodLinkNest RX2 55 yX4_isLine "GatheringCache") (by decide +kernel)), fm_nil⟩⟩⟩⟩⟩⟩⟩⟩⟩⟩⟩
set_option maxHeartbeats 8000000 in
set_option maxRecDepth 100000 in
theorem law_start {p : Program} {e : Env} {s : State} {m : MethodId} {below : List Frame} {meth : Method} {c : Code} (l : Launch) {b L : Nat} {xs : Nat → Int32} (hL : L ≤ 260) (C0 : lw_At p s m meth c b L xs) {Sim : Nat → Mem → Mem → Mem → (Nat → Mem) → (Nat → Int32) → Prop} (ok : OkT Sim) {w : Mem} (hw : pX2_init m0 = some w) (hok : HoldOK (cn (uS w))) (hho : pL_holds m0 (cn (uS w)) m0 (fun _ => uS w) (fun _ => 0) = some 1) (h0 : Sim 0 m0 (cn (uS w)) m0 (fun _ => uS w) (fun _ => 0)) : W p l e room_1 s m #[Value.ref b] below meth c s.heap [] 0 0 (lw_Z below #[Value.ref b] s) (entryFrame m ([Value.ref b] : List Value).toArray 15) := by
  obtain ⟨hx, hb, hr, hml, hown, hts0, hX, hbl, hlocks, hgv⟩ := id C0
  have hts : ∀ w ∈ wsL_law, w.before #[Value.ref b] s = true := fun w h => hts0 w (wsL_law_in w h)
  obtain ⟨D, k9, hK⟩ := st_K hts0
  obtain ⟨ca, hK⟩ : ∃ ca : Gp, va_K D vwCl (tysA ca) s := ⟨(k9, (fun _ => 0, fun _ => 0)), hK _⟩
  have hE : EV ca (fun q : Nat => s.heap.size ≤ q) s := st_E hts0
  have hbA : ¬ (fun q : Nat => s.heap.size ≤ q) b := Nat.not_le.mpr hbl
  have C1 : Cx p s m #[Value.ref b] c cL_law 15 wsL_law RL D ca (fun q : Nat => s.heap.size ≤ q) := ⟨⟨hx, hb, hml, hown, hts⟩, hK, fun q h => h, hE⟩
  have hb : c.code = cL_law := hb
  have hP : va_P D vwCl [] s.heap := fun k q h => by simp at h
  have hD : va_D (fun q : Nat => s.heap.size ≤ q) [] := ⟨fun i j p q h => by simp at h, fun k q h => by simp at h⟩
  have hH : HS D (fun q : Nat => s.heap.size ≤ q) s ([] ++ []) s.heap [] := ⟨hP, hD, va_S.rf⟩
  have hl := lv_entry ([.ref b]) (n := 15) (Nat.le_of_ble_eq_true rfl)
  rw [lg_entry_eq]
  generalize (lg_sl ([.ref b]) ++ List.replicate (15 - (lg_sl ([.ref b])).length) Slot.unset).toArray = ls at hl ⊢
  have hl : lv_has ls 15 [(0, .ref b)] := hl
  refine nw_obj (wr := []) (fs := [.null, .null, .null]) (ci := 4) (C := RX4) (T := TX4) (N := 3) C1 hH inlX4 tyX4 tyX4_ok (by decide +kernel : Cond.classLink RL 12 RX4 ∈ wsL_law) (by decide +kernel : Cond.instantiable RX4 3 ∈ wsL_law) (by decide +kernel : Cond.initialized RX4 ∈ wsL_law) rfl (fun j hj => by rcases (show j = 0 ∨ j = 1 ∨ j = 2 by omega) with rfl | rfl | rfl <;> rfl) (Nat.le_of_ble_eq_true rfl) (Nat.le_of_ble_eq_true rfl) dL_law_0 (fun q1 H hH => ?_)
  refine lv_dup hx hb dL_law_3 rfl ?_
  have hH : HS D (fun q : Nat => s.heap.size ≤ q) s ([(q1, .inr (4, [.null, .null, .null]))] ++ []) H [] := hH
  refine cl_n C1 hH hl.1 (mX4_init l D ca q1 [] hw) gL_law_X4_init rfl rfl rfl (by decide +kernel : Cond.initialized RX4 ∈ wsL_law) (by decide +kernel : Cond.methodLink RL 104 yX4_init ∈ wsL_law) (by decide +kernel : Cond.instanceMethod yX4_init ∈ wsL_law) rfl hd_X4_init ⟨Nat.le_of_ble_eq_true rfl, Nat.le_of_ble_eq_true rfl⟩ ⟨Nat.le_of_ble_eq_true rfl, Nat.le_of_ble_eq_true rfl⟩ (rest := [.ref q1]) (Nat.le_of_ble_eq_true rfl) dL_law_4 (fun z H locs hz hN => ?_)
  obtain ⟨a, bb, h, f⟩ := z
  have hz : h 2 = q1 := hz
  subst hz
  have hH : HS D (fun q : Nat => s.heap.size ≤ q) s ([] ++ gW a bb h f ca m0 (uS w) m0 (fun _ => uS w) []) H locs := hN
  refine lv_astore_n (lv' := [(1, .ref (h 2)), (0, .ref b)]) hx hb dL_law_7 rfl hl (by decide) rfl (fun ls hl => ?_)
  refine lv_bipush (v := 64) hx hb dL_law_8 (by decide) ?_
  refine nw_arr (a0 := (64, .inl (fun _ => 0))) C1 hH (n := 64) (N' := 64) (atype := .int) 0 rfl rfl (by decide +kernel) (fun _ => rfl) (by decide) (by decide) (Nat.le_of_ble_eq_true rfl) (Nat.le_of_ble_eq_true rfl) (Nat.le_of_ble_eq_true rfl) dL_law_10 (fun q H hH => ?_)
  have hH := HS.perm (perm_q a bb h f ca m0 (uS w) m0 (fun _ => uS w) [] (q, .inl (ca.1 0, 64, .inl (fun _ => 0)))) (show HS D (fun q : Nat => s.heap.size ≤ q) s ([(q, .inl (ca.1 0, 64, .inl (fun _ => 0)))] ++ gW a bb h f ca m0 (uS w) m0 (fun _ => uS w) []) H locs from hH)
  have hH := HS_cn hH
  refine lv_astore_n (lv' := [(2, .ref q), (1, .ref (h 2)), (0, .ref b)]) hx hb dL_law_12 rfl hl (by decide) rfl (fun ls hl => ?_)
  refine lv_aload_n hx hb dL_law_13 rfl (lv_at hl 1 rfl) ?_
  refine lv_aload_n hx hb dL_law_14 rfl (lv_at hl 0 rfl) ?_
  obtain ⟨k1, k2, k3, k4, k5⟩ := hok
  refine W.base ?_
  refine cl_iSD (Drawn.sameBut.refl s.drawn lw_cs) C1 hH hl.1 (As := [.ref (h 2), .ref q]) (rest := []) (mL_holds l D ca a bb h f [] q m0 (cn (uS w)) m0 (fun _ => uS w) (fun _ => 0) k1 k2 k3 k4 k5 hho) gL_law_L_holds rfl rfl rfl hd_L_holds ⟨Nat.le_of_ble_eq_true rfl, Nat.le_of_ble_eq_true rfl⟩ ⟨Nat.le_of_ble_eq_true rfl, Nat.le_of_ble_eq_true rfl⟩ rfl (Nat.le_of_ble_eq_true rfl) dL_law_15 (fun d1 H locs hd1 hH => ?_)
  refine lv_istore_n (lv' := [(3, .int 1), (2, .ref q), (1, .ref (h 2)), (0, .ref b)]) hx hb dL_law_18 rfl hl (by decide) rfl (fun ls hl => ?_)
  refine lv_iconst (v := 0) hx hb dL_law_19 (by decide) ?_
  refine lv_istore (lv' := [(4, .int 0), (3, .int 1), (2, .ref q), (1, .ref (h 2)), (0, .ref b)]) hx hb dL_law_20 hl (by decide) rfl (fun ls hl => ?_)
  refine law_loop C1 hX hbl hbA hL ⟨Nat.le_of_ble_eq_true rfl, Nat.le_of_ble_eq_true rfl⟩ ok (fun H locs ls d1 hd1 hS => ?_) 70 0 d1 H locs ls m0 (cn (uS w)) m0 (fun _ => uS w) (fun _ => 0) rfl hd1 h0 hH (lv_sub hl [4, 3, 2, 1, 0] rfl)
  refine W.widen (k := 600130) (n := 7301080) (Nat.le_of_ble_eq_true rfl) (Nat.le_of_ble_eq_true rfl) ?_
  refine va_forget (fun q hq => hS.2.2 q hq) ?_
  exact lw_ret hd1 hx hb hr hlocks dL_law_298
