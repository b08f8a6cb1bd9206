/-! THE LAW'S ENTRY. -/
theorem noTrace {l : Launch} (h : l.flags = flags0) : l.stackTraces = false := by
  unfold Launch.stackTraces
  rw [h]
  decide +kernel
theorem fm_nil {α : Type} {P : α → Prop} : ∀ q ∈ ([] : List α), P q := fun _ h => absurd h List.not_mem_nil
set_option maxHeartbeats 4000000 in
set_option maxRecDepth 100000 in
/-- the kinds of arrays and the classes, by the tables -/
theorem st_K {s : State} {av : Array Value} (hts : ∀ w ∈ lw_tbl, w.before av s = true) : ∃ (D : va_G) (k : Nat → ClassId), ∀ g : (Nat → Nat) × (Nat → Nat), va_K D vwCl (tysA (k, g)) s := by
  obtain ⟨c0, i0, h0⟩ := u_known (C := RX0) (T := TX0) (N := 3) (n := 3) hts inX0 (hts (.instantiable RX0 3) (by decide +kernel))
  obtain ⟨c1, i1, h1⟩ := u_known (C := RX1) (T := TX1) (N := 7) (n := 7) hts inX1 (hts (.instantiable RX1 7) (by decide +kernel))
  obtain ⟨c2, i2, h2⟩ := u_known (C := RX2) (T := TX2) (N := 9) (n := 9) hts inX2 (hts (.instantiable RX2 9) (by decide +kernel))
  obtain ⟨c3, i3, h3⟩ := u_known (C := RX3) (T := TX3) (N := 6) (n := 6) hts inX3 (hts (.instantiable RX3 6) (by decide +kernel))
  obtain ⟨c4, i4, h4⟩ := u_known (C := RX4) (T := TX4) (N := 3) (n := 3) hts inX4 (hts (.instantiable RX4 3) (by decide +kernel))
  obtain ⟨c5, i5, h5⟩ := u_known (C := RX5) (T := TX5) (N := 9) (n := 9) hts inX5 (hts (.instantiable RX5 9) (by decide +kernel))
  obtain ⟨a0, ka0, co0, f0, g0, k0⟩ := Cond.arrayClass_spec (hts (.arrayClass .int) (by decide +kernel))
  obtain ⟨a1, ka1, co1, f1, g1, k1⟩ := Cond.arrayClass_spec (hts (.arrayClass .boolean) (by decide +kernel))
  obtain ⟨a2, ka2, co2, f2, g2, k2⟩ := Cond.arrayClass_spec (hts (.arrayClass .char) (by decide +kernel))
  obtain ⟨co3, a3, ka3, f3, -, g3, k3, n3⟩ := Cond.arrayOver_spec (hts (.arrayOver (.object "GatheringCache$State")) (by decide +kernel))
  obtain ⟨a4, ka4, co4, f4, g4, k4⟩ := Cond.arrayClass_spec (hts (.arrayClass .long) (by decide +kernel))
  refine ⟨(fun k => [c0, c1, c2, c3, c4, c5].getD k c0, fun k => [i0, i1, i2, i3, i4, i5].getD k i0), fun k => [a0, a1, a2, a3, a4].getD k a0, fun g => ⟨fun k q hq => ?_, fun k q hq => ?_⟩⟩
  · match k, hq with
    | 0, hq => cases hq; exact h0
    | 1, hq => cases hq; exact h1
    | 2, hq => cases hq; exact h2
    | 3, hq => cases hq; exact h3
    | 4, hq => cases hq; exact h4
    | 5, hq => cases hq; exact h5
    | k + 6, hq => simp at hq
  · match k, hq with
    | 0, hq => cases hq; exact ⟨fun n z => ⟨fun k h => (by cases h), ka0, g0, co0, k0⟩, f0⟩
    | 1, hq => cases hq; exact ⟨fun n z => ⟨fun k h => (by cases h), ka1, g1, co1, k1⟩, f1⟩
    | 2, hq => cases hq; exact ⟨fun n z => ⟨fun k h => (by cases h), ka2, g2, co2, k2⟩, f2⟩
    | 3, hq => cases hq; exact ⟨fun n z => ⟨fun k h => (by cases h), ka3, g3, co3, k3⟩, ka3, co3, g3, k3, f3, n3⟩
    | 4, hq => cases hq; exact ⟨fun n z => ⟨fun k h => (by cases h), ka4, g4, co4, k4⟩, f4⟩
    | k + 5, hq => simp at hq
theorem st_sref {s : State} {av : Array Value} {own tx : String} {k : Nat} (h1 : (Cond.stringRef own k tx).before av s = true) (h2 : (Cond.exactly (.string own k) "java/lang/String").before av s = true) : ∃ a : Nat, vk_R own k tx a s := by
  obtain ⟨a, c, cA, kA, q1, -⟩ := Cond.exactly_spec (args := av) (first := s) (o := none) (s := s) (idx := []) h2
  exact ⟨a, vk_R.of h1 q1⟩
set_option maxHeartbeats 4000000 in
set_option maxRecDepth 100000 in
theorem st_E {s : State} {av : Array Value} {k : Nat → ClassId} (hts : ∀ w ∈ lw_tbl, w.before av s = true) (hgv : (Jvm.Cond.and given_1 narrow_1).before av s = true) : ∃ g : (Nat → Nat) × (Nat → Nat), EV (k, g) (fun q : Nat => s.heap.size ≤ q) s := by
  have hA : ∀ a : Nat, a < s.heap.size → ¬ (fun q : Nat => s.heap.size ≤ q) a := fun a h => Nat.not_le.mpr h
  have hq := flat_of_before _ hgv
  obtain ⟨dK, dV, hS, hSe⟩ := vk_Sof (args := av) (s := s) (N := 1) (tm := fun _ => (.string "GatheringCache$Text" 37)) (len := [6]) (byt := [[119, 114, 100, 116, 112, 109]]) (A := fun q : Nat => s.heap.size ≤ q)
    (fun i hi => by obtain rfl : i = 0 := (by omega); decide)
    (fun i hi => hq (.exactly (.string "GatheringCache$Text" 37) "java/lang/String") (by decide +kernel))
    (fun i hi => hq (.eq (.field (.string "GatheringCache$Text" 37) "java/lang/String" "coder" "B") (.int 0)) (by decide +kernel))
    (fun i hi => hq (.arrayOf (.field (.string "GatheringCache$Text" 37) "java/lang/String" "value" "[B") .byte) (by decide +kernel))
    (fun i hi => by obtain rfl : i = 0 := (by omega); exact hq (.eq (.length (.field (.string "GatheringCache$Text" 37) "java/lang/String" "value" "[B")) (.int 6)) (by decide +kernel))
    (fun i hi j hj => by
      obtain rfl : i = 0 := (by omega)
      match j, hj with
      | 0, _ => exact hq (.eq (.elem (.field (.string "GatheringCache$Text" 37) "java/lang/String" "value" "[B") (.int 0)) (.int 119)) (by decide +kernel)
      | 1, _ => exact hq (.eq (.elem (.field (.string "GatheringCache$Text" 37) "java/lang/String" "value" "[B") (.int 1)) (.int 114)) (by decide +kernel)
      | 2, _ => exact hq (.eq (.elem (.field (.string "GatheringCache$Text" 37) "java/lang/String" "value" "[B") (.int 2)) (.int 100)) (by decide +kernel)
      | 3, _ => exact hq (.eq (.elem (.field (.string "GatheringCache$Text" 37) "java/lang/String" "value" "[B") (.int 3)) (.int 116)) (by decide +kernel)
      | 4, _ => exact hq (.eq (.elem (.field (.string "GatheringCache$Text" 37) "java/lang/String" "value" "[B") (.int 4)) (.int 112)) (by decide +kernel)
      | 5, _ => exact hq (.eq (.elem (.field (.string "GatheringCache$Text" 37) "java/lang/String" "value" "[B") (.int 5)) (.int 109)) (by decide +kernel)
      | j + 6, hj => exact absurd hj (show ¬ j + 6 < 6 by omega))
    (fun i j hi hj hij => by omega) hA
  obtain ⟨z1, y1⟩ := st_sref (own := RX4) (k := 190) (tx := "there is no such block") (hts (.stringRef RX4 190 "there is no such block") (by decide +kernel)) (hq (.exactly (.string RX4 190) "java/lang/String") (by decide +kernel))
  obtain ⟨z2, y2⟩ := st_sref (own := RX4) (k := 36) (tx := "the value is out of range") (hts (.stringRef RX4 36 "the value is out of range") (by decide +kernel)) (hq (.exactly (.string RX4 36) "java/lang/String") (by decide +kernel))
  obtain ⟨z3, y3⟩ := st_sref (own := RX4) (k := 194) (tx := "the power is off") (hts (.stringRef RX4 194 "the power is off") (by decide +kernel)) (hq (.exactly (.string RX4 194) "java/lang/String") (by decide +kernel))
  obtain ⟨z4, y4⟩ := st_sref (own := RX4) (k := 192) (tx := "there is no such stripe") (hts (.stringRef RX4 192 "there is no such stripe") (by decide +kernel)) (hq (.exactly (.string RX4 192) "java/lang/String") (by decide +kernel))
  obtain ⟨z5, y5⟩ := st_sref (own := RX4) (k := 196) (tx := "the power is off or the stick is out") (hts (.stringRef RX4 196 "the power is off or the stick is out") (by decide +kernel)) (hq (.exactly (.string RX4 196) "java/lang/String") (by decide +kernel))
  obtain ⟨z6, y6⟩ := st_sref (own := RX4) (k := 69) (tx := "the number of ticks is out of range") (hts (.stringRef RX4 69 "the number of ticks is out of range") (by decide +kernel)) (hq (.exactly (.string RX4 69) "java/lang/String") (by decide +kernel))
  obtain ⟨z7, y7⟩ := st_sref (own := RX4) (k := 84) (tx := "the limit is out of range") (hts (.stringRef RX4 84 "the limit is out of range") (by decide +kernel)) (hq (.exactly (.string RX4 84) "java/lang/String") (by decide +kernel))
  obtain ⟨z8, y8⟩ := st_sref (own := RX4) (k := 99) (tx := "the power is on") (hts (.stringRef RX4 99 "the power is on") (by decide +kernel)) (hq (.exactly (.string RX4 99) "java/lang/String") (by decide +kernel))
  obtain ⟨z9, y9⟩ := st_sref (own := RX4) (k := 105) (tx := "the character code is out of range") (hts (.stringRef RX4 105 "the character code is out of range") (by decide +kernel)) (hq (.exactly (.string RX4 105) "java/lang/String") (by decide +kernel))
  obtain ⟨z10, y10⟩ := st_sref (own := RX4) (k := 110) (tx := "the text is full") (hts (.stringRef RX4 110 "the text is full") (by decide +kernel)) (hq (.exactly (.string RX4 110) "java/lang/String") (by decide +kernel))
  obtain ⟨z11, y11⟩ := st_sref (own := RX4) (k := 119) (tx := "the text is not valid") (hts (.stringRef RX4 119 "the text is not valid") (by decide +kernel)) (hq (.exactly (.string RX4 119) "java/lang/String") (by decide +kernel))
  obtain ⟨z12, y12⟩ := st_sref (own := RX4) (k := 138) (tx := "there is no saved state") (hts (.stringRef RX4 138 "there is no saved state") (by decide +kernel)) (hq (.exactly (.string RX4 138) "java/lang/String") (by decide +kernel))
  obtain ⟨z13, y13⟩ := st_sref (own := RX4) (k := 148) (tx := "there is no such set or line") (hts (.stringRef RX4 148 "there is no such set or line") (by decide +kernel)) (hq (.exactly (.string RX4 148) "java/lang/String") (by decide +kernel))
  obtain ⟨z14, y14⟩ := st_sref (own := RX4) (k := 151) (tx := "there is no such part") (hts (.stringRef RX4 151 "there is no such part") (by decide +kernel)) (hq (.exactly (.string RX4 151) "java/lang/String") (by decide +kernel))
  obtain ⟨z15, y15⟩ := st_sref (own := RX4) (k := 181) (tx := "there is no such count") (hts (.stringRef RX4 181 "there is no such count") (by decide +kernel)) (hq (.exactly (.string RX4 181) "java/lang/String") (by decide +kernel))
  have y0 := vk_R.of (own := RX3) (k := 37) (tx := "wrdtpm") (hts (.stringRef RX3 37 "wrdtpm") (by decide +kernel)) (hSe 0 (by decide))
  refine ⟨(fun k => [dK 0, z1, z2, z3, z4, z5, z6, z7, z8, z9, z10, z11, z12, z13, z14, z15].getD k 0, dV), ?_, ⟨?_, ?_, ?_, ?_⟩, ?_, ?_, ?_, ?_, ?_⟩
  · exact List.forall_mem_cons.mpr ⟨va_Nw.of rfl (hts (.methodLinkNest RX4 9 yX1_init "GatheringCache") (by decide +kernel)), List.forall_mem_cons.mpr ⟨va_Nw.of rfl (hts (.methodLinkNest RX0 17 yX1_init "GatheringCache") (by decide +kernel)), List.forall_mem_cons.mpr ⟨va_Nw.of rfl (hts (.methodLinkNest RX4 25 yX3_init "GatheringCache") (by decide +kernel)), List.forall_mem_cons.mpr ⟨va_Nw.of rfl (hts (.methodLinkNest RX2 63 yX4_stripeOf "GatheringCache") (by decide +kernel)), List.forall_mem_cons.mpr ⟨va_Nw.of rfl (hts (.methodLinkNest RX1 55 yX4_isBlock "GatheringCache") (by decide +kernel)), List.forall_mem_cons.mpr ⟨va_Nw.of rfl (hts (.methodLinkNest RX1 59 yX4_readsToWrite "GatheringCache") (by decide +kernel)), List.forall_mem_cons.mpr ⟨va_Nw.of rfl (hts (.methodLinkNest RX1 63 yX4_writesToWrite "GatheringCache") (by decide +kernel)), List.forall_mem_cons.mpr ⟨va_Nw.of rfl (hts (.methodLinkNest RX1 83 yX4_isLine "GatheringCache") (by decide +kernel)), List.forall_mem_cons.mpr ⟨va_Nw.of rfl (hts (.methodLinkNest RX1 152 yX4_operationsToWrite "GatheringCache") (by decide +kernel)), List.forall_mem_cons.mpr ⟨va_Nw.of rfl (hts (.methodLinkNest RX1 77 yX4_stripeOf "GatheringCache") (by decide +kernel)), List.forall_mem_cons.mpr ⟨va_Nw.of rfl (hts (.methodLinkNest RX2 55 yX4_isLine "GatheringCache") (by decide +kernel)), fm_nil⟩⟩⟩⟩⟩⟩⟩⟩⟩⟩⟩
  · exact List.forall_mem_cons.mpr ⟨va_Nw.of rfl (hts (.castable "java/lang/IndexOutOfBoundsException" "java/lang/IndexOutOfBoundsException") (by decide +kernel)), List.forall_mem_cons.mpr ⟨va_Nw.of rfl (hts (.castable "java/lang/IllegalArgumentException" "java/lang/IllegalArgumentException") (by decide +kernel)), List.forall_mem_cons.mpr ⟨va_Nw.of rfl (hts (.castable "java/lang/IllegalStateException" "java/lang/IllegalStateException") (by decide +kernel)), fm_nil⟩⟩⟩
  · exact List.forall_mem_cons.mpr ⟨va_Nc.of (hq (.not (.castable "java/lang/IllegalArgumentException" "java/lang/IndexOutOfBoundsException")) (by decide +kernel)), List.forall_mem_cons.mpr ⟨va_Nc.of (hq (.not (.castable "java/lang/IllegalStateException" "java/lang/IndexOutOfBoundsException")) (by decide +kernel)), List.forall_mem_cons.mpr ⟨va_Nc.of (hq (.not (.castable "java/lang/IndexOutOfBoundsException" "java/lang/IllegalArgumentException")) (by decide +kernel)), List.forall_mem_cons.mpr ⟨va_Nc.of (hq (.not (.castable "java/lang/IllegalStateException" "java/lang/IllegalArgumentException")) (by decide +kernel)), List.forall_mem_cons.mpr ⟨va_Nc.of (hq (.not (.castable "java/lang/IndexOutOfBoundsException" "java/lang/IllegalStateException")) (by decide +kernel)), List.forall_mem_cons.mpr ⟨va_Nc.of (hq (.not (.castable "java/lang/IllegalArgumentException" "java/lang/IllegalStateException")) (by decide +kernel)), fm_nil⟩⟩⟩⟩⟩⟩
  · exact List.forall_mem_cons.mpr ⟨va_Nw.of rfl (hts (.declares (Bundle.initS "java/lang/RuntimeException")) (by decide +kernel)), List.forall_mem_cons.mpr ⟨va_Nw.of rfl (hts (.declares (Bundle.initS "java/lang/Exception")) (by decide +kernel)), List.forall_mem_cons.mpr ⟨va_Nw.of rfl (hts (.declares (Bundle.initS Bundle.tN)) (by decide +kernel)), fm_nil⟩⟩⟩
  · exact va_AO.of (hts (.arrayOver (.object "GatheringCache$State")) (by decide +kernel))
  · exact vx_Zqof (hts (.laysStatic Bundle.tN "UNASSIGNED_STACK" Bundle.steD) (by decide +kernel)) (hts (.initialized Bundle.tN) (by decide +kernel)) (hq (.isRef (.static Bundle.tN "UNASSIGNED_STACK" Bundle.steD)) (by decide +kernel)) hA
  · exact vx_Zqof (hts (.laysStatic Bundle.tN "SUPPRESSED_SENTINEL" Bundle.listD) (by decide +kernel)) (hts (.initialized Bundle.tN) (by decide +kernel)) (hq (.isRef (.static Bundle.tN "SUPPRESSED_SENTINEL" Bundle.listD)) (by decide +kernel)) hA
  · exact va_Zof (hts (.laysStatic "java/lang/String" "COMPACT_STRINGS" "Z") (by decide +kernel)) (hts (.initialized "java/lang/String") (by decide +kernel)) (va_eqt (hq (.eq (.static "java/lang/String" "COMPACT_STRINGS" "Z") (.int 1)) (by decide +kernel))) hA
  · intro k q hk
    match k, hk with
    | 0, hk => cases hk; exact y0
    | 1, hk => cases hk; exact y1
    | 2, hk => cases hk; exact y2
    | 3, hk => cases hk; exact y3
    | 4, hk => cases hk; exact y4
    | 5, hk => cases hk; exact y5
    | 6, hk => cases hk; exact y6
    | 7, hk => cases hk; exact y7
    | 8, hk => cases hk; exact y8
    | 9, hk => cases hk; exact y9
    | 10, hk => cases hk; exact y10
    | 11, hk => cases hk; exact y11
    | 12, hk => cases hk; exact y12
    | 13, hk => cases hk; exact y13
    | 14, hk => cases hk; exact y14
    | 15, hk => cases hk; exact y15
    | k + 16, hk => simp [strL] at hk
  · exact ⟨fun i hi => by obtain rfl : i = 0 := (by omega); exact hS.1 0 (by decide), fun i j hi hj _ => by omega⟩
set_option maxHeartbeats 8000000 in
set_option maxRecDepth 100000 in
theorem law_start {p : Program} {e : Env} {s : State} {m : MethodId} {below : List Frame} {meth : Method} {c : Code} (l : Launch) (hflags : l.flags = flags0) {b L : Nat} {xs : Nat → Int32} (hL : L ≤ 2048) (C0 : lw_At p s m meth c b L xs) {Sim : Nat → Mem → Mem → Mem → Mem → (Nat → Mem) → Prop} (ok : Oks Sim) {v w : Mem} (hv : pX5_init m0 = some v) (hw : pX2_init m0 = some w) (h0 : Sim 0 v m0 (uS w) m0 (fun _ => uS w)) : W p l e room_1 s m #[Value.ref b] below meth c s.heap [] 0 0 (lw_Z below #[Value.ref b] s) (entryFrame m ([Value.ref b] : List Value).toArray 9) := by
  obtain ⟨hx, hb, hr, hml, hown, hts0, hX, hbl, hlocks, hgv⟩ := id C0
  have hts : ∀ w ∈ wsL_law, w.before #[Value.ref b] s = true := fun w h => hts0 w (wsL_law_in w h)
  obtain ⟨D, k9, hK⟩ := st_K hts0
  obtain ⟨g9, hE⟩ := st_E (k := k9) hts0 hgv
  have hK := hK g9
  generalize (k9, g9) = ca at hE hK
  have hbA : ¬ (fun q : Nat => s.heap.size ≤ q) b := Nat.not_le.mpr hbl
  have C1 : Cx p s m #[Value.ref b] c cL_law 9 wsL_law RL D ca (fun q : Nat => s.heap.size ≤ q) := ⟨⟨hx, hb, hml, hown, hts⟩, hK, fun q h => h, hE⟩
  have hb : c.code = cL_law := hb
  have hP : va_P D vwCl [] s.heap := fun k q h => by simp at h
  have hD : va_D (fun q : Nat => s.heap.size ≤ q) [] := ⟨fun i j p q h => by simp at h, fun k q h => by simp at h⟩
  have hH : HS D (fun q : Nat => s.heap.size ≤ q) s ([] ++ []) s.heap [] := ⟨hP, hD, va_S.rf⟩
  have hl := lv_entry ([.ref b]) (n := 9) (Nat.le_of_ble_eq_true rfl)
  rw [lg_entry_eq]
  generalize (lg_sl ([.ref b]) ++ List.replicate (9 - (lg_sl ([.ref b])).length) Slot.unset).toArray = ls at hl ⊢
  have hl : lv_has ls 9 [(0, .ref b)] := hl
  refine nw_obj (wr := []) (fs := [.null, .null, .null]) (ci := 4) (C := RX4) (T := TX4) (N := 3) C1 hH inlX4 tyX4 tyX4_ok (by decide +kernel : Cond.classLink RL 8 RX4 ∈ wsL_law) (by decide +kernel : Cond.instantiable RX4 3 ∈ wsL_law) (by decide +kernel : Cond.initialized RX4 ∈ wsL_law) rfl (fun j hj => by rcases (show j = 0 ∨ j = 1 ∨ j = 2 by omega) with rfl | rfl | rfl <;> rfl) (Nat.le_of_ble_eq_true rfl) (Nat.le_of_ble_eq_true rfl) dL_law_0 (fun q1 H hH => ?_)
  refine lv_dup hx hb dL_law_3 rfl ?_
  have hH : HS D (fun q : Nat => s.heap.size ≤ q) s ([(q1, .inr (4, [.null, .null, .null]))] ++ []) H [] := hH
  refine cl_n C1 hH hl.1 (mX4_init l D ca q1 [] hw) gL_law_X4_init rfl rfl rfl (by decide +kernel : Cond.initialized RX4 ∈ wsL_law) (by decide +kernel : Cond.methodLink RL 69 yX4_init ∈ wsL_law) (by decide +kernel : Cond.instanceMethod yX4_init ∈ wsL_law) rfl hd_X4_init ⟨Nat.le_of_ble_eq_true rfl, Nat.le_of_ble_eq_true rfl⟩ ⟨Nat.le_of_ble_eq_true rfl, Nat.le_of_ble_eq_true rfl⟩ (rest := [.ref q1]) (Nat.le_of_ble_eq_true rfl) dL_law_4 (fun z H locs hz hN => ?_)
  obtain ⟨a, bb, h, f⟩ := z
  have hz : h 2 = q1 := hz
  subst hz
  have hH : HS D (fun q : Nat => s.heap.size ≤ q) s ([] ++ gW a bb h f ca m0 (uS w) m0 (fun _ => uS w) []) H locs := hN
  refine lv_astore_n (lv' := [(1, .ref (h 2)), (0, .ref b)]) hx hb dL_law_7 rfl hl (by decide) rfl (fun ls hl => ?_)
  refine nw_obj (fs := [.int 0, .null, .int 0, .null, .int 0, .int 0, .int 0, .int 0, .int 0]) (ci := 5) (C := RX5) (T := TX5) (N := 9) C1 hH inlX5 tyX5 tyX5_ok (by decide +kernel : Cond.classLink RL 70 RX5 ∈ wsL_law) (by decide +kernel : Cond.instantiable RX5 9 ∈ wsL_law) (by decide +kernel : Cond.initialized RX5 ∈ wsL_law) rfl (fun j hj => by rcases (show j = 0 ∨ j = 1 ∨ j = 2 ∨ j = 3 ∨ j = 4 ∨ j = 5 ∨ j = 6 ∨ j = 7 ∨ j = 8 by omega) with rfl | rfl | rfl | rfl | rfl | rfl | rfl | rfl | rfl <;> rfl) (Nat.le_of_ble_eq_true rfl) (Nat.le_of_ble_eq_true rfl) dL_law_8 (fun q2 H hH => ?_)
  refine lv_dup hx hb dL_law_11 rfl ?_
  have hH : HS D (fun q : Nat => s.heap.size ≤ q) s ([(q2, .inr (5, [.int 0, .null, .int 0, .null, .int 0, .int 0, .int 0, .int 0, .int 0]))] ++ gW a bb h f ca m0 (uS w) m0 (fun _ => uS w) []) H locs := hH
  refine cl_n C1 hH hl.1 (mX5_init l D ca q2 (gW a bb h f ca m0 (uS w) m0 (fun _ => uS w) []) hv) gL_law_X5_init rfl rfl rfl (by decide +kernel : Cond.initialized RX5 ∈ wsL_law) (by decide +kernel : Cond.methodLink RL 72 yX5_init ∈ wsL_law) (by decide +kernel : Cond.instanceMethod yX5_init ∈ wsL_law) rfl hd_X5_init ⟨Nat.le_of_ble_eq_true rfl, Nat.le_of_ble_eq_true rfl⟩ ⟨Nat.le_of_ble_eq_true rfl, Nat.le_of_ble_eq_true rfl⟩ (rest := [.ref q2]) (Nat.le_of_ble_eq_true rfl) dL_law_12 (fun d H locs hz hN => ?_)
  have hz : d 0 = q2 := hz
  subst hz
  have hH : HS D (fun q : Nat => s.heap.size ≤ q) s ([] ++ (mW d ca v ++ gW a bb h f ca m0 (uS w) m0 (fun _ => uS w) [])) H locs := hN
  refine lv_astore_n (lv' := [(2, .ref (d 0)), (1, .ref (h 2)), (0, .ref b)]) hx hb dL_law_15 rfl hl (by decide) rfl (fun ls hl => ?_)
  refine lv_iconst (v := 1) hx hb dL_law_16 (by decide) ?_
  refine nw_arr (a0 := (1, .inr (.inl (fun _ => 0)))) C1 hH (n := 1) (N' := 1) (atype := .long) 4 rfl rfl (by decide +kernel) (fun _ => rfl) (by decide) (by decide) (Nat.le_of_ble_eq_true rfl) (Nat.le_of_ble_eq_true rfl) (Nat.le_of_ble_eq_true rfl) dL_law_17 (fun o H hH => ?_)
  have hH : HS D (fun q : Nat => s.heap.size ≤ q) s (LW o d a bb h f ca (fun _ => 0) v m0 (uS w) m0 (fun _ => uS w)) H locs := hH
  refine lv_astore_n (lv' := [(3, .ref o), (2, .ref (d 0)), (1, .ref (h 2)), (0, .ref b)]) hx hb dL_law_19 rfl hl (by decide) rfl (fun ls hl => ?_)
  refine lv_iconst (v := 0) hx hb dL_law_20 (by decide) ?_
  refine lv_istore (lv' := [(4, .int 0), (3, .ref o), (2, .ref (d 0)), (1, .ref (h 2)), (0, .ref b)]) hx hb dL_law_21 hl (by decide) rfl (fun ls hl => ?_)
  refine W.base ?_
  refine law_loop C1 (noTrace hflags) hX hbl hbA hL ok (fun H locs ls d1 cells slots hd1 hc hsl hS => ?_) 512 0 s.drawn _ _ H locs ls (fun _ => 0) v m0 (uS w) m0 (fun _ => uS w) rfl ?_ ?_ (Drawn.sameBut.refl s.drawn lw_cs) h0 hH (lv_sub hl [4, 3, 2, 1, 0] rfl)
  · refine W.widen (k := 601024) (n := 7293034) (Nat.le_trans hc (Nat.le_of_ble_eq_true rfl)) (Nat.le_trans hsl (Nat.le_of_ble_eq_true rfl)) ?_
    refine va_forget (fun q hq => hS.2.2 q hq) ?_
    exact lw_ret hd1 hx hb hr hlocks dL_law_1338
  · rfl
  · rfl
