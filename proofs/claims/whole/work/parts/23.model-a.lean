/-! CONTRACTS, by program. -/
def rmX5_thrown : Room := { frames := 0, cells := 0, slots := 0, locals := 0 }
theorem hd_X5_thrown : yX5_thrown.cls = RX5 ∧ yX5_thrown.cls ≠ "java/lang/invoke/MethodHandle" ∧ yX5_thrown.cls ≠ "java/lang/invoke/VarHandle" ∧ (parseMethodDescriptor yX5_thrown.desc).map (fun d => d.parameters.length) = some 0 := by decide +kernel
theorem inX5_thrown_X5 : ∀ w ∈ wsX50, w ∈ wsX5_thrown := by decide +kernel
set_option maxHeartbeats 4000000 in
set_option maxRecDepth 100000 in
theorem mX5_thrown (l : Launch) (D : va_G) (ca : Gp) (a : Nat → Nat) (wr : va_W) (u : Mem) {r : Int32} (hf : pX5_thrown u = some r) : Mi l yX5_thrown wsX5_thrown rmX5_thrown D ca [.ref (a 0)] (mW a ca u ++ wr) (mW a ca u ++ wr) r := by
  refine Mi_of (own := RX5) (cc := cX5_thrown) (nL := 1) (ty := .int) (by decide) rfl rfl rfl rfl (Nat.le_of_ble_eq_true rfl) ?_
  intro p e s m args below meth c Q A ls C0 hH hl hend
  obtain ⟨hx, hb, hml, hown, hts⟩ := id C0.1
  have hl : lv_has ls 1 [(0, .ref (a 0))] := hl
  unfold pX5_thrown at hf
  refine lv_aload_n hx hb dX5_thrown_0 rfl (lv_at hl 0 rfl) ?_
  refine gM_X5_thrown C0 hH inX5_thrown_X5 (by decide +kernel : Cond.fieldLink RX5 16 "GatheringCacheModel" "thrown" "I" ∈ wsX5_thrown) dX5_thrown_1 ?_
  cases hf
  exact hend _ _ _ _ hH rfl dX5_thrown_4
def rmX5_in : Room := { frames := 0, cells := 0, slots := 0, locals := 0 }
theorem hd_X5_in : yX5_in.cls ≠ "java/lang/invoke/MethodHandle" ∧ yX5_in.cls ≠ "java/lang/invoke/VarHandle" ∧ (parseMethodDescriptor yX5_in.desc).map (fun d => d.parameters.length) = some 3 := by decide +kernel
set_option maxHeartbeats 4000000 in
set_option maxRecDepth 100000 in
theorem mX5_in (l : Launch) (D : va_G) (ca : Gp) (w : va_W) (x0 : Int32) (x1 : Int32) (x2 : Int32) {r : Int32} (hf : pX5_in x0 x1 x2 = some r) : Mi l yX5_in wsX5_in rmX5_in D ca [.int x0, .int x1, .int x2] (w) (w) r := by
  refine Mi_of (own := RX5) (cc := cX5_in) (nL := 3) (ty := .boolean) (by decide) rfl rfl rfl rfl (Nat.le_of_ble_eq_true rfl) ?_
  intro p e s m args below meth c Q A ls C0 hH hl hend
  obtain ⟨hx, hb, hml, hown, hts⟩ := id C0.1
  have hl : lv_has ls 3 [(0, .int x0), (1, .int x1), (2, .int x2)] := hl
  have J15 : ∀ (s0 : Int32) (H : Heap) (locs : List Loc) (ls : Array Slot), pX5_in_15 s0 = some r → HS D A s (w) H locs → lv_has ls 3 [] → W p l e rmX5_in s m args below meth c H locs 0 0 Q (F0 m 15 ls [.int s0]) := by
    intro s0 H locs ls hf hH hl
    unfold pX5_in_15 at hf
    obtain ⟨hz, hf⟩ := gd hf
    cases hf
    exact hend _ _ _ _ hH (isz_n hz) dX5_in_15
  have J14 : ∀ (H : Heap) (locs : List Loc) (ls : Array Slot), pX5_in_14  = some r → HS D A s (w) H locs → lv_has ls 3 [] → W p l e rmX5_in s m args below meth c H locs 0 0 Q (F0 m 14 ls []) := by
    intro H locs ls hf hH hl
    unfold pX5_in_14 at hf
    refine lv_iconst (v := 0) hx hb dX5_in_14 (by decide) ?_
    exact J15 _ _ _ _ hf hH (lv_sub hl [] rfl)
  unfold pX5_in at hf
  refine lv_iload_n hx hb dX5_in_0 rfl (lv_at hl 0 rfl) ?_
  refine lv_iload_n hx hb dX5_in_1 rfl (lv_at hl 1 rfl) ?_
  refine lv_icmp_lt (tgt := 14) hx hb dX5_in_2 (by decide) (fun c1 => ?_) (fun c1 => ?_)
  · rw [if_pos c1] at hf
    exact J14 _ _ _ hf hH (lv_sub hl [] rfl)
  · rw [if_neg c1] at hf
    refine lv_iload_n hx hb dX5_in_5 rfl (lv_at hl 0 rfl) ?_
    refine lv_iload_n hx hb dX5_in_6 rfl (lv_at hl 2 rfl) ?_
    refine lv_icmp_gt (tgt := 14) hx hb dX5_in_7 (by decide) (fun c2 => ?_) (fun c2 => ?_)
    · rw [if_pos c2] at hf
      exact J14 _ _ _ hf hH (lv_sub hl [] rfl)
    · rw [if_neg c2] at hf
      refine lv_iconst (v := 1) hx hb dX5_in_10 (by decide) ?_
      refine lv_goto (tgt := 15) hx hb dX5_in_11 (by decide) ?_
      exact J15 _ _ _ _ hf hH (lv_sub hl [] rfl)
def rmX5_holds : Room := { frames := 0, cells := 0, slots := 0, locals := 0 }
theorem hd_X5_holds : yX5_holds.cls = RX5 ∧ yX5_holds.cls ≠ "java/lang/invoke/MethodHandle" ∧ yX5_holds.cls ≠ "java/lang/invoke/VarHandle" ∧ (parseMethodDescriptor yX5_holds.desc).map (fun d => d.parameters.length) = some 1 := by decide +kernel
theorem inX5_holds_X5 : ∀ w ∈ wsX50, w ∈ wsX5_holds := by decide +kernel
set_option maxHeartbeats 4000000 in
set_option maxRecDepth 100000 in
theorem mX5_holds (l : Launch) (D : va_G) (ca : Gp) (a : Nat → Nat) (wr : va_W) (u : Mem) (x1 : Int32) {r : Int32} {u9 : Mem} (hf : pX5_holds u x1 = some (r, u9)) : Mi l yX5_holds wsX5_holds rmX5_holds D ca [.ref (a 0), .int x1] (mW a ca u ++ wr) (mW a ca u9 ++ wr) r := by
  refine Mi_of (own := RX5) (cc := cX5_holds) (nL := 2) (ty := .boolean) (by decide) rfl rfl rfl rfl (Nat.le_of_ble_eq_true rfl) ?_
  intro p e s m args below meth c Q A ls C0 hH hl hend
  obtain ⟨hx, hb, hml, hown, hts⟩ := id C0.1
  have hl : lv_has ls 2 [(0, .ref (a 0)), (1, .int x1)] := hl
  have J14 : ∀ (s0 : Int32) (u : Mem) (H : Heap) (locs : List Loc) (ls : Array Slot), pX5_holds_14 s0 u = some (r, u9) → HS D A s (mW a ca u ++ wr) H locs → lv_has ls 2 [] → W p l e rmX5_holds s m args below meth c H locs 0 0 Q (F0 m 14 ls [.int s0]) := by
    intro s0 u H locs ls hf hH hl
    unfold pX5_holds_14 at hf
    obtain ⟨hz, hf⟩ := gd hf
    cases hf
    exact hend _ _ _ _ hH (isz_n hz) dX5_holds_14
  unfold pX5_holds at hf
  refine lv_aload_n hx hb dX5_holds_0 rfl (lv_at hl 0 rfl) ?_
  refine lv_iload_n hx hb dX5_holds_1 rfl (lv_at hl 1 rfl) ?_
  obtain ⟨u1, h_u1, hf⟩ := bnd hf
  refine pM_X5_thrown C0 hH inX5_holds_X5 h_u1 (by decide +kernel : Cond.fieldLink RX5 16 "GatheringCacheModel" "thrown" "I" ∈ wsX5_holds) dX5_holds_2 (fun H locs hH => ?_)
  refine lv_iload_n hx hb dX5_holds_5 rfl (lv_at hl 1 rfl) ?_
  refine lv_if_ne (tgt := 13) hx hb dX5_holds_6 (by decide) (fun c2 => ?_) (fun c2 => ?_)
  · rw [if_neg c2] at hf
    refine lv_iconst (v := 0) hx hb dX5_holds_13 (by decide) ?_
    exact J14 _ _ _ _ _ hf hH (lv_sub hl [] rfl)
  · rw [if_pos c2] at hf
    refine lv_iconst (v := 1) hx hb dX5_holds_9 (by decide) ?_
    refine lv_goto (tgt := 14) hx hb dX5_holds_10 (by decide) ?_
    exact J14 _ _ _ _ _ hf hH (lv_sub hl [] rfl)
def rmX5_told : Room := { frames := 0, cells := 0, slots := 0, locals := 0 }
theorem hd_X5_told : yX5_told.cls = RX5 ∧ yX5_told.cls ≠ "java/lang/invoke/MethodHandle" ∧ yX5_told.cls ≠ "java/lang/invoke/VarHandle" ∧ (parseMethodDescriptor yX5_told.desc).map (fun d => d.parameters.length) = some 1 := by decide +kernel
theorem inX5_told_X5 : ∀ w ∈ wsX50, w ∈ wsX5_told := by decide +kernel
set_option maxHeartbeats 4000000 in
set_option maxRecDepth 100000 in
theorem mX5_told (l : Launch) (D : va_G) (ca : Gp) (a : Nat → Nat) (wr : va_W) (u : Mem) (x1 : Int32) {r : Int32} {u9 : Mem} (hf : pX5_told u x1 = some (r, u9)) : Mi l yX5_told wsX5_told rmX5_told D ca [.ref (a 0), .int x1] (mW a ca u ++ wr) (mW a ca u9 ++ wr) r := by
  refine Mi_of (own := RX5) (cc := cX5_told) (nL := 2) (ty := .int) (by decide) rfl rfl rfl rfl (Nat.le_of_ble_eq_true rfl) ?_
  intro p e s m args below meth c Q A ls C0 hH hl hend
  obtain ⟨hx, hb, hml, hown, hts⟩ := id C0.1
  have hl : lv_has ls 2 [(0, .ref (a 0)), (1, .int x1)] := hl
  unfold pX5_told at hf
  refine lv_aload_n hx hb dX5_told_0 rfl (lv_at hl 0 rfl) ?_
  refine lv_iconst (v := 0) hx hb dX5_told_1 (by decide) ?_
  obtain ⟨u1, h_u1, hf⟩ := bnd hf
  refine pM_X5_thrown C0 hH inX5_told_X5 h_u1 (by decide +kernel : Cond.fieldLink RX5 16 "GatheringCacheModel" "thrown" "I" ∈ wsX5_told) dX5_told_2 (fun H locs hH => ?_)
  refine lv_iload_n hx hb dX5_told_5 rfl (lv_at hl 1 rfl) ?_
  cases hf
  exact hend _ _ _ _ hH rfl dX5_told_6
def rmX5_isBlock : Room := { frames := 1, cells := 0, slots := 0, locals := 22 }
theorem hd_X5_isBlock : yX5_isBlock.cls ≠ "java/lang/invoke/MethodHandle" ∧ yX5_isBlock.cls ≠ "java/lang/invoke/VarHandle" ∧ (parseMethodDescriptor yX5_isBlock.desc).map (fun d => d.parameters.length) = some 1 := by decide +kernel
set_option maxHeartbeats 4000000 in
set_option maxRecDepth 100000 in
theorem mX5_isBlock (l : Launch) (D : va_G) (ca : Gp) (w : va_W) (x0 : Int32) {r : Int32} (hf : pX5_isBlock x0 = some r) : Mi l yX5_isBlock wsX5_isBlock rmX5_isBlock D ca [.int x0] (w) (w) r := by
  refine Mi_of (own := RX5) (cc := cX5_isBlock) (nL := 1) (ty := .boolean) (by decide) rfl rfl rfl rfl (Nat.le_of_ble_eq_true rfl) ?_
  intro p e s m args below meth c Q A ls C0 hH hl hend
  obtain ⟨hx, hb, hml, hown, hts⟩ := id C0.1
  have hl : lv_has ls 1 [(0, .int x0)] := hl
  unfold pX5_isBlock at hf
  refine lv_iload_n hx hb dX5_isBlock_0 rfl (lv_at hl 0 rfl) ?_
  refine lv_iconst (v := 0) hx hb dX5_isBlock_1 (by decide) ?_
  refine lv_bipush (v := 63) hx hb dX5_isBlock_2 (by decide) ?_
  obtain ⟨y1, h_y1, hf⟩ := bnd hf
  refine cl_iS C0 hH hl.1 (As := [.int x0, .int 0, .int 63]) (rest := []) (mX5_in l D ca (w) x0 0 63 h_y1) gX5_isBlock_X5_in rfl rfl rfl hd_X5_in ⟨Nat.le_of_ble_eq_true rfl, Nat.le_of_ble_eq_true rfl⟩ ⟨Nat.zero_le _, Nat.zero_le _⟩ rfl (Nat.le_of_ble_eq_true rfl) dX5_isBlock_4 (fun H locs hH => ?_)
  obtain ⟨hz, hf⟩ := gd hf
  cases hf
  exact hend _ _ _ _ hH (isz_n hz) dX5_isBlock_7
def rmX5_isStripe : Room := { frames := 1, cells := 0, slots := 0, locals := 22 }
theorem hd_X5_isStripe : yX5_isStripe.cls ≠ "java/lang/invoke/MethodHandle" ∧ yX5_isStripe.cls ≠ "java/lang/invoke/VarHandle" ∧ (parseMethodDescriptor yX5_isStripe.desc).map (fun d => d.parameters.length) = some 1 := by decide +kernel
set_option maxHeartbeats 4000000 in
set_option maxRecDepth 100000 in
theorem mX5_isStripe (l : Launch) (D : va_G) (ca : Gp) (w : va_W) (x0 : Int32) {r : Int32} (hf : pX5_isStripe x0 = some r) : Mi l yX5_isStripe wsX5_isStripe rmX5_isStripe D ca [.int x0] (w) (w) r := by
  refine Mi_of (own := RX5) (cc := cX5_isStripe) (nL := 1) (ty := .boolean) (by decide) rfl rfl rfl rfl (Nat.le_of_ble_eq_true rfl) ?_
  intro p e s m args below meth c Q A ls C0 hH hl hend
  obtain ⟨hx, hb, hml, hown, hts⟩ := id C0.1
  have hl : lv_has ls 1 [(0, .int x0)] := hl
  unfold pX5_isStripe at hf
  refine lv_iload_n hx hb dX5_isStripe_0 rfl (lv_at hl 0 rfl) ?_
  refine lv_iconst (v := 0) hx hb dX5_isStripe_1 (by decide) ?_
  refine lv_bipush (v := 15) hx hb dX5_isStripe_2 (by decide) ?_
  obtain ⟨y1, h_y1, hf⟩ := bnd hf
  refine cl_iS C0 hH hl.1 (As := [.int x0, .int 0, .int 15]) (rest := []) (mX5_in l D ca (w) x0 0 15 h_y1) gX5_isStripe_X5_in rfl rfl rfl hd_X5_in ⟨Nat.le_of_ble_eq_true rfl, Nat.le_of_ble_eq_true rfl⟩ ⟨Nat.zero_le _, Nat.zero_le _⟩ rfl (Nat.le_of_ble_eq_true rfl) dX5_isStripe_4 (fun H locs hH => ?_)
  obtain ⟨hz, hf⟩ := gd hf
  cases hf
  exact hend _ _ _ _ hH (isz_n hz) dX5_isStripe_7
def rmX5_of : Room := { frames := 0, cells := 0, slots := 0, locals := 0 }
theorem hd_X5_of : yX5_of.cls = RX5 ∧ yX5_of.cls ≠ "java/lang/invoke/MethodHandle" ∧ yX5_of.cls ≠ "java/lang/invoke/VarHandle" ∧ (parseMethodDescriptor yX5_of.desc).map (fun d => d.parameters.length) = some 2 := by decide +kernel
theorem inX5_of_X5 : ∀ w ∈ wsX50, w ∈ wsX5_of := by decide +kernel
set_option maxHeartbeats 4000000 in
set_option maxRecDepth 100000 in
theorem mX5_of (l : Launch) (D : va_G) (ca : Gp) (a : Nat → Nat) (wr : va_W) (u : Mem) (x1 : Int32) (x2 : Int32) {r : Int32} (hf : pX5_of u x1 x2 = some r) : Mi l yX5_of wsX5_of rmX5_of D ca [.ref (a 0), .int x1, .int x2] (mW a ca u ++ wr) (mW a ca u ++ wr) r := by
  refine Mi_of (own := RX5) (cc := cX5_of) (nL := 3) (ty := .int) (by decide) rfl rfl rfl rfl (Nat.le_of_ble_eq_true rfl) ?_
  intro p e s m args below meth c Q A ls C0 hH hl hend
  obtain ⟨hx, hb, hml, hown, hts⟩ := id C0.1
  have hl : lv_has ls 3 [(0, .ref (a 0)), (1, .int x1), (2, .int x2)] := hl
  unfold pX5_of at hf
  refine lv_aload_n hx hb dX5_of_0 rfl (lv_at hl 0 rfl) ?_
  refine gM_X5_s C0 hH inX5_of_X5 (by decide +kernel : Cond.fieldLink RX5 7 "GatheringCacheModel" "s" "[I" ∈ wsX5_of) dX5_of_1 ?_
  refine lv_sipush (v := 271) hx hb dX5_of_4 (by decide) ?_
  refine lv_iconst (v := 5) hx hb dX5_of_7 (by decide) ?_
  refine lv_iload_n hx hb dX5_of_8 rfl (lv_at hl 1 rfl) ?_
  refine lv_imul hx hb dX5_of_9 ?_
  refine lv_iadd hx hb dX5_of_10 ?_
  refine lv_iload_n hx hb dX5_of_11 rfl (lv_at hl 2 rfl) ?_
  refine lv_iadd hx hb dX5_of_12 ?_
  obtain ⟨y1, h_y1, hf⟩ := bnd hf
  refine lM_s C0 hH h_y1 dX5_of_13 ?_
  cases hf
  exact hend _ _ _ _ hH rfl dX5_of_14
def rmX5_lay : Room := { frames := 0, cells := 0, slots := 0, locals := 0 }
theorem hd_X5_lay : yX5_lay.cls = RX5 ∧ yX5_lay.cls ≠ "java/lang/invoke/MethodHandle" ∧ yX5_lay.cls ≠ "java/lang/invoke/VarHandle" ∧ (parseMethodDescriptor yX5_lay.desc).map (fun d => d.parameters.length) = some 3 := by decide +kernel
theorem inX5_lay_X5 : ∀ w ∈ wsX50, w ∈ wsX5_lay := by decide +kernel
set_option maxHeartbeats 4000000 in
set_option maxRecDepth 100000 in
theorem mX5_lay (l : Launch) (D : va_G) (ca : Gp) (a : Nat → Nat) (wr : va_W) (u : Mem) (x1 : Int32) (x2 : Int32) (x3 : Int32) {u9 : Mem} (hf : pX5_lay u x1 x2 x3 = some u9) : Mv l yX5_lay wsX5_lay rmX5_lay D ca [.ref (a 0), .int x1, .int x2, .int x3] (mW a ca u ++ wr) (mW a ca u9 ++ wr) := by
  refine Mv_of (own := RX5) (cc := cX5_lay) (nL := 4) (by decide) rfl rfl rfl rfl (Nat.le_of_ble_eq_true rfl) ?_
  intro p e s m args below meth c Q A ls C0 hH hl hend
  obtain ⟨hx, hb, hml, hown, hts⟩ := id C0.1
  have hl : lv_has ls 4 [(0, .ref (a 0)), (1, .int x1), (2, .int x2), (3, .int x3)] := hl
  unfold pX5_lay at hf
  refine lv_aload_n hx hb dX5_lay_0 rfl (lv_at hl 0 rfl) ?_
  refine gM_X5_s C0 hH inX5_lay_X5 (by decide +kernel : Cond.fieldLink RX5 7 "GatheringCacheModel" "s" "[I" ∈ wsX5_lay) dX5_lay_1 ?_
  refine lv_sipush (v := 271) hx hb dX5_lay_4 (by decide) ?_
  refine lv_iconst (v := 5) hx hb dX5_lay_7 (by decide) ?_
  refine lv_iload_n hx hb dX5_lay_8 rfl (lv_at hl 1 rfl) ?_
  refine lv_imul hx hb dX5_lay_9 ?_
  refine lv_iadd hx hb dX5_lay_10 ?_
  refine lv_iload_n hx hb dX5_lay_11 rfl (lv_at hl 2 rfl) ?_
  refine lv_iadd hx hb dX5_lay_12 ?_
  refine lv_iload_n hx hb dX5_lay_13 rfl (lv_at hl 3 rfl) ?_
  obtain ⟨u1, h_u1, hf⟩ := bnd hf
  refine sM_s C0 hH h_u1 dX5_lay_14 (fun H locs hH => ?_)
  cases hf
  exact hend _ _ _ _ hH dX5_lay_15
def rmX5_isEmpty : Room := { frames := 1, cells := 0, slots := 0, locals := 22 }
theorem hd_X5_isEmpty : yX5_isEmpty.cls = RX5 ∧ yX5_isEmpty.cls ≠ "java/lang/invoke/MethodHandle" ∧ yX5_isEmpty.cls ≠ "java/lang/invoke/VarHandle" ∧ (parseMethodDescriptor yX5_isEmpty.desc).map (fun d => d.parameters.length) = some 1 := by decide +kernel
set_option maxHeartbeats 4000000 in
set_option maxRecDepth 100000 in
theorem mX5_isEmpty (l : Launch) (D : va_G) (ca : Gp) (a : Nat → Nat) (wr : va_W) (u : Mem) (x1 : Int32) {r : Int32} (hf : pX5_isEmpty u x1 = some r) : Mi l yX5_isEmpty wsX5_isEmpty rmX5_isEmpty D ca [.ref (a 0), .int x1] (mW a ca u ++ wr) (mW a ca u ++ wr) r := by
  refine Mi_of (own := RX5) (cc := cX5_isEmpty) (nL := 2) (ty := .boolean) (by decide) rfl rfl rfl rfl (Nat.le_of_ble_eq_true rfl) ?_
  intro p e s m args below meth c Q A ls C0 hH hl hend
  obtain ⟨hx, hb, hml, hown, hts⟩ := id C0.1
  have hl : lv_has ls 2 [(0, .ref (a 0)), (1, .int x1)] := hl
  have J15 : ∀ (s0 : Int32) (H : Heap) (locs : List Loc) (ls : Array Slot), pX5_isEmpty_15 u s0 = some r → HS D A s (mW a ca u ++ wr) H locs → lv_has ls 2 [] → W p l e rmX5_isEmpty s m args below meth c H locs 0 0 Q (F0 m 15 ls [.int s0]) := by
    intro s0 H locs ls hf hH hl
    unfold pX5_isEmpty_15 at hf
    obtain ⟨hz, hf⟩ := gd hf
    cases hf
    exact hend _ _ _ _ hH (isz_n hz) dX5_isEmpty_15
  unfold pX5_isEmpty at hf
  refine lv_aload_n hx hb dX5_isEmpty_0 rfl (lv_at hl 0 rfl) ?_
  refine lv_iload_n hx hb dX5_isEmpty_1 rfl (lv_at hl 1 rfl) ?_
  refine lv_iconst (v := 0) hx hb dX5_isEmpty_2 (by decide) ?_
  obtain ⟨y1, h_y1, hf⟩ := bnd hf
  refine cl_iV C0 hH hl.1 (As := [.int x1, .int 0]) (rest := []) (mX5_of l D ca a wr u x1 0 h_y1) gX5_isEmpty_X5_of rfl rfl rfl hd_X5_of ⟨Nat.le_of_ble_eq_true rfl, Nat.le_of_ble_eq_true rfl⟩ ⟨Nat.zero_le _, Nat.zero_le _⟩ (vM_X5 C0 hH) rfl (Nat.le_of_ble_eq_true rfl) dX5_isEmpty_3 (fun H locs hH => ?_)
  refine lv_iconst (v := (-1)) hx hb dX5_isEmpty_6 (by decide) ?_
  refine lv_icmp_ne (tgt := 14) hx hb dX5_isEmpty_7 (by decide) (fun c2 => ?_) (fun c2 => ?_)
  · rw [if_neg c2] at hf
    refine lv_iconst (v := 0) hx hb dX5_isEmpty_14 (by decide) ?_
    exact J15 _ _ _ _ hf hH (lv_sub hl [] rfl)
  · rw [if_pos c2] at hf
    refine lv_iconst (v := 1) hx hb dX5_isEmpty_10 (by decide) ?_
    refine lv_goto (tgt := 15) hx hb dX5_isEmpty_11 (by decide) ?_
    exact J15 _ _ _ _ hf hH (lv_sub hl [] rfl)
def rmX5_isDirtyOf : Room := { frames := 2, cells := 0, slots := 0, locals := 43 }
theorem hd_X5_isDirtyOf : yX5_isDirtyOf.cls = RX5 ∧ yX5_isDirtyOf.cls ≠ "java/lang/invoke/MethodHandle" ∧ yX5_isDirtyOf.cls ≠ "java/lang/invoke/VarHandle" ∧ (parseMethodDescriptor yX5_isDirtyOf.desc).map (fun d => d.parameters.length) = some 2 := by decide +kernel
set_option maxHeartbeats 4000000 in
set_option maxRecDepth 100000 in
theorem mX5_isDirtyOf (l : Launch) (D : va_G) (ca : Gp) (a : Nat → Nat) (wr : va_W) (u : Mem) (x1 : Int32) (x2 : Int32) {r : Int32} (hf : pX5_isDirtyOf u x1 x2 = some r) : Mi l yX5_isDirtyOf wsX5_isDirtyOf rmX5_isDirtyOf D ca [.ref (a 0), .int x1, .int x2] (mW a ca u ++ wr) (mW a ca u ++ wr) r := by
  refine Mi_of (own := RX5) (cc := cX5_isDirtyOf) (nL := 3) (ty := .boolean) (by decide) rfl rfl rfl rfl (Nat.le_of_ble_eq_true rfl) ?_
  intro p e s m args below meth c Q A ls C0 hH hl hend
  obtain ⟨hx, hb, hml, hown, hts⟩ := id C0.1
  have hl : lv_has ls 3 [(0, .ref (a 0)), (1, .int x1), (2, .int x2)] := hl
  have J35 : ∀ (s0 : Int32) (H : Heap) (locs : List Loc) (ls : Array Slot), pX5_isDirtyOf_35 u s0 = some r → HS D A s (mW a ca u ++ wr) H locs → lv_has ls 3 [] → W p l e rmX5_isDirtyOf s m args below meth c H locs 0 0 Q (F0 m 35 ls [.int s0]) := by
    intro s0 H locs ls hf hH hl
    unfold pX5_isDirtyOf_35 at hf
    obtain ⟨hz, hf⟩ := gd hf
    cases hf
    exact hend _ _ _ _ hH (isz_n hz) dX5_isDirtyOf_35
  have J34 : ∀ (H : Heap) (locs : List Loc) (ls : Array Slot), pX5_isDirtyOf_34 u  = some r → HS D A s (mW a ca u ++ wr) H locs → lv_has ls 3 [] → W p l e rmX5_isDirtyOf s m args below meth c H locs 0 0 Q (F0 m 34 ls []) := by
    intro H locs ls hf hH hl
    unfold pX5_isDirtyOf_34 at hf
    refine lv_iconst (v := 0) hx hb dX5_isDirtyOf_34 (by decide) ?_
    exact J35 _ _ _ _ hf hH (lv_sub hl [] rfl)
  unfold pX5_isDirtyOf at hf
  refine lv_aload_n hx hb dX5_isDirtyOf_0 rfl (lv_at hl 0 rfl) ?_
  refine lv_iload_n hx hb dX5_isDirtyOf_1 rfl (lv_at hl 1 rfl) ?_
  obtain ⟨y1, h_y1, hf⟩ := bnd hf
  refine cl_iV C0 hH hl.1 (As := [.int x1]) (rest := []) (mX5_isEmpty l D ca a wr u x1 h_y1) gX5_isDirtyOf_X5_isEmpty rfl rfl rfl hd_X5_isEmpty ⟨Nat.le_of_ble_eq_true rfl, Nat.le_of_ble_eq_true rfl⟩ ⟨Nat.zero_le _, Nat.zero_le _⟩ (vM_X5 C0 hH) rfl (Nat.le_of_ble_eq_true rfl) dX5_isDirtyOf_2 (fun H locs hH => ?_)
  refine lv_if_ne (tgt := 34) hx hb dX5_isDirtyOf_5 (by decide) (fun c2 => ?_) (fun c2 => ?_)
  · rw [if_neg c2] at hf
    exact J34 _ _ _ hf hH (lv_sub hl [] rfl)
  · rw [if_pos c2] at hf
    refine lv_aload_n hx hb dX5_isDirtyOf_8 rfl (lv_at hl 0 rfl) ?_
    refine lv_iload_n hx hb dX5_isDirtyOf_9 rfl (lv_at hl 1 rfl) ?_
    refine lv_iconst (v := 4) hx hb dX5_isDirtyOf_10 (by decide) ?_
    obtain ⟨y3, h_y3, hf⟩ := bnd hf
    refine cl_iV C0 hH hl.1 (As := [.int x1, .int 4]) (rest := []) (mX5_of l D ca a wr u x1 4 h_y3) gX5_isDirtyOf_X5_of rfl rfl rfl hd_X5_of ⟨Nat.le_of_ble_eq_true rfl, Nat.le_of_ble_eq_true rfl⟩ ⟨Nat.zero_le _, Nat.zero_le _⟩ (vM_X5 C0 hH) rfl (Nat.le_of_ble_eq_true rfl) dX5_isDirtyOf_11 (fun H locs hH => ?_)
    refine lv_iconst (v := 1) hx hb dX5_isDirtyOf_14 (by decide) ?_
    refine lv_icmp_ne (tgt := 34) hx hb dX5_isDirtyOf_15 (by decide) (fun c4 => ?_) (fun c4 => ?_)
    · rw [if_neg c4] at hf
      exact J34 _ _ _ hf hH (lv_sub hl [] rfl)
    · rw [if_pos c4] at hf
      refine lv_aload_n hx hb dX5_isDirtyOf_18 rfl (lv_at hl 0 rfl) ?_
      refine lv_iload_n hx hb dX5_isDirtyOf_19 rfl (lv_at hl 1 rfl) ?_
      refine lv_iconst (v := 0) hx hb dX5_isDirtyOf_20 (by decide) ?_
      obtain ⟨y5, h_y5, hf⟩ := bnd hf
      refine cl_iV C0 hH hl.1 (As := [.int x1, .int 0]) (rest := []) (mX5_of l D ca a wr u x1 0 h_y5) gX5_isDirtyOf_X5_of rfl rfl rfl hd_X5_of ⟨Nat.le_of_ble_eq_true rfl, Nat.le_of_ble_eq_true rfl⟩ ⟨Nat.zero_le _, Nat.zero_le _⟩ (vM_X5 C0 hH) rfl (Nat.le_of_ble_eq_true rfl) dX5_isDirtyOf_21 (fun H locs hH => ?_)
      refine lv_iconst (v := 4) hx hb dX5_isDirtyOf_24 (by decide) ?_
      refine lv_idiv hx hb dX5_isDirtyOf_25 (by decide) ?_
      refine lv_iload_n hx hb dX5_isDirtyOf_26 rfl (lv_at hl 2 rfl) ?_
      refine lv_icmp_ne (tgt := 34) hx hb dX5_isDirtyOf_27 (by decide) (fun c6 => ?_) (fun c6 => ?_)
      · rw [if_neg c6] at hf
        exact J34 _ _ _ hf hH (lv_sub hl [] rfl)
      · rw [if_pos c6] at hf
        refine lv_iconst (v := 1) hx hb dX5_isDirtyOf_30 (by decide) ?_
        refine lv_goto (tgt := 35) hx hb dX5_isDirtyOf_31 (by decide) ?_
        exact J35 _ _ _ _ hf hH (lv_sub hl [] rfl)
def rmX5_lineOf : Room := { frames := 1, cells := 0, slots := 0, locals := 22 }
theorem hd_X5_lineOf : yX5_lineOf.cls = RX5 ∧ yX5_lineOf.cls ≠ "java/lang/invoke/MethodHandle" ∧ yX5_lineOf.cls ≠ "java/lang/invoke/VarHandle" ∧ (parseMethodDescriptor yX5_lineOf.desc).map (fun d => d.parameters.length) = some 1 := by decide +kernel
set_option maxHeartbeats 4000000 in
set_option maxRecDepth 100000 in
theorem mX5_lineOf (l : Launch) (D : va_G) (ca : Gp) (a : Nat → Nat) (wr : va_W) (u : Mem) (x1 : Int32) {r : Int32} (hf : pX5_lineOf u x1 = some r) : Mi l yX5_lineOf wsX5_lineOf rmX5_lineOf D ca [.ref (a 0), .int x1] (mW a ca u ++ wr) (mW a ca u ++ wr) r := by
  refine Mi_of (own := RX5) (cc := cX5_lineOf) (nL := 3) (ty := .int) (by decide) rfl rfl rfl rfl (Nat.le_of_ble_eq_true rfl) ?_
  intro p e s m args below meth c Q A ls C0 hH hl hend
  obtain ⟨hx, hb, hml, hown, hts⟩ := id C0.1
  have hl : lv_has ls 3 [(0, .ref (a 0)), (1, .int x1)] := hl
  have J2 : ∀ (x1 : Int32) (n : Nat) (x2 : Int32) (H : Heap) (locs : List Loc) (ls : Array Slot), pX5_lineOf_2 u x1 n x2 = some r → HS D A s (mW a ca u ++ wr) H locs → lv_has ls 3 [(0, .ref (a 0)), (1, .int x1), (2, .int x2)] → W p l e rmX5_lineOf s m args below meth c H locs 0 0 Q (F0 m 2 ls []) := by
    intro x1 n
    induction n with
    | zero => intro x2 H locs ls hf; cases hf
    | succ n ih =>
      intro x2 H locs ls hf hH hl
      have hf : pX5_lineOf_2b u x1 (pX5_lineOf_2 u x1 n) x2 = some r := hf
      unfold pX5_lineOf_2b at hf
      refine lv_iload_n hx hb dX5_lineOf_2 rfl (lv_at hl 2 rfl) ?_
      refine lv_bipush (v := 12) hx hb dX5_lineOf_3 (by decide) ?_
      refine lv_icmp_ge (tgt := 26) hx hb dX5_lineOf_5 (by decide) (fun c101 => ?_) (fun c101 => ?_)
      · rw [if_pos c101] at hf
        refine lv_iconst (v := (-1)) hx hb dX5_lineOf_26 (by decide) ?_
        cases hf
        exact hend _ _ _ _ hH rfl dX5_lineOf_27
      · rw [if_neg c101] at hf
        refine lv_aload_n hx hb dX5_lineOf_8 rfl (lv_at hl 0 rfl) ?_
        refine lv_iload_n hx hb dX5_lineOf_9 rfl (lv_at hl 2 rfl) ?_
        refine lv_iconst (v := 0) hx hb dX5_lineOf_10 (by decide) ?_
        obtain ⟨y102, h_y102, hf⟩ := bnd hf
        refine cl_iV C0 hH hl.1 (As := [.int x2, .int 0]) (rest := []) (mX5_of l D ca a wr u x2 0 h_y102) gX5_lineOf_X5_of rfl rfl rfl hd_X5_of ⟨Nat.le_of_ble_eq_true rfl, Nat.le_of_ble_eq_true rfl⟩ ⟨Nat.zero_le _, Nat.zero_le _⟩ (vM_X5 C0 hH) rfl (Nat.le_of_ble_eq_true rfl) dX5_lineOf_11 (fun H locs hH => ?_)
        refine lv_iload_n hx hb dX5_lineOf_14 rfl (lv_at hl 1 rfl) ?_
        refine lv_icmp_ne (tgt := 20) hx hb dX5_lineOf_15 (by decide) (fun c103 => ?_) (fun c103 => ?_)
        · rw [if_neg c103] at hf
          refine lv_iinc (v := (x2 + 1)) (lv' := [(2, .int (x2 + 1)), (0, .ref (a 0)), (1, .int x1)]) hx hb dX5_lineOf_20 hl (k := 2) rfl rfl (by decide) rfl (fun ls hl => ?_)
          refine lv_goto (tgt := 2) hx hb dX5_lineOf_23 (by decide) ?_
          exact ih _ _ _ _ hf hH (lv_sub hl [1, 2, 0] rfl)
        · rw [if_pos c103] at hf
          refine lv_iload_n hx hb dX5_lineOf_18 rfl (lv_at hl 2 rfl) ?_
          cases hf
          exact hend _ _ _ _ hH rfl dX5_lineOf_19
  unfold pX5_lineOf at hf
  refine lv_iconst (v := 0) hx hb dX5_lineOf_0 (by decide) ?_
  refine lv_istore_n (lv' := [(2, .int 0), (0, .ref (a 0)), (1, .int x1)]) hx hb dX5_lineOf_1 rfl hl (by decide) rfl (fun ls hl => ?_)
  exact J2 _ FU _ _ _ _ hf hH (lv_sub hl [1, 2, 0] rfl)
def rmX5_dirtyIn : Room := { frames := 3, cells := 0, slots := 0, locals := 65 }
theorem hd_X5_dirtyIn : yX5_dirtyIn.cls = RX5 ∧ yX5_dirtyIn.cls ≠ "java/lang/invoke/MethodHandle" ∧ yX5_dirtyIn.cls ≠ "java/lang/invoke/VarHandle" ∧ (parseMethodDescriptor yX5_dirtyIn.desc).map (fun d => d.parameters.length) = some 1 := by decide +kernel
set_option maxHeartbeats 4000000 in
set_option maxRecDepth 100000 in
theorem mX5_dirtyIn (l : Launch) (D : va_G) (ca : Gp) (a : Nat → Nat) (wr : va_W) (u : Mem) (x1 : Int32) {r : Int32} (hf : pX5_dirtyIn u x1 = some r) : Mi l yX5_dirtyIn wsX5_dirtyIn rmX5_dirtyIn D ca [.ref (a 0), .int x1] (mW a ca u ++ wr) (mW a ca u ++ wr) r := by
  refine Mi_of (own := RX5) (cc := cX5_dirtyIn) (nL := 4) (ty := .int) (by decide) rfl rfl rfl rfl (Nat.le_of_ble_eq_true rfl) ?_
  intro p e s m args below meth c Q A ls C0 hH hl hend
  obtain ⟨hx, hb, hml, hown, hts⟩ := id C0.1
  have hl : lv_has ls 4 [(0, .ref (a 0)), (1, .int x1)] := hl
  have J4 : ∀ (x1 : Int32) (n : Nat) (x2 : Int32) (x3 : Int32) (H : Heap) (locs : List Loc) (ls : Array Slot), pX5_dirtyIn_4 u x1 n x2 x3 = some r → HS D A s (mW a ca u ++ wr) H locs → lv_has ls 4 [(0, .ref (a 0)), (1, .int x1), (2, .int x2), (3, .int x3)] → W p l e rmX5_dirtyIn s m args below meth c H locs 0 0 Q (F0 m 4 ls []) := by
    intro x1 n
    induction n with
    | zero => intro x2 x3 H locs ls hf; cases hf
    | succ n ih =>
      intro x2 x3 H locs ls hf hH hl
      have hf : pX5_dirtyIn_4b u x1 (pX5_dirtyIn_4 u x1 n) x2 x3 = some r := hf
      have J25 : ∀ (x3 : Int32) (s0 : Int32) (s1 : Int32) (H : Heap) (locs : List Loc) (ls : Array Slot), pX5_dirtyIn_25 u x1 (pX5_dirtyIn_4 u x1 n) x3 s0 s1 = some r → HS D A s (mW a ca u ++ wr) H locs → lv_has ls 4 [(0, .ref (a 0)), (1, .int x1), (3, .int x3)] → W p l e rmX5_dirtyIn s m args below meth c H locs 0 0 Q (F0 m 25 ls [.int s1, .int s0]) := by
        intro x3 s0 s1 H locs ls hf hH hl
        unfold pX5_dirtyIn_25 at hf
        refine lv_iadd hx hb dX5_dirtyIn_25 ?_
        refine lv_istore_n (lv' := [(2, .int (s0 + s1)), (0, .ref (a 0)), (1, .int x1), (3, .int x3)]) hx hb dX5_dirtyIn_26 rfl hl (by decide) rfl (fun ls hl => ?_)
        refine lv_iinc (v := (x3 + 1)) (lv' := [(3, .int (x3 + 1)), (2, .int (s0 + s1)), (0, .ref (a 0)), (1, .int x1)]) hx hb dX5_dirtyIn_27 hl (k := 3) rfl rfl (by decide) rfl (fun ls hl => ?_)
        refine lv_goto (tgt := 4) hx hb dX5_dirtyIn_30 (by decide) ?_
        exact ih _ _ _ _ _ hf hH (lv_sub hl [2, 3, 1, 0] rfl)
      unfold pX5_dirtyIn_4b at hf
      refine lv_iload_n hx hb dX5_dirtyIn_4 rfl (lv_at hl 3 rfl) ?_
      refine lv_bipush (v := 12) hx hb dX5_dirtyIn_5 (by decide) ?_
      refine lv_icmp_ge (tgt := 33) hx hb dX5_dirtyIn_7 (by decide) (fun c101 => ?_) (fun c101 => ?_)
      · rw [if_pos c101] at hf
        refine lv_iload_n hx hb dX5_dirtyIn_33 rfl (lv_at hl 2 rfl) ?_
        cases hf
        exact hend _ _ _ _ hH rfl dX5_dirtyIn_34
      · rw [if_neg c101] at hf
        refine lv_iload_n hx hb dX5_dirtyIn_10 rfl (lv_at hl 2 rfl) ?_
        refine lv_aload_n hx hb dX5_dirtyIn_11 rfl (lv_at hl 0 rfl) ?_
        refine lv_iload_n hx hb dX5_dirtyIn_12 rfl (lv_at hl 3 rfl) ?_
        refine lv_iload_n hx hb dX5_dirtyIn_13 rfl (lv_at hl 1 rfl) ?_
        obtain ⟨y102, h_y102, hf⟩ := bnd hf
        refine cl_iV C0 hH hl.1 (As := [.int x3, .int x1]) (rest := [.int x2]) (mX5_isDirtyOf l D ca a wr u x3 x1 h_y102) gX5_dirtyIn_X5_isDirtyOf rfl rfl rfl hd_X5_isDirtyOf ⟨Nat.le_of_ble_eq_true rfl, Nat.le_of_ble_eq_true rfl⟩ ⟨Nat.zero_le _, Nat.zero_le _⟩ (vM_X5 C0 hH) rfl (Nat.le_of_ble_eq_true rfl) dX5_dirtyIn_14 (fun H locs hH => ?_)
        refine lv_if_eq (tgt := 24) hx hb dX5_dirtyIn_17 (by decide) (fun c103 => ?_) (fun c103 => ?_)
        · rw [if_pos c103] at hf
          refine lv_iconst (v := 0) hx hb dX5_dirtyIn_24 (by decide) ?_
          exact J25 _ _ _ _ _ _ hf hH (lv_sub hl [0, 1, 3] rfl)
        · rw [if_neg c103] at hf
          refine lv_iconst (v := 1) hx hb dX5_dirtyIn_20 (by decide) ?_
          refine lv_goto (tgt := 25) hx hb dX5_dirtyIn_21 (by decide) ?_
          exact J25 _ _ _ _ _ _ hf hH (lv_sub hl [0, 1, 3] rfl)
  unfold pX5_dirtyIn at hf
  refine lv_iconst (v := 0) hx hb dX5_dirtyIn_0 (by decide) ?_
  refine lv_istore_n (lv' := [(2, .int 0), (0, .ref (a 0)), (1, .int x1)]) hx hb dX5_dirtyIn_1 rfl hl (by decide) rfl (fun ls hl => ?_)
  refine lv_iconst (v := 0) hx hb dX5_dirtyIn_2 (by decide) ?_
  refine lv_istore_n (lv' := [(3, .int 0), (2, .int 0), (0, .ref (a 0)), (1, .int x1)]) hx hb dX5_dirtyIn_3 rfl hl (by decide) rfl (fun ls hl => ?_)
  exact J4 _ FU _ _ _ _ _ hf hH (lv_sub hl [2, 3, 1, 0] rfl)
def rmX5_readsFor : Room := { frames := 0, cells := 0, slots := 0, locals := 0 }
theorem hd_X5_readsFor : yX5_readsFor.cls ≠ "java/lang/invoke/MethodHandle" ∧ yX5_readsFor.cls ≠ "java/lang/invoke/VarHandle" ∧ (parseMethodDescriptor yX5_readsFor.desc).map (fun d => d.parameters.length) = some 1 := by decide +kernel
set_option maxHeartbeats 4000000 in
set_option maxRecDepth 100000 in
theorem mX5_readsFor (l : Launch) (D : va_G) (ca : Gp) (w : va_W) (x0 : Int32) {r : Int32} (hf : pX5_readsFor x0 = some r) : Mi l yX5_readsFor wsX5_readsFor rmX5_readsFor D ca [.int x0] (w) (w) r := by
  refine Mi_of (own := RX5) (cc := cX5_readsFor) (nL := 1) (ty := .int) (by decide) rfl rfl rfl rfl (Nat.le_of_ble_eq_true rfl) ?_
  intro p e s m args below meth c Q A ls C0 hH hl hend
  obtain ⟨hx, hb, hml, hown, hts⟩ := id C0.1
  have hl : lv_has ls 1 [(0, .int x0)] := hl
  have J19 : ∀ (s0 : Int32) (H : Heap) (locs : List Loc) (ls : Array Slot), pX5_readsFor_19 s0 = some r → HS D A s (w) H locs → lv_has ls 1 [] → W p l e rmX5_readsFor s m args below meth c H locs 0 0 Q (F0 m 19 ls [.int s0]) := by
    intro s0 H locs ls hf hH hl
    unfold pX5_readsFor_19 at hf
    cases hf
    exact hend _ _ _ _ hH rfl dX5_readsFor_19
  unfold pX5_readsFor at hf
  refine lv_iload_n hx hb dX5_readsFor_0 rfl (lv_at hl 0 rfl) ?_
  refine lv_iconst (v := 4) hx hb dX5_readsFor_1 (by decide) ?_
  refine lv_icmp_ne (tgt := 9) hx hb dX5_readsFor_2 (by decide) (fun c1 => ?_) (fun c1 => ?_)
  · rw [if_neg c1] at hf
    refine lv_iload_n hx hb dX5_readsFor_9 rfl (lv_at hl 0 rfl) ?_
    refine lv_iconst (v := 3) hx hb dX5_readsFor_10 (by decide) ?_
    refine lv_icmp_ne (tgt := 18) hx hb dX5_readsFor_11 (by decide) (fun c2 => ?_) (fun c2 => ?_)
    · rw [if_neg c2] at hf
      refine lv_iconst (v := 2) hx hb dX5_readsFor_18 (by decide) ?_
      exact J19 _ _ _ _ hf hH (lv_sub hl [] rfl)
    · rw [if_pos c2] at hf
      refine lv_iconst (v := 1) hx hb dX5_readsFor_14 (by decide) ?_
      refine lv_goto (tgt := 19) hx hb dX5_readsFor_15 (by decide) ?_
      exact J19 _ _ _ _ hf hH (lv_sub hl [] rfl)
  · rw [if_pos c1] at hf
    refine lv_iconst (v := 0) hx hb dX5_readsFor_5 (by decide) ?_
    refine lv_goto (tgt := 19) hx hb dX5_readsFor_6 (by decide) ?_
    exact J19 _ _ _ _ hf hH (lv_sub hl [] rfl)
def rmX5_cost : Room := { frames := 1, cells := 0, slots := 0, locals := 20 }
theorem hd_X5_cost : yX5_cost.cls ≠ "java/lang/invoke/MethodHandle" ∧ yX5_cost.cls ≠ "java/lang/invoke/VarHandle" ∧ (parseMethodDescriptor yX5_cost.desc).map (fun d => d.parameters.length) = some 1 := by decide +kernel
set_option maxHeartbeats 4000000 in
set_option maxRecDepth 100000 in
theorem mX5_cost (l : Launch) (D : va_G) (ca : Gp) (w : va_W) (x0 : Int32) {r : Int32} (hf : pX5_cost x0 = some r) : Mi l yX5_cost wsX5_cost rmX5_cost D ca [.int x0] (w) (w) r := by
  refine Mi_of (own := RX5) (cc := cX5_cost) (nL := 1) (ty := .int) (by decide) rfl rfl rfl rfl (Nat.le_of_ble_eq_true rfl) ?_
  intro p e s m args below meth c Q A ls C0 hH hl hend
  obtain ⟨hx, hb, hml, hown, hts⟩ := id C0.1
  have hl : lv_has ls 1 [(0, .int x0)] := hl
  have J16 : ∀ (s0 : Int32) (H : Heap) (locs : List Loc) (ls : Array Slot), pX5_cost_16 s0 = some r → HS D A s (w) H locs → lv_has ls 1 [] → W p l e rmX5_cost s m args below meth c H locs 0 0 Q (F0 m 16 ls [.int s0]) := by
    intro s0 H locs ls hf hH hl
    unfold pX5_cost_16 at hf
    cases hf
    exact hend _ _ _ _ hH rfl dX5_cost_16
  unfold pX5_cost at hf
  refine lv_iload_n hx hb dX5_cost_0 rfl (lv_at hl 0 rfl) ?_
  refine lv_if_ne (tgt := 8) hx hb dX5_cost_1 (by decide) (fun c1 => ?_) (fun c1 => ?_)
  · rw [if_neg c1] at hf
    refine lv_iload_n hx hb dX5_cost_8 rfl (lv_at hl 0 rfl) ?_
    obtain ⟨y2, h_y2, hf⟩ := bnd hf
    refine cl_iS C0 hH hl.1 (As := [.int x0]) (rest := []) (mX5_readsFor l D ca (w) x0 h_y2) gX5_cost_X5_readsFor rfl rfl rfl hd_X5_readsFor ⟨Nat.le_of_ble_eq_true rfl, Nat.le_of_ble_eq_true rfl⟩ ⟨Nat.zero_le _, Nat.zero_le _⟩ rfl (Nat.le_of_ble_eq_true rfl) dX5_cost_9 (fun H locs hH => ?_)
    refine lv_iload_n hx hb dX5_cost_12 rfl (lv_at hl 0 rfl) ?_
    refine lv_iadd hx hb dX5_cost_13 ?_
    refine lv_iconst (v := 1) hx hb dX5_cost_14 (by decide) ?_
    refine lv_iadd hx hb dX5_cost_15 ?_
    exact J16 _ _ _ _ hf hH (lv_sub hl [] rfl)
  · rw [if_pos c1] at hf
    refine lv_iconst (v := 0) hx hb dX5_cost_4 (by decide) ?_
    refine lv_goto (tgt := 16) hx hb dX5_cost_5 (by decide) ?_
    exact J16 _ _ _ _ hf hH (lv_sub hl [] rfl)
def rmX5_countsWrite : Room := { frames := 1, cells := 0, slots := 0, locals := 20 }
theorem hd_X5_countsWrite : yX5_countsWrite.cls = RX5 ∧ yX5_countsWrite.cls ≠ "java/lang/invoke/MethodHandle" ∧ yX5_countsWrite.cls ≠ "java/lang/invoke/VarHandle" ∧ (parseMethodDescriptor yX5_countsWrite.desc).map (fun d => d.parameters.length) = some 1 := by decide +kernel
theorem inX5_countsWrite_X5 : ∀ w ∈ wsX50, w ∈ wsX5_countsWrite := by decide +kernel
set_option maxHeartbeats 4000000 in
set_option maxRecDepth 100000 in
theorem mX5_countsWrite (l : Launch) (D : va_G) (ca : Gp) (a : Nat → Nat) (wr : va_W) (u : Mem) (x1 : Int32) {u9 : Mem} (hf : pX5_countsWrite u x1 = some u9) : Mv l yX5_countsWrite wsX5_countsWrite rmX5_countsWrite D ca [.ref (a 0), .int x1] (mW a ca u ++ wr) (mW a ca u9 ++ wr) := by
  refine Mv_of (own := RX5) (cc := cX5_countsWrite) (nL := 2) (by decide) rfl rfl rfl rfl (Nat.le_of_ble_eq_true rfl) ?_
  intro p e s m args below meth c Q A ls C0 hH hl hend
  obtain ⟨hx, hb, hml, hown, hts⟩ := id C0.1
  have hl : lv_has ls 2 [(0, .ref (a 0)), (1, .int x1)] := hl
  unfold pX5_countsWrite at hf
  refine lv_aload_n hx hb dX5_countsWrite_0 rfl (lv_at hl 0 rfl) ?_
  refine gM_X5_s C0 hH inX5_countsWrite_X5 (by decide +kernel : Cond.fieldLink RX5 7 "GatheringCacheModel" "s" "[I" ∈ wsX5_countsWrite) dX5_countsWrite_1 ?_
  refine lv_bipush (v := 6) hx hb dX5_countsWrite_4 (by decide) ?_
  refine lv_dup2_11 hx hb dX5_countsWrite_6 rfl rfl ?_
  obtain ⟨y1, h_y1, hf⟩ := bnd hf
  refine lM_s C0 hH h_y1 dX5_countsWrite_7 ?_
  refine lv_iload_n hx hb dX5_countsWrite_8 rfl (lv_at hl 1 rfl) ?_
  obtain ⟨y2, h_y2, hf⟩ := bnd hf
  refine cl_iS C0 hH hl.1 (As := [.int x1]) (rest := [.int y1, .int 6, .ref (a 1)]) (mX5_readsFor l D ca (mW a ca u ++ wr) x1 h_y2) gX5_countsWrite_X5_readsFor rfl rfl rfl hd_X5_readsFor ⟨Nat.le_of_ble_eq_true rfl, Nat.le_of_ble_eq_true rfl⟩ ⟨Nat.zero_le _, Nat.zero_le _⟩ rfl (Nat.le_of_ble_eq_true rfl) dX5_countsWrite_9 (fun H locs hH => ?_)
  refine lv_iadd hx hb dX5_countsWrite_12 ?_
  obtain ⟨u3, h_u3, hf⟩ := bnd hf
  refine sM_s C0 hH h_u3 dX5_countsWrite_13 (fun H locs hH => ?_)
  refine lv_aload_n hx hb dX5_countsWrite_14 rfl (lv_at hl 0 rfl) ?_
  refine gM_X5_s C0 hH inX5_countsWrite_X5 (by decide +kernel : Cond.fieldLink RX5 7 "GatheringCacheModel" "s" "[I" ∈ wsX5_countsWrite) dX5_countsWrite_15 ?_
  refine lv_bipush (v := 7) hx hb dX5_countsWrite_18 (by decide) ?_
  refine lv_dup2_11 hx hb dX5_countsWrite_20 rfl rfl ?_
  obtain ⟨y4, h_y4, hf⟩ := bnd hf
  refine lM_s C0 hH h_y4 dX5_countsWrite_21 ?_
  refine lv_iload_n hx hb dX5_countsWrite_22 rfl (lv_at hl 1 rfl) ?_
  refine lv_iconst (v := 1) hx hb dX5_countsWrite_23 (by decide) ?_
  refine lv_iadd hx hb dX5_countsWrite_24 ?_
  refine lv_iadd hx hb dX5_countsWrite_25 ?_
  obtain ⟨u5, h_u5, hf⟩ := bnd hf
  refine sM_s C0 hH h_u5 dX5_countsWrite_26 (fun H locs hH => ?_)
  cases hf
  exact hend _ _ _ _ hH dX5_countsWrite_27
def rmX5_toDisk : Room := { frames := 0, cells := 0, slots := 0, locals := 0 }
theorem hd_X5_toDisk : yX5_toDisk.cls = RX5 ∧ yX5_toDisk.cls ≠ "java/lang/invoke/MethodHandle" ∧ yX5_toDisk.cls ≠ "java/lang/invoke/VarHandle" ∧ (parseMethodDescriptor yX5_toDisk.desc).map (fun d => d.parameters.length) = some 3 := by decide +kernel
theorem inX5_toDisk_X5 : ∀ w ∈ wsX50, w ∈ wsX5_toDisk := by decide +kernel
set_option maxHeartbeats 4000000 in
set_option maxRecDepth 100000 in
theorem mX5_toDisk (l : Launch) (D : va_G) (ca : Gp) (a : Nat → Nat) (wr : va_W) (u : Mem) (x1 : Int32) (x2 : Int32) (x3 : Int32) {u9 : Mem} (hf : pX5_toDisk u x1 x2 x3 = some u9) : Mv l yX5_toDisk wsX5_toDisk rmX5_toDisk D ca [.ref (a 0), .int x1, .int x2, .int x3] (mW a ca u ++ wr) (mW a ca u9 ++ wr) := by
  refine Mv_of (own := RX5) (cc := cX5_toDisk) (nL := 4) (by decide) rfl rfl rfl rfl (Nat.le_of_ble_eq_true rfl) ?_
  intro p e s m args below meth c Q A ls C0 hH hl hend
  obtain ⟨hx, hb, hml, hown, hts⟩ := id C0.1
  have hl : lv_has ls 4 [(0, .ref (a 0)), (1, .int x1), (2, .int x2), (3, .int x3)] := hl
  unfold pX5_toDisk at hf
  refine lv_aload_n hx hb dX5_toDisk_0 rfl (lv_at hl 0 rfl) ?_
  refine gM_X5_s C0 hH inX5_toDisk_X5 (by decide +kernel : Cond.fieldLink RX5 7 "GatheringCacheModel" "s" "[I" ∈ wsX5_toDisk) dX5_toDisk_1 ?_
  refine lv_bipush (v := 15) hx hb dX5_toDisk_4 (by decide) ?_
  refine lv_iconst (v := 2) hx hb dX5_toDisk_6 (by decide) ?_
  refine lv_iload_n hx hb dX5_toDisk_7 rfl (lv_at hl 1 rfl) ?_
  refine lv_imul hx hb dX5_toDisk_8 ?_
  refine lv_iadd hx hb dX5_toDisk_9 ?_
  refine lv_iload_n hx hb dX5_toDisk_10 rfl (lv_at hl 2 rfl) ?_
  obtain ⟨u1, h_u1, hf⟩ := bnd hf
  refine sM_s C0 hH h_u1 dX5_toDisk_11 (fun H locs hH => ?_)
  refine lv_aload_n hx hb dX5_toDisk_12 rfl (lv_at hl 0 rfl) ?_
  refine gM_X5_s C0 hH inX5_toDisk_X5 (by decide +kernel : Cond.fieldLink RX5 7 "GatheringCacheModel" "s" "[I" ∈ wsX5_toDisk) dX5_toDisk_13 ?_
  refine lv_bipush (v := 15) hx hb dX5_toDisk_16 (by decide) ?_
  refine lv_iconst (v := 2) hx hb dX5_toDisk_18 (by decide) ?_
  refine lv_iload_n hx hb dX5_toDisk_19 rfl (lv_at hl 1 rfl) ?_
  refine lv_imul hx hb dX5_toDisk_20 ?_
  refine lv_iadd hx hb dX5_toDisk_21 ?_
  refine lv_iconst (v := 1) hx hb dX5_toDisk_22 (by decide) ?_
  refine lv_iadd hx hb dX5_toDisk_23 ?_
  refine lv_iload_n hx hb dX5_toDisk_24 rfl (lv_at hl 3 rfl) ?_
  obtain ⟨u2, h_u2, hf⟩ := bnd hf
  refine sM_s C0 hH h_u2 dX5_toDisk_25 (fun H locs hH => ?_)
  cases hf
  exact hend _ _ _ _ hH dX5_toDisk_26
def rmX5_destages : Room := { frames := 3, cells := 0, slots := 0, locals := 65 }
theorem hd_X5_destages : yX5_destages.cls = RX5 ∧ yX5_destages.cls ≠ "java/lang/invoke/MethodHandle" ∧ yX5_destages.cls ≠ "java/lang/invoke/VarHandle" ∧ (parseMethodDescriptor yX5_destages.desc).map (fun d => d.parameters.length) = some 1 := by decide +kernel
theorem inX5_destages_X5 : ∀ w ∈ wsX50, w ∈ wsX5_destages := by decide +kernel
set_option maxHeartbeats 4000000 in
set_option maxRecDepth 100000 in
theorem mX5_destages (l : Launch) (D : va_G) (ca : Gp) (a : Nat → Nat) (wr : va_W) (u : Mem) (x1 : Int32) {r : Int32} {u9 : Mem} (hf : pX5_destages u x1 = some (r, u9)) : Mi l yX5_destages wsX5_destages rmX5_destages D ca [.ref (a 0), .int x1] (mW a ca u ++ wr) (mW a ca u9 ++ wr) r := by
  refine Mi_of (own := RX5) (cc := cX5_destages) (nL := 4) (ty := .int) (by decide) rfl rfl rfl rfl (Nat.le_of_ble_eq_true rfl) ?_
  intro p e s m args below meth c Q A ls C0 hH hl hend
  obtain ⟨hx, hb, hml, hown, hts⟩ := id C0.1
  have hl : lv_has ls 4 [(0, .ref (a 0)), (1, .int x1)] := hl
  have J88 : ∀ (x2 : Int32) (u : Mem) (H : Heap) (locs : List Loc) (ls : Array Slot), pX5_destages_88 x2 u = some (r, u9) → HS D A s (mW a ca u ++ wr) H locs → lv_has ls 4 [(2, .int x2)] → W p l e rmX5_destages s m args below meth c H locs 0 0 Q (F0 m 88 ls []) := by
    intro x2 u H locs ls hf hH hl
    unfold pX5_destages_88 at hf
    refine lv_iload_n hx hb dX5_destages_88 rfl (lv_at hl 0 rfl) ?_
    cases hf
    exact hend _ _ _ _ hH rfl dX5_destages_89
  have J4 : ∀ (x1 : Int32) (n : Nat) (x2 : Int32) (x3 : Int32) (u : Mem) (H : Heap) (locs : List Loc) (ls : Array Slot), pX5_destages_4 x1 n x2 x3 u = some (r, u9) → HS D A s (mW a ca u ++ wr) H locs → lv_has ls 4 [(0, .ref (a 0)), (1, .int x1), (2, .int x2), (3, .int x3)] → W p l e rmX5_destages s m args below meth c H locs 0 0 Q (F0 m 4 ls []) := by
    intro x1 n
    induction n with
    | zero => intro x2 x3 u H locs ls hf; cases hf
    | succ n ih =>
      intro x2 x3 u H locs ls hf hH hl
      have hf : pX5_destages_4b x1 (pX5_destages_4 x1 n) x2 x3 u = some (r, u9) := hf
      have J51 : ∀ (x2 : Int32) (x3 : Int32) (u : Mem) (H : Heap) (locs : List Loc) (ls : Array Slot), pX5_destages_51 x1 (pX5_destages_4 x1 n) x2 x3 u = some (r, u9) → HS D A s (mW a ca u ++ wr) H locs → lv_has ls 4 [(0, .ref (a 0)), (1, .int x1), (2, .int x2), (3, .int x3)] → W p l e rmX5_destages s m args below meth c H locs 0 0 Q (F0 m 51 ls []) := by
        intro x2 x3 u H locs ls hf hH hl
        unfold pX5_destages_51 at hf
        refine lv_iinc (v := (x3 + 1)) (lv' := [(3, .int (x3 + 1)), (0, .ref (a 0)), (1, .int x1), (2, .int x2)]) hx hb dX5_destages_51 hl (k := 3) rfl rfl (by decide) rfl (fun ls hl => ?_)
        refine lv_goto (tgt := 4) hx hb dX5_destages_54 (by decide) ?_
        exact ih _ _ _ _ _ _ hf hH (lv_sub hl [1, 2, 3, 0] rfl)
      unfold pX5_destages_4b at hf
      refine lv_iload_n hx hb dX5_destages_4 rfl (lv_at hl 3 rfl) ?_
      refine lv_bipush (v := 12) hx hb dX5_destages_5 (by decide) ?_
      refine lv_icmp_ge (tgt := 57) hx hb dX5_destages_7 (by decide) (fun c101 => ?_) (fun c101 => ?_)
      · rw [if_pos c101] at hf
        refine lv_iload_n hx hb dX5_destages_57 rfl (lv_at hl 2 rfl) ?_
        refine lv_if_le (tgt := 88) hx hb dX5_destages_58 (by decide) (fun c102 => ?_) (fun c102 => ?_)
        · rw [if_pos c102] at hf
          exact J88 _ _ _ _ _ hf hH (lv_sub hl [2] rfl)
        · rw [if_neg c102] at hf
          refine lv_aload_n hx hb dX5_destages_61 rfl (lv_at hl 0 rfl) ?_
          refine lv_iload_n hx hb dX5_destages_62 rfl (lv_at hl 2 rfl) ?_
          obtain ⟨u103, h_u103, hf⟩ := bnd hf
          refine cl_vV C0 hH hl.1 (As := [.int x2]) (rest := []) (mX5_countsWrite l D ca a wr u x2 h_u103) gX5_destages_X5_countsWrite rfl rfl rfl hd_X5_countsWrite ⟨Nat.le_of_ble_eq_true rfl, Nat.le_of_ble_eq_true rfl⟩ ⟨Nat.zero_le _, Nat.zero_le _⟩ (vM_X5 C0 hH) rfl (Nat.le_of_ble_eq_true rfl) dX5_destages_63 (fun H locs hH => ?_)
          refine lv_aload_n hx hb dX5_destages_66 rfl (lv_at hl 0 rfl) ?_
          refine gM_X5_s C0 hH inX5_destages_X5 (by decide +kernel : Cond.fieldLink RX5 7 "GatheringCacheModel" "s" "[I" ∈ wsX5_destages) dX5_destages_67 ?_
          refine lv_bipush (v := 13) hx hb dX5_destages_70 (by decide) ?_
          refine lv_dup2_11 hx hb dX5_destages_72 rfl rfl ?_
          obtain ⟨y104, h_y104, hf⟩ := bnd hf
          refine lM_s C0 hH h_y104 dX5_destages_73 ?_
          refine lv_iconst (v := 1) hx hb dX5_destages_74 (by decide) ?_
          refine lv_iadd hx hb dX5_destages_75 ?_
          obtain ⟨u105, h_u105, hf⟩ := bnd hf
          refine sM_s C0 hH h_u105 dX5_destages_76 (fun H locs hH => ?_)
          refine lv_aload_n hx hb dX5_destages_77 rfl (lv_at hl 0 rfl) ?_
          refine gM_X5_s C0 hH inX5_destages_X5 (by decide +kernel : Cond.fieldLink RX5 7 "GatheringCacheModel" "s" "[I" ∈ wsX5_destages) dX5_destages_78 ?_
          refine lv_bipush (v := 14) hx hb dX5_destages_81 (by decide) ?_
          refine lv_dup2_11 hx hb dX5_destages_83 rfl rfl ?_
          obtain ⟨y106, h_y106, hf⟩ := bnd hf
          refine lM_s C0 hH h_y106 dX5_destages_84 ?_
          refine lv_iload_n hx hb dX5_destages_85 rfl (lv_at hl 2 rfl) ?_
          refine lv_iadd hx hb dX5_destages_86 ?_
          obtain ⟨u107, h_u107, hf⟩ := bnd hf
          refine sM_s C0 hH h_u107 dX5_destages_87 (fun H locs hH => ?_)
          exact J88 _ _ _ _ _ hf hH (lv_sub hl [2] rfl)
      · rw [if_neg c101] at hf
        refine lv_aload_n hx hb dX5_destages_10 rfl (lv_at hl 0 rfl) ?_
        refine lv_iload_n hx hb dX5_destages_11 rfl (lv_at hl 3 rfl) ?_
        refine lv_iload_n hx hb dX5_destages_12 rfl (lv_at hl 1 rfl) ?_
        obtain ⟨y108, h_y108, hf⟩ := bnd hf
        refine cl_iV C0 hH hl.1 (As := [.int x3, .int x1]) (rest := []) (mX5_isDirtyOf l D ca a wr u x3 x1 h_y108) gX5_destages_X5_isDirtyOf rfl rfl rfl hd_X5_isDirtyOf ⟨Nat.le_of_ble_eq_true rfl, Nat.le_of_ble_eq_true rfl⟩ ⟨Nat.zero_le _, Nat.zero_le _⟩ (vM_X5 C0 hH) rfl (Nat.le_of_ble_eq_true rfl) dX5_destages_13 (fun H locs hH => ?_)
        refine lv_if_eq (tgt := 51) hx hb dX5_destages_16 (by decide) (fun c109 => ?_) (fun c109 => ?_)
        · rw [if_pos c109] at hf
          exact J51 _ _ _ _ _ _ hf hH (lv_sub hl [0, 1, 2, 3] rfl)
        · rw [if_neg c109] at hf
          refine lv_aload_n hx hb dX5_destages_19 rfl (lv_at hl 0 rfl) ?_
          refine lv_aload_n hx hb dX5_destages_20 rfl (lv_at hl 0 rfl) ?_
          refine lv_iload_n hx hb dX5_destages_21 rfl (lv_at hl 3 rfl) ?_
          refine lv_iconst (v := 0) hx hb dX5_destages_22 (by decide) ?_
          obtain ⟨y110, h_y110, hf⟩ := bnd hf
          refine cl_iV C0 hH hl.1 (As := [.int x3, .int 0]) (rest := [.ref (a 0)]) (mX5_of l D ca a wr u x3 0 h_y110) gX5_destages_X5_of rfl rfl rfl hd_X5_of ⟨Nat.le_of_ble_eq_true rfl, Nat.le_of_ble_eq_true rfl⟩ ⟨Nat.zero_le _, Nat.zero_le _⟩ (vM_X5 C0 hH) rfl (Nat.le_of_ble_eq_true rfl) dX5_destages_23 (fun H locs hH => ?_)
          refine lv_aload_n hx hb dX5_destages_26 rfl (lv_at hl 0 rfl) ?_
          refine lv_iload_n hx hb dX5_destages_27 rfl (lv_at hl 3 rfl) ?_
          refine lv_iconst (v := 1) hx hb dX5_destages_28 (by decide) ?_
          obtain ⟨y111, h_y111, hf⟩ := bnd hf
          refine cl_iV C0 hH hl.1 (As := [.int x3, .int 1]) (rest := [.int y110, .ref (a 0)]) (mX5_of l D ca a wr u x3 1 h_y111) gX5_destages_X5_of rfl rfl rfl hd_X5_of ⟨Nat.le_of_ble_eq_true rfl, Nat.le_of_ble_eq_true rfl⟩ ⟨Nat.zero_le _, Nat.zero_le _⟩ (vM_X5 C0 hH) rfl (Nat.le_of_ble_eq_true rfl) dX5_destages_29 (fun H locs hH => ?_)
          refine lv_aload_n hx hb dX5_destages_32 rfl (lv_at hl 0 rfl) ?_
          refine lv_iload_n hx hb dX5_destages_33 rfl (lv_at hl 3 rfl) ?_
          refine lv_iconst (v := 2) hx hb dX5_destages_34 (by decide) ?_
          obtain ⟨y112, h_y112, hf⟩ := bnd hf
          refine cl_iV C0 hH hl.1 (As := [.int x3, .int 2]) (rest := [.int y111, .int y110, .ref (a 0)]) (mX5_of l D ca a wr u x3 2 h_y112) gX5_destages_X5_of rfl rfl rfl hd_X5_of ⟨Nat.le_of_ble_eq_true rfl, Nat.le_of_ble_eq_true rfl⟩ ⟨Nat.zero_le _, Nat.zero_le _⟩ (vM_X5 C0 hH) rfl (Nat.le_of_ble_eq_true rfl) dX5_destages_35 (fun H locs hH => ?_)
          obtain ⟨u113, h_u113, hf⟩ := bnd hf
          refine cl_vV C0 hH hl.1 (As := [.int y110, .int y111, .int y112]) (rest := []) (mX5_toDisk l D ca a wr u y110 y111 y112 h_u113) gX5_destages_X5_toDisk rfl rfl rfl hd_X5_toDisk ⟨Nat.le_of_ble_eq_true rfl, Nat.le_of_ble_eq_true rfl⟩ ⟨Nat.zero_le _, Nat.zero_le _⟩ (vM_X5 C0 hH) rfl (Nat.le_of_ble_eq_true rfl) dX5_destages_38 (fun H locs hH => ?_)
          refine lv_aload_n hx hb dX5_destages_41 rfl (lv_at hl 0 rfl) ?_
          refine lv_iload_n hx hb dX5_destages_42 rfl (lv_at hl 3 rfl) ?_
          refine lv_iconst (v := 4) hx hb dX5_destages_43 (by decide) ?_
          refine lv_iconst (v := 0) hx hb dX5_destages_44 (by decide) ?_
          obtain ⟨u114, h_u114, hf⟩ := bnd hf
          refine cl_vV C0 hH hl.1 (As := [.int x3, .int 4, .int 0]) (rest := []) (mX5_lay l D ca a wr u113 x3 4 0 h_u114) gX5_destages_X5_lay rfl rfl rfl hd_X5_lay ⟨Nat.le_of_ble_eq_true rfl, Nat.le_of_ble_eq_true rfl⟩ ⟨Nat.zero_le _, Nat.zero_le _⟩ (vM_X5 C0 hH) rfl (Nat.le_of_ble_eq_true rfl) dX5_destages_45 (fun H locs hH => ?_)
          refine lv_iinc (v := (x2 + 1)) (lv' := [(2, .int (x2 + 1)), (0, .ref (a 0)), (1, .int x1), (3, .int x3)]) hx hb dX5_destages_48 hl (k := 2) rfl rfl (by decide) rfl (fun ls hl => ?_)
          exact J51 _ _ _ _ _ _ hf hH (lv_sub hl [1, 2, 0, 3] rfl)
  unfold pX5_destages at hf
  refine lv_iconst (v := 0) hx hb dX5_destages_0 (by decide) ?_
  refine lv_istore_n (lv' := [(2, .int 0), (0, .ref (a 0)), (1, .int x1)]) hx hb dX5_destages_1 rfl hl (by decide) rfl (fun ls hl => ?_)
  refine lv_iconst (v := 0) hx hb dX5_destages_2 (by decide) ?_
  refine lv_istore_n (lv' := [(3, .int 0), (2, .int 0), (0, .ref (a 0)), (1, .int x1)]) hx hb dX5_destages_3 rfl hl (by decide) rfl (fun ls hl => ?_)
  exact J4 _ FU _ _ _ _ _ _ hf hH (lv_sub hl [2, 3, 1, 0] rfl)
def rmX5_destagesAll : Room := { frames := 4, cells := 0, slots := 0, locals := 88 }
theorem hd_X5_destagesAll : yX5_destagesAll.cls = RX5 ∧ yX5_destagesAll.cls ≠ "java/lang/invoke/MethodHandle" ∧ yX5_destagesAll.cls ≠ "java/lang/invoke/VarHandle" ∧ (parseMethodDescriptor yX5_destagesAll.desc).map (fun d => d.parameters.length) = some 0 := by decide +kernel
set_option maxHeartbeats 4000000 in
set_option maxRecDepth 100000 in
theorem mX5_destagesAll (l : Launch) (D : va_G) (ca : Gp) (a : Nat → Nat) (wr : va_W) (u : Mem) {r : Int32} {u9 : Mem} (hf : pX5_destagesAll u = some (r, u9)) : Mi l yX5_destagesAll wsX5_destagesAll rmX5_destagesAll D ca [.ref (a 0)] (mW a ca u ++ wr) (mW a ca u9 ++ wr) r := by
  refine Mi_of (own := RX5) (cc := cX5_destagesAll) (nL := 3) (ty := .int) (by decide) rfl rfl rfl rfl (Nat.le_of_ble_eq_true rfl) ?_
  intro p e s m args below meth c Q A ls C0 hH hl hend
  obtain ⟨hx, hb, hml, hown, hts⟩ := id C0.1
  have hl : lv_has ls 3 [(0, .ref (a 0))] := hl
  have J4 : ∀ (n : Nat) (x1 : Int32) (x2 : Int32) (u : Mem) (H : Heap) (locs : List Loc) (ls : Array Slot), pX5_destagesAll_4 n x1 x2 u = some (r, u9) → HS D A s (mW a ca u ++ wr) H locs → lv_has ls 3 [(0, .ref (a 0)), (1, .int x1), (2, .int x2)] → W p l e rmX5_destagesAll s m args below meth c H locs 0 0 Q (F0 m 4 ls []) := by
    intro n
    induction n with
    | zero => intro x1 x2 u H locs ls hf; cases hf
    | succ n ih =>
      intro x1 x2 u H locs ls hf hH hl
      have hf : pX5_destagesAll_4b (pX5_destagesAll_4 n) x1 x2 u = some (r, u9) := hf
      unfold pX5_destagesAll_4b at hf
      refine lv_iload_n hx hb dX5_destagesAll_4 rfl (lv_at hl 2 rfl) ?_
      refine lv_bipush (v := 16) hx hb dX5_destagesAll_5 (by decide) ?_
      refine lv_icmp_ge (tgt := 24) hx hb dX5_destagesAll_7 (by decide) (fun c101 => ?_) (fun c101 => ?_)
      · rw [if_pos c101] at hf
        refine lv_iload_n hx hb dX5_destagesAll_24 rfl (lv_at hl 1 rfl) ?_
        cases hf
        exact hend _ _ _ _ hH rfl dX5_destagesAll_25
      · rw [if_neg c101] at hf
        refine lv_iload_n hx hb dX5_destagesAll_10 rfl (lv_at hl 1 rfl) ?_
        refine lv_aload_n hx hb dX5_destagesAll_11 rfl (lv_at hl 0 rfl) ?_
        refine lv_iload_n hx hb dX5_destagesAll_12 rfl (lv_at hl 2 rfl) ?_
        obtain ⟨y102, u103, h_y102, hf⟩ := bnd2 hf
        refine cl_iV C0 hH hl.1 (As := [.int x2]) (rest := [.int x1]) (mX5_destages l D ca a wr u x2 h_y102) gX5_destagesAll_X5_destages rfl rfl rfl hd_X5_destages ⟨Nat.le_of_ble_eq_true rfl, Nat.le_of_ble_eq_true rfl⟩ ⟨Nat.zero_le _, Nat.zero_le _⟩ (vM_X5 C0 hH) rfl (Nat.le_of_ble_eq_true rfl) dX5_destagesAll_13 (fun H locs hH => ?_)
        refine lv_iadd hx hb dX5_destagesAll_16 ?_
        refine lv_istore_n (lv' := [(1, .int (x1 + y102)), (0, .ref (a 0)), (2, .int x2)]) hx hb dX5_destagesAll_17 rfl hl (by decide) rfl (fun ls hl => ?_)
        refine lv_iinc (v := (x2 + 1)) (lv' := [(2, .int (x2 + 1)), (1, .int (x1 + y102)), (0, .ref (a 0))]) hx hb dX5_destagesAll_18 hl (k := 2) rfl rfl (by decide) rfl (fun ls hl => ?_)
        refine lv_goto (tgt := 4) hx hb dX5_destagesAll_21 (by decide) ?_
        exact ih _ _ _ _ _ _ hf hH (lv_sub hl [2, 1, 0] rfl)
  unfold pX5_destagesAll at hf
  refine lv_iconst (v := 0) hx hb dX5_destagesAll_0 (by decide) ?_
  refine lv_istore_n (lv' := [(1, .int 0), (0, .ref (a 0))]) hx hb dX5_destagesAll_1 rfl hl (by decide) rfl (fun ls hl => ?_)
  refine lv_iconst (v := 0) hx hb dX5_destagesAll_2 (by decide) ?_
  refine lv_istore_n (lv' := [(2, .int 0), (1, .int 0), (0, .ref (a 0))]) hx hb dX5_destagesAll_3 rfl hl (by decide) rfl (fun ls hl => ?_)
  exact J4 FU _ _ _ _ _ _ hf hH (lv_sub hl [2, 1, 0] rfl)
def rmX5_isGathered : Room := { frames := 0, cells := 0, slots := 0, locals := 0 }
theorem hd_X5_isGathered : yX5_isGathered.cls = RX5 ∧ yX5_isGathered.cls ≠ "java/lang/invoke/MethodHandle" ∧ yX5_isGathered.cls ≠ "java/lang/invoke/VarHandle" ∧ (parseMethodDescriptor yX5_isGathered.desc).map (fun d => d.parameters.length) = some 0 := by decide +kernel
theorem inX5_isGathered_X5 : ∀ w ∈ wsX50, w ∈ wsX5_isGathered := by decide +kernel
set_option maxHeartbeats 4000000 in
set_option maxRecDepth 100000 in
theorem mX5_isGathered (l : Launch) (D : va_G) (ca : Gp) (a : Nat → Nat) (wr : va_W) (u : Mem) {r : Int32} (hf : pX5_isGathered u = some r) : Mi l yX5_isGathered wsX5_isGathered rmX5_isGathered D ca [.ref (a 0)] (mW a ca u ++ wr) (mW a ca u ++ wr) r := by
  refine Mi_of (own := RX5) (cc := cX5_isGathered) (nL := 1) (ty := .boolean) (by decide) rfl rfl rfl rfl (Nat.le_of_ble_eq_true rfl) ?_
  intro p e s m args below meth c Q A ls C0 hH hl hend
  obtain ⟨hx, hb, hml, hown, hts⟩ := id C0.1
  have hl : lv_has ls 1 [(0, .ref (a 0))] := hl
  have J26 : ∀ (s0 : Int32) (H : Heap) (locs : List Loc) (ls : Array Slot), pX5_isGathered_26 u s0 = some r → HS D A s (mW a ca u ++ wr) H locs → lv_has ls 1 [] → W p l e rmX5_isGathered s m args below meth c H locs 0 0 Q (F0 m 26 ls [.int s0]) := by
    intro s0 H locs ls hf hH hl
    unfold pX5_isGathered_26 at hf
    obtain ⟨hz, hf⟩ := gd hf
    cases hf
    exact hend _ _ _ _ hH (isz_n hz) dX5_isGathered_26
  have J25 : ∀ (H : Heap) (locs : List Loc) (ls : Array Slot), pX5_isGathered_25 u  = some r → HS D A s (mW a ca u ++ wr) H locs → lv_has ls 1 [] → W p l e rmX5_isGathered s m args below meth c H locs 0 0 Q (F0 m 25 ls []) := by
    intro H locs ls hf hH hl
    unfold pX5_isGathered_25 at hf
    refine lv_iconst (v := 0) hx hb dX5_isGathered_25 (by decide) ?_
    exact J26 _ _ _ _ hf hH (lv_sub hl [] rfl)
  unfold pX5_isGathered at hf
  refine lv_aload_n hx hb dX5_isGathered_0 rfl (lv_at hl 0 rfl) ?_
  refine gM_X5_s C0 hH inX5_isGathered_X5 (by decide +kernel : Cond.fieldLink RX5 7 "GatheringCacheModel" "s" "[I" ∈ wsX5_isGathered) dX5_isGathered_1 ?_
  refine lv_iconst (v := 0) hx hb dX5_isGathered_4 (by decide) ?_
  obtain ⟨y1, h_y1, hf⟩ := bnd hf
  refine lM_s C0 hH h_y1 dX5_isGathered_5 ?_
  refine lv_iconst (v := 1) hx hb dX5_isGathered_6 (by decide) ?_
  refine lv_icmp_ne (tgt := 25) hx hb dX5_isGathered_7 (by decide) (fun c2 => ?_) (fun c2 => ?_)
  · rw [if_neg c2] at hf
    exact J25 _ _ _ hf hH (lv_sub hl [] rfl)
  · rw [if_pos c2] at hf
    refine lv_aload_n hx hb dX5_isGathered_10 rfl (lv_at hl 0 rfl) ?_
    refine gM_X5_s C0 hH inX5_isGathered_X5 (by decide +kernel : Cond.fieldLink RX5 7 "GatheringCacheModel" "s" "[I" ∈ wsX5_isGathered) dX5_isGathered_11 ?_
    refine lv_iconst (v := 3) hx hb dX5_isGathered_14 (by decide) ?_
    obtain ⟨y3, h_y3, hf⟩ := bnd hf
    refine lM_s C0 hH h_y3 dX5_isGathered_15 ?_
    refine lv_bipush (v := 20) hx hb dX5_isGathered_16 (by decide) ?_
    refine lv_icmp_lt (tgt := 25) hx hb dX5_isGathered_18 (by decide) (fun c4 => ?_) (fun c4 => ?_)
    · rw [if_pos c4] at hf
      exact J25 _ _ _ hf hH (lv_sub hl [] rfl)
    · rw [if_neg c4] at hf
      refine lv_iconst (v := 1) hx hb dX5_isGathered_21 (by decide) ?_
      refine lv_goto (tgt := 26) hx hb dX5_isGathered_22 (by decide) ?_
      exact J26 _ _ _ _ hf hH (lv_sub hl [] rfl)
def rmX5_taken : Room := { frames := 2, cells := 0, slots := 0, locals := 43 }
theorem hd_X5_taken : yX5_taken.cls = RX5 ∧ yX5_taken.cls ≠ "java/lang/invoke/MethodHandle" ∧ yX5_taken.cls ≠ "java/lang/invoke/VarHandle" ∧ (parseMethodDescriptor yX5_taken.desc).map (fun d => d.parameters.length) = some 1 := by decide +kernel
set_option maxHeartbeats 4000000 in
set_option maxRecDepth 100000 in
theorem mX5_taken (l : Launch) (D : va_G) (ca : Gp) (a : Nat → Nat) (wr : va_W) (u : Mem) (x1 : Int32) {r : Int32} (hf : pX5_taken u x1 = some r) : Mi l yX5_taken wsX5_taken rmX5_taken D ca [.ref (a 0), .int x1] (mW a ca u ++ wr) (mW a ca u ++ wr) r := by
  refine Mi_of (own := RX5) (cc := cX5_taken) (nL := 5) (ty := .int) (by decide) rfl rfl rfl rfl (Nat.le_of_ble_eq_true rfl) ?_
  intro p e s m args below meth c Q A ls C0 hH hl hend
  obtain ⟨hx, hb, hml, hown, hts⟩ := id C0.1
  have hl : lv_has ls 5 [(0, .ref (a 0)), (1, .int x1)] := hl
  have J6 : ∀ (x1 : Int32) (n : Nat) (x2 : Int32) (x3 : Int32) (H : Heap) (locs : List Loc) (ls : Array Slot), pX5_taken_6 u x1 n x2 x3 = some r → HS D A s (mW a ca u ++ wr) H locs → lv_has ls 5 [(0, .ref (a 0)), (1, .int x1), (2, .int x2), (3, .int x3)] → W p l e rmX5_taken s m args below meth c H locs 0 0 Q (F0 m 6 ls []) := by
    intro x1 n
    induction n with
    | zero => intro x2 x3 H locs ls hf; cases hf
    | succ n ih =>
      intro x2 x3 H locs ls hf hH hl
      have hf : pX5_taken_6b u x1 (pX5_taken_6 u x1 n) x2 x3 = some r := hf
      have J71 : ∀ (x3 : Int32) (s0 : Int32) (H : Heap) (locs : List Loc) (ls : Array Slot), pX5_taken_71 u x1 (pX5_taken_6 u x1 n) x3 s0 = some r → HS D A s (mW a ca u ++ wr) H locs → lv_has ls 5 [(0, .ref (a 0)), (1, .int x1), (3, .int x3)] → W p l e rmX5_taken s m args below meth c H locs 0 0 Q (F0 m 71 ls [.int s0]) := by
        intro x3 s0 H locs ls hf hH hl
        unfold pX5_taken_71 at hf
        refine lv_istore_n (lv' := [(2, .int s0), (0, .ref (a 0)), (1, .int x1), (3, .int x3)]) hx hb dX5_taken_71 rfl hl (by decide) rfl (fun ls hl => ?_)
        refine lv_iinc (v := (x3 + 1)) (lv' := [(3, .int (x3 + 1)), (2, .int s0), (0, .ref (a 0)), (1, .int x1)]) hx hb dX5_taken_72 hl (k := 3) rfl rfl (by decide) rfl (fun ls hl => ?_)
        refine lv_goto (tgt := 6) hx hb dX5_taken_75 (by decide) ?_
        exact ih _ _ _ _ _ hf hH (lv_sub hl [2, 3, 1, 0] rfl)
      have J66 : ∀ (x3 : Int32) (H : Heap) (locs : List Loc) (ls : Array Slot), pX5_taken_66 u x1 (pX5_taken_6 u x1 n) x3 = some r → HS D A s (mW a ca u ++ wr) H locs → lv_has ls 5 [(0, .ref (a 0)), (1, .int x1), (3, .int x3)] → W p l e rmX5_taken s m args below meth c H locs 0 0 Q (F0 m 66 ls []) := by
        intro x3 H locs ls hf hH hl
        unfold pX5_taken_66 at hf
        refine lv_iload_n hx hb dX5_taken_66 rfl (lv_at hl 2 rfl) ?_
        refine lv_goto (tgt := 71) hx hb dX5_taken_67 (by decide) ?_
        exact J71 _ _ _ _ _ hf hH (lv_sub hl [0, 1, 2] rfl)
      have J70 : ∀ (x2 : Int32) (x3 : Int32) (H : Heap) (locs : List Loc) (ls : Array Slot), pX5_taken_70 u x1 (pX5_taken_6 u x1 n) x2 x3 = some r → HS D A s (mW a ca u ++ wr) H locs → lv_has ls 5 [(0, .ref (a 0)), (1, .int x1), (2, .int x2), (3, .int x3)] → W p l e rmX5_taken s m args below meth c H locs 0 0 Q (F0 m 70 ls []) := by
        intro x2 x3 H locs ls hf hH hl
        unfold pX5_taken_70 at hf
        refine lv_iload_n hx hb dX5_taken_70 rfl (lv_at hl 2 rfl) ?_
        exact J71 _ _ _ _ _ hf hH (lv_sub hl [0, 1, 3] rfl)
      have J39 : ∀ (x2 : Int32) (x3 : Int32) (s0 : Int32) (H : Heap) (locs : List Loc) (ls : Array Slot), pX5_taken_39 u x1 (pX5_taken_6 u x1 n) x2 x3 s0 = some r → HS D A s (mW a ca u ++ wr) H locs → lv_has ls 5 [(0, .ref (a 0)), (1, .int x1), (2, .int x2), (3, .int x3)] → W p l e rmX5_taken s m args below meth c H locs 0 0 Q (F0 m 39 ls [.int s0]) := by
        intro x2 x3 s0 H locs ls hf hH hl
        unfold pX5_taken_39 at hf
        refine lv_istore (lv' := [(4, .int s0), (0, .ref (a 0)), (1, .int x1), (2, .int x2), (3, .int x3)]) hx hb dX5_taken_39 hl (by decide) rfl (fun ls hl => ?_)
        refine lv_iload hx hb dX5_taken_41 (lv_at hl 0 rfl) ?_
        refine lv_if_eq (tgt := 70) hx hb dX5_taken_43 (by decide) (fun c201 => ?_) (fun c201 => ?_)
        · rw [if_pos c201] at hf
          exact J70 _ _ _ _ _ hf hH (lv_sub hl [1, 2, 3, 4] rfl)
        · rw [if_neg c201] at hf
          refine lv_iload_n hx hb dX5_taken_46 rfl (lv_at hl 3 rfl) ?_
          refine lv_iconst (v := (-1)) hx hb dX5_taken_47 (by decide) ?_
          refine lv_icmp_eq (tgt := 66) hx hb dX5_taken_48 (by decide) (fun c202 => ?_) (fun c202 => ?_)
          · rw [if_pos c202] at hf
            exact J66 _ _ _ _ hf hH (lv_sub hl [1, 2, 4] rfl)
          · rw [if_neg c202] at hf
            refine lv_aload_n hx hb dX5_taken_51 rfl (lv_at hl 1 rfl) ?_
            refine lv_iload_n hx hb dX5_taken_52 rfl (lv_at hl 4 rfl) ?_
            refine lv_iconst (v := 3) hx hb dX5_taken_53 (by decide) ?_
            obtain ⟨y203, h_y203, hf⟩ := bnd hf
            refine cl_iV C0 hH hl.1 (As := [.int x3, .int 3]) (rest := []) (mX5_of l D ca a wr u x3 3 h_y203) gX5_taken_X5_of rfl rfl rfl hd_X5_of ⟨Nat.le_of_ble_eq_true rfl, Nat.le_of_ble_eq_true rfl⟩ ⟨Nat.zero_le _, Nat.zero_le _⟩ (vM_X5 C0 hH) rfl (Nat.le_of_ble_eq_true rfl) dX5_taken_54 (fun H locs hH => ?_)
            refine lv_aload_n hx hb dX5_taken_57 rfl (lv_at hl 1 rfl) ?_
            refine lv_iload_n hx hb dX5_taken_58 rfl (lv_at hl 3 rfl) ?_
            refine lv_iconst (v := 3) hx hb dX5_taken_59 (by decide) ?_
            obtain ⟨y204, h_y204, hf⟩ := bnd hf
            refine cl_iV C0 hH hl.1 (As := [.int x2, .int 3]) (rest := [.int y203]) (mX5_of l D ca a wr u x2 3 h_y204) gX5_taken_X5_of rfl rfl rfl hd_X5_of ⟨Nat.le_of_ble_eq_true rfl, Nat.le_of_ble_eq_true rfl⟩ ⟨Nat.zero_le _, Nat.zero_le _⟩ (vM_X5 C0 hH) rfl (Nat.le_of_ble_eq_true rfl) dX5_taken_60 (fun H locs hH => ?_)
            refine lv_icmp_ge (tgt := 70) hx hb dX5_taken_63 (by decide) (fun c205 => ?_) (fun c205 => ?_)
            · rw [if_pos c205] at hf
              exact J70 _ _ _ _ _ hf hH (lv_sub hl [1, 2, 3, 4] rfl)
            · rw [if_neg c205] at hf
              exact J66 _ _ _ _ hf hH (lv_sub hl [1, 2, 4] rfl)
      unfold pX5_taken_6b at hf
      refine lv_iload_n hx hb dX5_taken_6 rfl (lv_at hl 3 rfl) ?_
      refine lv_iconst (v := 3) hx hb dX5_taken_7 (by decide) ?_
      refine lv_iload_n hx hb dX5_taken_8 rfl (lv_at hl 1 rfl) ?_
      refine lv_imul hx hb dX5_taken_9 ?_
      refine lv_iconst (v := 3) hx hb dX5_taken_10 (by decide) ?_
      refine lv_iadd hx hb dX5_taken_11 ?_
      refine lv_icmp_ge (tgt := 78) hx hb dX5_taken_12 (by decide) (fun c101 => ?_) (fun c101 => ?_)
      · rw [if_pos c101] at hf
        refine lv_iload_n hx hb dX5_taken_78 rfl (lv_at hl 2 rfl) ?_
        cases hf
        exact hend _ _ _ _ hH rfl dX5_taken_79
      · rw [if_neg c101] at hf
        refine lv_aload_n hx hb dX5_taken_15 rfl (lv_at hl 0 rfl) ?_
        refine lv_iload_n hx hb dX5_taken_16 rfl (lv_at hl 3 rfl) ?_
        obtain ⟨y102, h_y102, hf⟩ := bnd hf
        refine cl_iV C0 hH hl.1 (As := [.int x3]) (rest := []) (mX5_isEmpty l D ca a wr u x3 h_y102) gX5_taken_X5_isEmpty rfl rfl rfl hd_X5_isEmpty ⟨Nat.le_of_ble_eq_true rfl, Nat.le_of_ble_eq_true rfl⟩ ⟨Nat.zero_le _, Nat.zero_le _⟩ (vM_X5 C0 hH) rfl (Nat.le_of_ble_eq_true rfl) dX5_taken_17 (fun H locs hH => ?_)
        refine lv_if_eq (tgt := 25) hx hb dX5_taken_20 (by decide) (fun c103 => ?_) (fun c103 => ?_)
        · rw [if_pos c103] at hf
          refine lv_aload_n hx hb dX5_taken_25 rfl (lv_at hl 0 rfl) ?_
          refine lv_iload_n hx hb dX5_taken_26 rfl (lv_at hl 3 rfl) ?_
          refine lv_iconst (v := 4) hx hb dX5_taken_27 (by decide) ?_
          obtain ⟨y104, h_y104, hf⟩ := bnd hf
          refine cl_iV C0 hH hl.1 (As := [.int x3, .int 4]) (rest := []) (mX5_of l D ca a wr u x3 4 h_y104) gX5_taken_X5_of rfl rfl rfl hd_X5_of ⟨Nat.le_of_ble_eq_true rfl, Nat.le_of_ble_eq_true rfl⟩ ⟨Nat.zero_le _, Nat.zero_le _⟩ (vM_X5 C0 hH) rfl (Nat.le_of_ble_eq_true rfl) dX5_taken_28 (fun H locs hH => ?_)
          refine lv_if_ne (tgt := 38) hx hb dX5_taken_31 (by decide) (fun c105 => ?_) (fun c105 => ?_)
          · rw [if_neg c105] at hf
            refine lv_iconst (v := 0) hx hb dX5_taken_38 (by decide) ?_
            exact J39 _ _ _ _ _ _ hf hH (lv_sub hl [0, 1, 2, 3] rfl)
          · rw [if_pos c105] at hf
            refine lv_iconst (v := 1) hx hb dX5_taken_34 (by decide) ?_
            refine lv_goto (tgt := 39) hx hb dX5_taken_35 (by decide) ?_
            exact J39 _ _ _ _ _ _ hf hH (lv_sub hl [0, 1, 2, 3] rfl)
        · rw [if_neg c103] at hf
          refine lv_iload_n hx hb dX5_taken_23 rfl (lv_at hl 3 rfl) ?_
          cases hf
          exact hend _ _ _ _ hH rfl dX5_taken_24
  unfold pX5_taken at hf
  refine lv_iconst (v := (-1)) hx hb dX5_taken_0 (by decide) ?_
  refine lv_istore_n (lv' := [(2, .int (-1)), (0, .ref (a 0)), (1, .int x1)]) hx hb dX5_taken_1 rfl hl (by decide) rfl (fun ls hl => ?_)
  refine lv_iconst (v := 3) hx hb dX5_taken_2 (by decide) ?_
  refine lv_iload_n hx hb dX5_taken_3 rfl (lv_at hl 2 rfl) ?_
  refine lv_imul hx hb dX5_taken_4 ?_
  refine lv_istore_n (lv' := [(3, .int (3 * x1)), (2, .int (-1)), (0, .ref (a 0)), (1, .int x1)]) hx hb dX5_taken_5 rfl hl (by decide) rfl (fun ls hl => ?_)
  exact J6 _ FU _ _ _ _ _ hf hH (lv_sub hl [2, 3, 1, 0] rfl)
def rmX5_fullest : Room := { frames := 4, cells := 0, slots := 0, locals := 88 }
theorem hd_X5_fullest : yX5_fullest.cls = RX5 ∧ yX5_fullest.cls ≠ "java/lang/invoke/MethodHandle" ∧ yX5_fullest.cls ≠ "java/lang/invoke/VarHandle" ∧ (parseMethodDescriptor yX5_fullest.desc).map (fun d => d.parameters.length) = some 1 := by decide +kernel
set_option maxHeartbeats 4000000 in
set_option maxRecDepth 100000 in
theorem mX5_fullest (l : Launch) (D : va_G) (ca : Gp) (a : Nat → Nat) (wr : va_W) (u : Mem) (x1 : Int32) {r : Int32} (hf : pX5_fullest u x1 = some r) : Mi l yX5_fullest wsX5_fullest rmX5_fullest D ca [.ref (a 0), .int x1] (mW a ca u ++ wr) (mW a ca u ++ wr) r := by
  refine Mi_of (own := RX5) (cc := cX5_fullest) (nL := 4) (ty := .int) (by decide) rfl rfl rfl rfl (Nat.le_of_ble_eq_true rfl) ?_
  intro p e s m args below meth c Q A ls C0 hH hl hend
  obtain ⟨hx, hb, hml, hown, hts⟩ := id C0.1
  have hl : lv_has ls 4 [(0, .ref (a 0)), (1, .int x1)] := hl
  have J4 : ∀ (n : Nat) (x2 : Int32) (x3 : Int32) (H : Heap) (locs : List Loc) (ls : Array Slot), pX5_fullest_4 u n x2 x3 = some r → HS D A s (mW a ca u ++ wr) H locs → lv_has ls 4 [(0, .ref (a 0)), (2, .int x2), (3, .int x3)] → W p l e rmX5_fullest s m args below meth c H locs 0 0 Q (F0 m 4 ls []) := by
    intro n
    induction n with
    | zero => intro x2 x3 H locs ls hf; cases hf
    | succ n ih =>
      intro x2 x3 H locs ls hf hH hl
      have hf : pX5_fullest_4b u (pX5_fullest_4 u n) x2 x3 = some r := hf
      have J28 : ∀ (x3 : Int32) (s0 : Int32) (H : Heap) (locs : List Loc) (ls : Array Slot), pX5_fullest_28 u (pX5_fullest_4 u n) x3 s0 = some r → HS D A s (mW a ca u ++ wr) H locs → lv_has ls 4 [(0, .ref (a 0)), (3, .int x3)] → W p l e rmX5_fullest s m args below meth c H locs 0 0 Q (F0 m 28 ls [.int s0]) := by
        intro x3 s0 H locs ls hf hH hl
        unfold pX5_fullest_28 at hf
        refine lv_istore_n (lv' := [(2, .int s0), (0, .ref (a 0)), (3, .int x3)]) hx hb dX5_fullest_28 rfl hl (by decide) rfl (fun ls hl => ?_)
        refine lv_iinc (v := (x3 + 4)) (lv' := [(3, .int (x3 + 4)), (2, .int s0), (0, .ref (a 0))]) hx hb dX5_fullest_29 hl (k := 2) rfl rfl (by decide) rfl (fun ls hl => ?_)
        refine lv_goto (tgt := 4) hx hb dX5_fullest_32 (by decide) ?_
        exact ih _ _ _ _ _ hf hH (lv_sub hl [2, 1, 0] rfl)
      unfold pX5_fullest_4b at hf
      refine lv_iload_n hx hb dX5_fullest_4 rfl (lv_at hl 2 rfl) ?_
      refine lv_bipush (v := 16) hx hb dX5_fullest_5 (by decide) ?_
      refine lv_icmp_ge (tgt := 35) hx hb dX5_fullest_7 (by decide) (fun c101 => ?_) (fun c101 => ?_)
      · rw [if_pos c101] at hf
        refine lv_iload_n hx hb dX5_fullest_35 rfl (lv_at hl 1 rfl) ?_
        cases hf
        exact hend _ _ _ _ hH rfl dX5_fullest_36
      · rw [if_neg c101] at hf
        refine lv_aload_n hx hb dX5_fullest_10 rfl (lv_at hl 0 rfl) ?_
        refine lv_iload_n hx hb dX5_fullest_11 rfl (lv_at hl 2 rfl) ?_
        obtain ⟨y102, h_y102, hf⟩ := bnd hf
        refine cl_iV C0 hH hl.1 (As := [.int x3]) (rest := []) (mX5_dirtyIn l D ca a wr u x3 h_y102) gX5_fullest_X5_dirtyIn rfl rfl rfl hd_X5_dirtyIn ⟨Nat.le_of_ble_eq_true rfl, Nat.le_of_ble_eq_true rfl⟩ ⟨Nat.zero_le _, Nat.zero_le _⟩ (vM_X5 C0 hH) rfl (Nat.le_of_ble_eq_true rfl) dX5_fullest_12 (fun H locs hH => ?_)
        refine lv_aload_n hx hb dX5_fullest_15 rfl (lv_at hl 0 rfl) ?_
        refine lv_iload_n hx hb dX5_fullest_16 rfl (lv_at hl 1 rfl) ?_
        obtain ⟨y103, h_y103, hf⟩ := bnd hf
        refine cl_iV C0 hH hl.1 (As := [.int x2]) (rest := [.int y102]) (mX5_dirtyIn l D ca a wr u x2 h_y103) gX5_fullest_X5_dirtyIn rfl rfl rfl hd_X5_dirtyIn ⟨Nat.le_of_ble_eq_true rfl, Nat.le_of_ble_eq_true rfl⟩ ⟨Nat.zero_le _, Nat.zero_le _⟩ (vM_X5 C0 hH) rfl (Nat.le_of_ble_eq_true rfl) dX5_fullest_17 (fun H locs hH => ?_)
        refine lv_icmp_le (tgt := 27) hx hb dX5_fullest_20 (by decide) (fun c104 => ?_) (fun c104 => ?_)
        · rw [if_pos c104] at hf
          refine lv_iload_n hx hb dX5_fullest_27 rfl (lv_at hl 1 rfl) ?_
          exact J28 _ _ _ _ _ hf hH (lv_sub hl [0, 2] rfl)
        · rw [if_neg c104] at hf
          refine lv_iload_n hx hb dX5_fullest_23 rfl (lv_at hl 2 rfl) ?_
          refine lv_goto (tgt := 28) hx hb dX5_fullest_24 (by decide) ?_
          exact J28 _ _ _ _ _ hf hH (lv_sub hl [0, 2] rfl)
  unfold pX5_fullest at hf
  refine lv_iload_n hx hb dX5_fullest_0 rfl (lv_at hl 1 rfl) ?_
  refine lv_istore_n (lv' := [(2, .int x1), (0, .ref (a 0)), (1, .int x1)]) hx hb dX5_fullest_1 rfl hl (by decide) rfl (fun ls hl => ?_)
  refine lv_iload_n hx hb dX5_fullest_2 rfl (lv_at hl 2 rfl) ?_
  refine lv_istore_n (lv' := [(3, .int x1), (2, .int x1), (0, .ref (a 0)), (1, .int x1)]) hx hb dX5_fullest_3 rfl hl (by decide) rfl (fun ls hl => ?_)
  exact J4 FU _ _ _ _ _ hf hH (lv_sub hl [2, 1, 0] rfl)
def rmX5_puts : Room := { frames := 1, cells := 0, slots := 0, locals := 23 }
theorem hd_X5_puts : yX5_puts.cls = RX5 ∧ yX5_puts.cls ≠ "java/lang/invoke/MethodHandle" ∧ yX5_puts.cls ≠ "java/lang/invoke/VarHandle" ∧ (parseMethodDescriptor yX5_puts.desc).map (fun d => d.parameters.length) = some 4 := by decide +kernel
theorem inX5_puts_X5 : ∀ w ∈ wsX50, w ∈ wsX5_puts := by decide +kernel
set_option maxHeartbeats 4000000 in
set_option maxRecDepth 100000 in
theorem mX5_puts (l : Launch) (D : va_G) (ca : Gp) (a : Nat → Nat) (wr : va_W) (u : Mem) (x1 : Int32) (x2 : Int32) (x3 : Int32) (x4 : Int32) {u9 : Mem} (hf : pX5_puts u x1 x2 x3 x4 = some u9) : Mv l yX5_puts wsX5_puts rmX5_puts D ca [.ref (a 0), .int x1, .int x2, .int x3, .int x4] (mW a ca u ++ wr) (mW a ca u9 ++ wr) := by
  refine Mv_of (own := RX5) (cc := cX5_puts) (nL := 5) (by decide) rfl rfl rfl rfl (Nat.le_of_ble_eq_true rfl) ?_
  intro p e s m args below meth c Q A ls C0 hH hl hend
  obtain ⟨hx, hb, hml, hown, hts⟩ := id C0.1
  have hl : lv_has ls 5 [(0, .ref (a 0)), (1, .int x1), (2, .int x2), (3, .int x3), (4, .int x4)] := hl
  unfold pX5_puts at hf
  refine lv_aload_n hx hb dX5_puts_0 rfl (lv_at hl 0 rfl) ?_
  refine gM_X5_s C0 hH inX5_puts_X5 (by decide +kernel : Cond.fieldLink RX5 7 "GatheringCacheModel" "s" "[I" ∈ wsX5_puts) dX5_puts_1 ?_
  refine lv_iconst (v := 5) hx hb dX5_puts_4 (by decide) ?_
  refine lv_dup2_11 hx hb dX5_puts_5 rfl rfl ?_
  obtain ⟨y1, h_y1, hf⟩ := bnd hf
  refine lM_s C0 hH h_y1 dX5_puts_6 ?_
  refine lv_iconst (v := 1) hx hb dX5_puts_7 (by decide) ?_
  refine lv_iadd hx hb dX5_puts_8 ?_
  obtain ⟨u2, h_u2, hf⟩ := bnd hf
  refine sM_s C0 hH h_u2 dX5_puts_9 (fun H locs hH => ?_)
  refine lv_aload_n hx hb dX5_puts_10 rfl (lv_at hl 0 rfl) ?_
  refine lv_iload_n hx hb dX5_puts_11 rfl (lv_at hl 1 rfl) ?_
  refine lv_iconst (v := 0) hx hb dX5_puts_12 (by decide) ?_
  refine lv_iload_n hx hb dX5_puts_13 rfl (lv_at hl 2 rfl) ?_
  obtain ⟨u3, h_u3, hf⟩ := bnd hf
  refine cl_vV C0 hH hl.1 (As := [.int x1, .int 0, .int x2]) (rest := []) (mX5_lay l D ca a wr u2 x1 0 x2 h_u3) gX5_puts_X5_lay rfl rfl rfl hd_X5_lay ⟨Nat.le_of_ble_eq_true rfl, Nat.le_of_ble_eq_true rfl⟩ ⟨Nat.zero_le _, Nat.zero_le _⟩ (vM_X5 C0 hH) rfl (Nat.le_of_ble_eq_true rfl) dX5_puts_14 (fun H locs hH => ?_)
  refine lv_aload_n hx hb dX5_puts_17 rfl (lv_at hl 0 rfl) ?_
  refine lv_iload_n hx hb dX5_puts_18 rfl (lv_at hl 1 rfl) ?_
  refine lv_iconst (v := 1) hx hb dX5_puts_19 (by decide) ?_
  refine lv_iload_n hx hb dX5_puts_20 rfl (lv_at hl 3 rfl) ?_
  obtain ⟨u4, h_u4, hf⟩ := bnd hf
  refine cl_vV C0 hH hl.1 (As := [.int x1, .int 1, .int x3]) (rest := []) (mX5_lay l D ca a wr u3 x1 1 x3 h_u4) gX5_puts_X5_lay rfl rfl rfl hd_X5_lay ⟨Nat.le_of_ble_eq_true rfl, Nat.le_of_ble_eq_true rfl⟩ ⟨Nat.zero_le _, Nat.zero_le _⟩ (vM_X5 C0 hH) rfl (Nat.le_of_ble_eq_true rfl) dX5_puts_21 (fun H locs hH => ?_)
  refine lv_aload_n hx hb dX5_puts_24 rfl (lv_at hl 0 rfl) ?_
  refine lv_iload_n hx hb dX5_puts_25 rfl (lv_at hl 1 rfl) ?_
  refine lv_iconst (v := 2) hx hb dX5_puts_26 (by decide) ?_
  refine lv_aload_n hx hb dX5_puts_27 rfl (lv_at hl 0 rfl) ?_
  refine gM_X5_s C0 hH inX5_puts_X5 (by decide +kernel : Cond.fieldLink RX5 7 "GatheringCacheModel" "s" "[I" ∈ wsX5_puts) dX5_puts_28 ?_
  refine lv_iconst (v := 4) hx hb dX5_puts_31 (by decide) ?_
  obtain ⟨y5, h_y5, hf⟩ := bnd hf
  refine lM_s C0 hH h_y5 dX5_puts_32 ?_
  obtain ⟨u6, h_u6, hf⟩ := bnd hf
  refine cl_vV C0 hH hl.1 (As := [.int x1, .int 2, .int y5]) (rest := []) (mX5_lay l D ca a wr u4 x1 2 y5 h_u6) gX5_puts_X5_lay rfl rfl rfl hd_X5_lay ⟨Nat.le_of_ble_eq_true rfl, Nat.le_of_ble_eq_true rfl⟩ ⟨Nat.zero_le _, Nat.zero_le _⟩ (vM_X5 C0 hH) rfl (Nat.le_of_ble_eq_true rfl) dX5_puts_33 (fun H locs hH => ?_)
  refine lv_aload_n hx hb dX5_puts_36 rfl (lv_at hl 0 rfl) ?_
  refine lv_iload_n hx hb dX5_puts_37 rfl (lv_at hl 1 rfl) ?_
  refine lv_iconst (v := 3) hx hb dX5_puts_38 (by decide) ?_
  refine lv_aload_n hx hb dX5_puts_39 rfl (lv_at hl 0 rfl) ?_
  refine gM_X5_s C0 hH inX5_puts_X5 (by decide +kernel : Cond.fieldLink RX5 7 "GatheringCacheModel" "s" "[I" ∈ wsX5_puts) dX5_puts_40 ?_
  refine lv_iconst (v := 5) hx hb dX5_puts_43 (by decide) ?_
  obtain ⟨y7, h_y7, hf⟩ := bnd hf
  refine lM_s C0 hH h_y7 dX5_puts_44 ?_
  obtain ⟨u8, h_u8, hf⟩ := bnd hf
  refine cl_vV C0 hH hl.1 (As := [.int x1, .int 3, .int y7]) (rest := []) (mX5_lay l D ca a wr u6 x1 3 y7 h_u8) gX5_puts_X5_lay rfl rfl rfl hd_X5_lay ⟨Nat.le_of_ble_eq_true rfl, Nat.le_of_ble_eq_true rfl⟩ ⟨Nat.zero_le _, Nat.zero_le _⟩ (vM_X5 C0 hH) rfl (Nat.le_of_ble_eq_true rfl) dX5_puts_45 (fun H locs hH => ?_)
  refine lv_aload_n hx hb dX5_puts_48 rfl (lv_at hl 0 rfl) ?_
  refine lv_iload_n hx hb dX5_puts_49 rfl (lv_at hl 1 rfl) ?_
  refine lv_iconst (v := 4) hx hb dX5_puts_50 (by decide) ?_
  refine lv_iload hx hb dX5_puts_51 (lv_at hl 4 rfl) ?_
  obtain ⟨u9, h_u9, hf⟩ := bnd hf
  refine cl_vV C0 hH hl.1 (As := [.int x1, .int 4, .int x4]) (rest := []) (mX5_lay l D ca a wr u8 x1 4 x4 h_u9) gX5_puts_X5_lay rfl rfl rfl hd_X5_lay ⟨Nat.le_of_ble_eq_true rfl, Nat.le_of_ble_eq_true rfl⟩ ⟨Nat.zero_le _, Nat.zero_le _⟩ (vM_X5 C0 hH) rfl (Nat.le_of_ble_eq_true rfl) dX5_puts_53 (fun H locs hH => ?_)
  cases hf
  exact hend _ _ _ _ hH dX5_puts_56
def rmX5_operations : Room := { frames := 0, cells := 0, slots := 0, locals := 0 }
theorem hd_X5_operations : yX5_operations.cls = RX5 ∧ yX5_operations.cls ≠ "java/lang/invoke/MethodHandle" ∧ yX5_operations.cls ≠ "java/lang/invoke/VarHandle" ∧ (parseMethodDescriptor yX5_operations.desc).map (fun d => d.parameters.length) = some 0 := by decide +kernel
theorem inX5_operations_X5 : ∀ w ∈ wsX50, w ∈ wsX5_operations := by decide +kernel
set_option maxHeartbeats 4000000 in
set_option maxRecDepth 100000 in
theorem mX5_operations (l : Launch) (D : va_G) (ca : Gp) (a : Nat → Nat) (wr : va_W) (u : Mem) {r : Int32} (hf : pX5_operations u = some r) : Mi l yX5_operations wsX5_operations rmX5_operations D ca [.ref (a 0)] (mW a ca u ++ wr) (mW a ca u ++ wr) r := by
  refine Mi_of (own := RX5) (cc := cX5_operations) (nL := 1) (ty := .int) (by decide) rfl rfl rfl rfl (Nat.le_of_ble_eq_true rfl) ?_
  intro p e s m args below meth c Q A ls C0 hH hl hend
  obtain ⟨hx, hb, hml, hown, hts⟩ := id C0.1
  have hl : lv_has ls 1 [(0, .ref (a 0))] := hl
  unfold pX5_operations at hf
  refine lv_aload_n hx hb dX5_operations_0 rfl (lv_at hl 0 rfl) ?_
  refine gM_X5_s C0 hH inX5_operations_X5 (by decide +kernel : Cond.fieldLink RX5 7 "GatheringCacheModel" "s" "[I" ∈ wsX5_operations) dX5_operations_1 ?_
  refine lv_bipush (v := 6) hx hb dX5_operations_4 (by decide) ?_
  obtain ⟨y1, h_y1, hf⟩ := bnd hf
  refine lM_s C0 hH h_y1 dX5_operations_6 ?_
  refine lv_aload_n hx hb dX5_operations_7 rfl (lv_at hl 0 rfl) ?_
  refine gM_X5_s C0 hH inX5_operations_X5 (by decide +kernel : Cond.fieldLink RX5 7 "GatheringCacheModel" "s" "[I" ∈ wsX5_operations) dX5_operations_8 ?_
  refine lv_bipush (v := 7) hx hb dX5_operations_11 (by decide) ?_
  obtain ⟨y2, h_y2, hf⟩ := bnd hf
  refine lM_s C0 hH h_y2 dX5_operations_13 ?_
  refine lv_iadd hx hb dX5_operations_14 ?_
  cases hf
  exact hend _ _ _ _ hH rfl dX5_operations_15
def rmX5_writes : Room := { frames := 5, cells := 0, slots := 0, locals := 111 }
theorem hd_X5_writes : yX5_writes.cls = RX5 ∧ yX5_writes.cls ≠ "java/lang/invoke/MethodHandle" ∧ yX5_writes.cls ≠ "java/lang/invoke/VarHandle" ∧ (parseMethodDescriptor yX5_writes.desc).map (fun d => d.parameters.length) = some 2 := by decide +kernel
theorem inX5_writes_X5 : ∀ w ∈ wsX50, w ∈ wsX5_writes := by decide +kernel
set_option maxHeartbeats 4000000 in
set_option maxRecDepth 100000 in
theorem mX5_writes (l : Launch) (D : va_G) (ca : Gp) (a : Nat → Nat) (wr : va_W) (u : Mem) (x1 : Int32) (x2 : Int32) {r : Int32} {u9 : Mem} (hf : pX5_writes u x1 x2 = some (r, u9)) : Mi l yX5_writes wsX5_writes rmX5_writes D ca [.ref (a 0), .int x1, .int x2] (mW a ca u ++ wr) (mW a ca u9 ++ wr) r := by
  refine Mi_of (own := RX5) (cc := cX5_writes) (nL := 6) (ty := .int) (by decide) rfl rfl rfl rfl (Nat.le_of_ble_eq_true rfl) ?_
  intro p e s m args below meth c Q A ls C0 hH hl hend
  obtain ⟨hx, hb, hml, hown, hts⟩ := id C0.1
  have hl : lv_has ls 6 [(0, .ref (a 0)), (1, .int x1), (2, .int x2)] := hl
  have J189 : ∀ (x3 : Int32) (u : Mem) (H : Heap) (locs : List Loc) (ls : Array Slot), pX5_writes_189 x3 u = some (r, u9) → HS D A s (mW a ca u ++ wr) H locs → lv_has ls 6 [(0, .ref (a 0)), (3, .int x3)] → W p l e rmX5_writes s m args below meth c H locs 0 0 Q (F0 m 189 ls []) := by
    intro x3 u H locs ls hf hH hl
    unfold pX5_writes_189 at hf
    refine lv_aload_n hx hb dX5_writes_189 rfl (lv_at hl 0 rfl) ?_
    obtain ⟨y401, h_y401, hf⟩ := bnd hf
    refine cl_iV C0 hH hl.1 (As := []) (rest := []) (mX5_operations l D ca a wr u h_y401) gX5_writes_X5_operations rfl rfl rfl hd_X5_operations ⟨Nat.le_of_ble_eq_true rfl, Nat.le_of_ble_eq_true rfl⟩ ⟨Nat.zero_le _, Nat.zero_le _⟩ (vM_X5 C0 hH) rfl (Nat.le_of_ble_eq_true rfl) dX5_writes_190 (fun H locs hH => ?_)
    refine lv_iload_n hx hb dX5_writes_193 rfl (lv_at hl 1 rfl) ?_
    refine lv_isub hx hb dX5_writes_194 ?_
    cases hf
    exact hend _ _ _ _ hH rfl dX5_writes_195
  have J113 : ∀ (x1 : Int32) (x2 : Int32) (x3 : Int32) (x4 : Int32) (u : Mem) (H : Heap) (locs : List Loc) (ls : Array Slot), pX5_writes_113 x1 x2 x3 x4 u = some (r, u9) → HS D A s (mW a ca u ++ wr) H locs → lv_has ls 6 [(0, .ref (a 0)), (1, .int x1), (2, .int x2), (3, .int x3), (4, .int x4)] → W p l e rmX5_writes s m args below meth c H locs 0 0 Q (F0 m 113 ls []) := by
    intro x1 x2 x3 x4 u H locs ls hf hH hl
    unfold pX5_writes_113 at hf
    refine lv_aload_n hx hb dX5_writes_113 rfl (lv_at hl 0 rfl) ?_
    refine lv_iload hx hb dX5_writes_114 (lv_at hl 4 rfl) ?_
    refine lv_iload_n hx hb dX5_writes_116 rfl (lv_at hl 1 rfl) ?_
    refine lv_iload_n hx hb dX5_writes_117 rfl (lv_at hl 2 rfl) ?_
    refine lv_iconst (v := 1) hx hb dX5_writes_118 (by decide) ?_
    obtain ⟨u201, h_u201, hf⟩ := bnd hf
    refine cl_vV C0 hH hl.1 (As := [.int x4, .int x1, .int x2, .int 1]) (rest := []) (mX5_puts l D ca a wr u x4 x1 x2 1 h_u201) gX5_writes_X5_puts rfl rfl rfl hd_X5_puts ⟨Nat.le_of_ble_eq_true rfl, Nat.le_of_ble_eq_true rfl⟩ ⟨Nat.zero_le _, Nat.zero_le _⟩ (vM_X5 C0 hH) rfl (Nat.le_of_ble_eq_true rfl) dX5_writes_119 (fun H locs hH => ?_)
    refine lv_aload_n hx hb dX5_writes_122 rfl (lv_at hl 0 rfl) ?_
    refine gM_X5_s C0 hH inX5_writes_X5 (by decide +kernel : Cond.fieldLink RX5 7 "GatheringCacheModel" "s" "[I" ∈ wsX5_writes) dX5_writes_123 ?_
    refine lv_bipush (v := 8) hx hb dX5_writes_126 (by decide) ?_
    refine lv_dup2_11 hx hb dX5_writes_128 rfl rfl ?_
    obtain ⟨y202, h_y202, hf⟩ := bnd hf
    refine lM_s C0 hH h_y202 dX5_writes_129 ?_
    refine lv_iconst (v := 1) hx hb dX5_writes_130 (by decide) ?_
    refine lv_iadd hx hb dX5_writes_131 ?_
    obtain ⟨u203, h_u203, hf⟩ := bnd hf
    refine sM_s C0 hH h_u203 dX5_writes_132 (fun H locs hH => ?_)
    refine lv_goto (tgt := 189) hx hb dX5_writes_133 (by decide) ?_
    exact J189 _ _ _ _ _ hf hH (lv_sub hl [0, 3] rfl)
  have J86 : ∀ (x1 : Int32) (x2 : Int32) (x3 : Int32) (x5 : Int32) (s0 : Int32) (u : Mem) (H : Heap) (locs : List Loc) (ls : Array Slot), pX5_writes_86 x1 x2 x3 x5 s0 u = some (r, u9) → HS D A s (mW a ca u ++ wr) H locs → lv_has ls 6 [(0, .ref (a 0)), (1, .int x1), (2, .int x2), (3, .int x3), (5, .int x5)] → W p l e rmX5_writes s m args below meth c H locs 0 0 Q (F0 m 86 ls [.int s0]) := by
    intro x1 x2 x3 x5 s0 u H locs ls hf hH hl
    unfold pX5_writes_86 at hf
    refine lv_istore (lv' := [(4, .int s0), (0, .ref (a 0)), (1, .int x1), (2, .int x2), (3, .int x3), (5, .int x5)]) hx hb dX5_writes_86 hl (by decide) rfl (fun ls hl => ?_)
    refine lv_iload hx hb dX5_writes_88 (lv_at hl 0 rfl) ?_
    refine lv_iconst (v := (-1)) hx hb dX5_writes_90 (by decide) ?_
    refine lv_icmp_ne (tgt := 113) hx hb dX5_writes_91 (by decide) (fun c101 => ?_) (fun c101 => ?_)
    · rw [if_neg c101] at hf
      exact J113 _ _ _ _ _ _ _ _ hf hH (lv_sub hl [1, 2, 3, 4, 0] rfl)
    · rw [if_pos c101] at hf
      refine lv_aload_n hx hb dX5_writes_94 rfl (lv_at hl 1 rfl) ?_
      refine lv_aload_n hx hb dX5_writes_95 rfl (lv_at hl 1 rfl) ?_
      refine lv_iload hx hb dX5_writes_96 (lv_at hl 5 rfl) ?_
      obtain ⟨y102, h_y102, hf⟩ := bnd hf
      refine cl_iV C0 hH hl.1 (As := [.int x5]) (rest := [.ref (a 0)]) (mX5_fullest l D ca a wr u x5 h_y102) gX5_writes_X5_fullest rfl rfl rfl hd_X5_fullest ⟨Nat.le_of_ble_eq_true rfl, Nat.le_of_ble_eq_true rfl⟩ ⟨Nat.zero_le _, Nat.zero_le _⟩ (vM_X5 C0 hH) rfl (Nat.le_of_ble_eq_true rfl) dX5_writes_98 (fun H locs hH => ?_)
      obtain ⟨y103, u104, h_y103, hf⟩ := bnd2 hf
      refine cl_iV C0 hH hl.1 (As := [.int y102]) (rest := []) (mX5_destages l D ca a wr u y102 h_y103) gX5_writes_X5_destages rfl rfl rfl hd_X5_destages ⟨Nat.le_of_ble_eq_true rfl, Nat.le_of_ble_eq_true rfl⟩ ⟨Nat.zero_le _, Nat.zero_le _⟩ (vM_X5 C0 hH) rfl (Nat.le_of_ble_eq_true rfl) dX5_writes_101 (fun H locs hH => ?_)
      refine lv_pop hx hb dX5_writes_104 rfl ?_
      refine lv_aload_n hx hb dX5_writes_105 rfl (lv_at hl 1 rfl) ?_
      refine lv_iload hx hb dX5_writes_106 (lv_at hl 5 rfl) ?_
      obtain ⟨y105, h_y105, hf⟩ := bnd hf
      refine cl_iV C0 hH hl.1 (As := [.int x5]) (rest := []) (mX5_taken l D ca a wr u104 x5 h_y105) gX5_writes_X5_taken rfl rfl rfl hd_X5_taken ⟨Nat.le_of_ble_eq_true rfl, Nat.le_of_ble_eq_true rfl⟩ ⟨Nat.zero_le _, Nat.zero_le _⟩ (vM_X5 C0 hH) rfl (Nat.le_of_ble_eq_true rfl) dX5_writes_108 (fun H locs hH => ?_)
      refine lv_istore (lv' := [(4, .int y105), (0, .ref (a 0)), (1, .int x1), (2, .int x2), (3, .int x3), (5, .int x5)]) hx hb dX5_writes_111 hl (by decide) rfl (fun ls hl => ?_)
      exact J113 _ _ _ _ _ _ _ _ hf hH (lv_sub hl [1, 2, 3, 4, 0] rfl)
  have J178 : ∀ (x3 : Int32) (u : Mem) (H : Heap) (locs : List Loc) (ls : Array Slot), pX5_writes_178 x3 u = some (r, u9) → HS D A s (mW a ca u ++ wr) H locs → lv_has ls 6 [(0, .ref (a 0)), (3, .int x3)] → W p l e rmX5_writes s m args below meth c H locs 0 0 Q (F0 m 178 ls []) := by
    intro x3 u H locs ls hf hH hl
    unfold pX5_writes_178 at hf
    refine lv_aload_n hx hb dX5_writes_178 rfl (lv_at hl 0 rfl) ?_
    refine gM_X5_s C0 hH inX5_writes_X5 (by decide +kernel : Cond.fieldLink RX5 7 "GatheringCacheModel" "s" "[I" ∈ wsX5_writes) dX5_writes_179 ?_
    refine lv_bipush (v := 9) hx hb dX5_writes_182 (by decide) ?_
    refine lv_dup2_11 hx hb dX5_writes_184 rfl rfl ?_
    obtain ⟨y301, h_y301, hf⟩ := bnd hf
    refine lM_s C0 hH h_y301 dX5_writes_185 ?_
    refine lv_iconst (v := 1) hx hb dX5_writes_186 (by decide) ?_
    refine lv_iadd hx hb dX5_writes_187 ?_
    obtain ⟨u302, h_u302, hf⟩ := bnd hf
    refine sM_s C0 hH h_u302 dX5_writes_188 (fun H locs hH => ?_)
    exact J189 _ _ _ _ _ hf hH (lv_sub hl [0, 1] rfl)
  unfold pX5_writes at hf
  refine lv_aload_n hx hb dX5_writes_0 rfl (lv_at hl 0 rfl) ?_
  obtain ⟨y1, h_y1, hf⟩ := bnd hf
  refine cl_iV C0 hH hl.1 (As := []) (rest := []) (mX5_operations l D ca a wr u h_y1) gX5_writes_X5_operations rfl rfl rfl hd_X5_operations ⟨Nat.le_of_ble_eq_true rfl, Nat.le_of_ble_eq_true rfl⟩ ⟨Nat.zero_le _, Nat.zero_le _⟩ (vM_X5 C0 hH) rfl (Nat.le_of_ble_eq_true rfl) dX5_writes_1 (fun H locs hH => ?_)
  refine lv_istore_n (lv' := [(3, .int y1), (0, .ref (a 0)), (1, .int x1), (2, .int x2)]) hx hb dX5_writes_4 rfl hl (by decide) rfl (fun ls hl => ?_)
  refine lv_aload_n hx hb dX5_writes_5 rfl (lv_at hl 1 rfl) ?_
  refine lv_iload_n hx hb dX5_writes_6 rfl (lv_at hl 2 rfl) ?_
  obtain ⟨y2, h_y2, hf⟩ := bnd hf
  refine cl_iV C0 hH hl.1 (As := [.int x1]) (rest := []) (mX5_lineOf l D ca a wr u x1 h_y2) gX5_writes_X5_lineOf rfl rfl rfl hd_X5_lineOf ⟨Nat.le_of_ble_eq_true rfl, Nat.le_of_ble_eq_true rfl⟩ ⟨Nat.zero_le _, Nat.zero_le _⟩ (vM_X5 C0 hH) rfl (Nat.le_of_ble_eq_true rfl) dX5_writes_7 (fun H locs hH => ?_)
  refine lv_istore (lv' := [(4, .int y2), (3, .int y1), (0, .ref (a 0)), (1, .int x1), (2, .int x2)]) hx hb dX5_writes_10 hl (by decide) rfl (fun ls hl => ?_)
  refine lv_aload_n hx hb dX5_writes_12 rfl (lv_at hl 2 rfl) ?_
  refine gM_X5_s C0 hH inX5_writes_X5 (by decide +kernel : Cond.fieldLink RX5 7 "GatheringCacheModel" "s" "[I" ∈ wsX5_writes) dX5_writes_13 ?_
  refine lv_iconst (v := 4) hx hb dX5_writes_16 (by decide) ?_
  refine lv_dup2_11 hx hb dX5_writes_17 rfl rfl ?_
  obtain ⟨y3, h_y3, hf⟩ := bnd hf
  refine lM_s C0 hH h_y3 dX5_writes_18 ?_
  refine lv_iconst (v := 1) hx hb dX5_writes_19 (by decide) ?_
  refine lv_iadd hx hb dX5_writes_20 ?_
  obtain ⟨u4, h_u4, hf⟩ := bnd hf
  refine sM_s C0 hH h_u4 dX5_writes_21 (fun H locs hH => ?_)
  refine lv_aload_n hx hb dX5_writes_22 rfl (lv_at hl 2 rfl) ?_
  refine gM_X5_s C0 hH inX5_writes_X5 (by decide +kernel : Cond.fieldLink RX5 7 "GatheringCacheModel" "s" "[I" ∈ wsX5_writes) dX5_writes_23 ?_
  refine lv_sipush (v := 143) hx hb dX5_writes_26 (by decide) ?_
  refine lv_iconst (v := 2) hx hb dX5_writes_29 (by decide) ?_
  refine lv_iload_n hx hb dX5_writes_30 rfl (lv_at hl 3 rfl) ?_
  refine lv_imul hx hb dX5_writes_31 ?_
  refine lv_iadd hx hb dX5_writes_32 ?_
  refine lv_iload_n hx hb dX5_writes_33 rfl (lv_at hl 4 rfl) ?_
  obtain ⟨u5, h_u5, hf⟩ := bnd hf
  refine sM_s C0 hH h_u5 dX5_writes_34 (fun H locs hH => ?_)
  refine lv_aload_n hx hb dX5_writes_35 rfl (lv_at hl 2 rfl) ?_
  refine gM_X5_s C0 hH inX5_writes_X5 (by decide +kernel : Cond.fieldLink RX5 7 "GatheringCacheModel" "s" "[I" ∈ wsX5_writes) dX5_writes_36 ?_
  refine lv_sipush (v := 143) hx hb dX5_writes_39 (by decide) ?_
  refine lv_iconst (v := 2) hx hb dX5_writes_42 (by decide) ?_
  refine lv_iload_n hx hb dX5_writes_43 rfl (lv_at hl 3 rfl) ?_
  refine lv_imul hx hb dX5_writes_44 ?_
  refine lv_iadd hx hb dX5_writes_45 ?_
  refine lv_iconst (v := 1) hx hb dX5_writes_46 (by decide) ?_
  refine lv_iadd hx hb dX5_writes_47 ?_
  refine lv_aload_n hx hb dX5_writes_48 rfl (lv_at hl 2 rfl) ?_
  refine gM_X5_s C0 hH inX5_writes_X5 (by decide +kernel : Cond.fieldLink RX5 7 "GatheringCacheModel" "s" "[I" ∈ wsX5_writes) dX5_writes_49 ?_
  refine lv_iconst (v := 4) hx hb dX5_writes_52 (by decide) ?_
  obtain ⟨y6, h_y6, hf⟩ := bnd hf
  refine lM_s C0 hH h_y6 dX5_writes_53 ?_
  obtain ⟨u7, h_u7, hf⟩ := bnd hf
  refine sM_s C0 hH h_u7 dX5_writes_54 (fun H locs hH => ?_)
  refine lv_aload_n hx hb dX5_writes_55 rfl (lv_at hl 2 rfl) ?_
  obtain ⟨y8, h_y8, hf⟩ := bnd hf
  refine cl_iV C0 hH hl.1 (As := []) (rest := []) (mX5_isGathered l D ca a wr u7 h_y8) gX5_writes_X5_isGathered rfl rfl rfl hd_X5_isGathered ⟨Nat.le_of_ble_eq_true rfl, Nat.le_of_ble_eq_true rfl⟩ ⟨Nat.zero_le _, Nat.zero_le _⟩ (vM_X5 C0 hH) rfl (Nat.le_of_ble_eq_true rfl) dX5_writes_56 (fun H locs hH => ?_)
  refine lv_if_eq (tgt := 136) hx hb dX5_writes_59 (by decide) (fun c9 => ?_) (fun c9 => ?_)
  · rw [if_pos c9] at hf
    refine lv_aload_n hx hb dX5_writes_136 rfl (lv_at hl 2 rfl) ?_
    refine lv_iconst (v := 1) hx hb dX5_writes_137 (by decide) ?_
    obtain ⟨u10, h_u10, hf⟩ := bnd hf
    refine cl_vV C0 hH hl.1 (As := [.int 1]) (rest := []) (mX5_countsWrite l D ca a wr u7 1 h_u10) gX5_writes_X5_countsWrite rfl rfl rfl hd_X5_countsWrite ⟨Nat.le_of_ble_eq_true rfl, Nat.le_of_ble_eq_true rfl⟩ ⟨Nat.zero_le _, Nat.zero_le _⟩ (vM_X5 C0 hH) rfl (Nat.le_of_ble_eq_true rfl) dX5_writes_138 (fun H locs hH => ?_)
    refine lv_aload_n hx hb dX5_writes_141 rfl (lv_at hl 2 rfl) ?_
    refine lv_iload_n hx hb dX5_writes_142 rfl (lv_at hl 3 rfl) ?_
    refine lv_iload_n hx hb dX5_writes_143 rfl (lv_at hl 4 rfl) ?_
    refine lv_aload_n hx hb dX5_writes_144 rfl (lv_at hl 2 rfl) ?_
    refine gM_X5_s C0 hH inX5_writes_X5 (by decide +kernel : Cond.fieldLink RX5 7 "GatheringCacheModel" "s" "[I" ∈ wsX5_writes) dX5_writes_145 ?_
    refine lv_iconst (v := 4) hx hb dX5_writes_148 (by decide) ?_
    obtain ⟨y11, h_y11, hf⟩ := bnd hf
    refine lM_s C0 hH h_y11 dX5_writes_149 ?_
    obtain ⟨u12, h_u12, hf⟩ := bnd hf
    refine cl_vV C0 hH hl.1 (As := [.int x1, .int x2, .int y11]) (rest := []) (mX5_toDisk l D ca a wr u10 x1 x2 y11 h_u12) gX5_writes_X5_toDisk rfl rfl rfl hd_X5_toDisk ⟨Nat.le_of_ble_eq_true rfl, Nat.le_of_ble_eq_true rfl⟩ ⟨Nat.zero_le _, Nat.zero_le _⟩ (vM_X5 C0 hH) rfl (Nat.le_of_ble_eq_true rfl) dX5_writes_150 (fun H locs hH => ?_)
    refine lv_aload_n hx hb dX5_writes_153 rfl (lv_at hl 2 rfl) ?_
    refine gM_X5_s C0 hH inX5_writes_X5 (by decide +kernel : Cond.fieldLink RX5 7 "GatheringCacheModel" "s" "[I" ∈ wsX5_writes) dX5_writes_154 ?_
    refine lv_iconst (v := 0) hx hb dX5_writes_157 (by decide) ?_
    obtain ⟨y13, h_y13, hf⟩ := bnd hf
    refine lM_s C0 hH h_y13 dX5_writes_158 ?_
    refine lv_iconst (v := 1) hx hb dX5_writes_159 (by decide) ?_
    refine lv_icmp_ne (tgt := 178) hx hb dX5_writes_160 (by decide) (fun c14 => ?_) (fun c14 => ?_)
    · rw [if_neg c14] at hf
      exact J178 _ _ _ _ _ hf hH (lv_sub hl [2, 1] rfl)
    · rw [if_pos c14] at hf
      refine lv_iload hx hb dX5_writes_163 (lv_at hl 0 rfl) ?_
      refine lv_iconst (v := (-1)) hx hb dX5_writes_165 (by decide) ?_
      refine lv_icmp_eq (tgt := 178) hx hb dX5_writes_166 (by decide) (fun c15 => ?_) (fun c15 => ?_)
      · rw [if_pos c15] at hf
        exact J178 _ _ _ _ _ hf hH (lv_sub hl [2, 1] rfl)
      · rw [if_neg c15] at hf
        refine lv_aload_n hx hb dX5_writes_169 rfl (lv_at hl 2 rfl) ?_
        refine lv_iload hx hb dX5_writes_170 (lv_at hl 0 rfl) ?_
        refine lv_iload_n hx hb dX5_writes_172 rfl (lv_at hl 3 rfl) ?_
        refine lv_iload_n hx hb dX5_writes_173 rfl (lv_at hl 4 rfl) ?_
        refine lv_iconst (v := 0) hx hb dX5_writes_174 (by decide) ?_
        obtain ⟨u16, h_u16, hf⟩ := bnd hf
        refine cl_vV C0 hH hl.1 (As := [.int y2, .int x1, .int x2, .int 0]) (rest := []) (mX5_puts l D ca a wr u12 y2 x1 x2 0 h_u16) gX5_writes_X5_puts rfl rfl rfl hd_X5_puts ⟨Nat.le_of_ble_eq_true rfl, Nat.le_of_ble_eq_true rfl⟩ ⟨Nat.zero_le _, Nat.zero_le _⟩ (vM_X5 C0 hH) rfl (Nat.le_of_ble_eq_true rfl) dX5_writes_175 (fun H locs hH => ?_)
        exact J178 _ _ _ _ _ hf hH (lv_sub hl [2, 1] rfl)
  · rw [if_neg c9] at hf
    refine lv_iload_n hx hb dX5_writes_62 rfl (lv_at hl 3 rfl) ?_
    refine lv_iconst (v := 4) hx hb dX5_writes_63 (by decide) ?_
    refine lv_idiv hx hb dX5_writes_64 (by decide) ?_
    refine lv_iconst (v := 4) hx hb dX5_writes_65 (by decide) ?_
    refine lv_irem hx hb dX5_writes_66 (by decide) ?_
    refine lv_istore (lv' := [(5, .int ((x1 / 4) - (x1 / 4) / 4 * 4)), (4, .int y2), (3, .int y1), (0, .ref (a 0)), (1, .int x1), (2, .int x2)]) hx hb dX5_writes_67 hl (by decide) rfl (fun ls hl => ?_)
    refine lv_iload hx hb dX5_writes_69 (lv_at hl 1 rfl) ?_
    refine lv_iconst (v := (-1)) hx hb dX5_writes_71 (by decide) ?_
    refine lv_icmp_ne (tgt := 84) hx hb dX5_writes_72 (by decide) (fun c17 => ?_) (fun c17 => ?_)
    · rw [if_neg c17] at hf
      refine lv_iload hx hb dX5_writes_84 (lv_at hl 1 rfl) ?_
      exact J86 _ _ _ _ _ _ _ _ _ hf hH (lv_sub hl [3, 4, 5, 2, 0] rfl)
    · rw [if_pos c17] at hf
      refine lv_aload_n hx hb dX5_writes_75 rfl (lv_at hl 3 rfl) ?_
      refine lv_iload hx hb dX5_writes_76 (lv_at hl 0 rfl) ?_
      obtain ⟨y18, h_y18, hf⟩ := bnd hf
      refine cl_iV C0 hH hl.1 (As := [.int ((x1 / 4) - (x1 / 4) / 4 * 4)]) (rest := []) (mX5_taken l D ca a wr u7 ((x1 / 4) - (x1 / 4) / 4 * 4) h_y18) gX5_writes_X5_taken rfl rfl rfl hd_X5_taken ⟨Nat.le_of_ble_eq_true rfl, Nat.le_of_ble_eq_true rfl⟩ ⟨Nat.zero_le _, Nat.zero_le _⟩ (vM_X5 C0 hH) rfl (Nat.le_of_ble_eq_true rfl) dX5_writes_78 (fun H locs hH => ?_)
      refine lv_goto (tgt := 86) hx hb dX5_writes_81 (by decide) ?_
      exact J86 _ _ _ _ _ _ _ _ _ hf hH (lv_sub hl [3, 4, 5, 2, 0] rfl)
def rmX5_reads : Room := { frames := 2, cells := 0, slots := 0, locals := 44 }
theorem hd_X5_reads : yX5_reads.cls = RX5 ∧ yX5_reads.cls ≠ "java/lang/invoke/MethodHandle" ∧ yX5_reads.cls ≠ "java/lang/invoke/VarHandle" ∧ (parseMethodDescriptor yX5_reads.desc).map (fun d => d.parameters.length) = some 1 := by decide +kernel
theorem inX5_reads_X5 : ∀ w ∈ wsX50, w ∈ wsX5_reads := by decide +kernel
set_option maxHeartbeats 4000000 in
set_option maxRecDepth 100000 in
theorem mX5_reads (l : Launch) (D : va_G) (ca : Gp) (a : Nat → Nat) (wr : va_W) (u : Mem) (x1 : Int32) {r : Int32} {u9 : Mem} (hf : pX5_reads u x1 = some (r, u9)) : Mi l yX5_reads wsX5_reads rmX5_reads D ca [.ref (a 0), .int x1] (mW a ca u ++ wr) (mW a ca u9 ++ wr) r := by
  refine Mi_of (own := RX5) (cc := cX5_reads) (nL := 3) (ty := .int) (by decide) rfl rfl rfl rfl (Nat.le_of_ble_eq_true rfl) ?_
  intro p e s m args below meth c Q A ls C0 hH hl hend
  obtain ⟨hx, hb, hml, hown, hts⟩ := id C0.1
  have hl : lv_has ls 3 [(0, .ref (a 0)), (1, .int x1)] := hl
  have J19 : ∀ (x1 : Int32) (s0 : Int32) (u : Mem) (H : Heap) (locs : List Loc) (ls : Array Slot), pX5_reads_19 x1 s0 u = some (r, u9) → HS D A s (mW a ca u ++ wr) H locs → lv_has ls 3 [(0, .ref (a 0)), (1, .int x1)] → W p l e rmX5_reads s m args below meth c H locs 0 0 Q (F0 m 19 ls [.int s0]) := by
    intro x1 s0 u H locs ls hf hH hl
    unfold pX5_reads_19 at hf
    refine lv_istore_n (lv' := [(2, .int s0), (0, .ref (a 0)), (1, .int x1)]) hx hb dX5_reads_19 rfl hl (by decide) rfl (fun ls hl => ?_)
    refine lv_iload_n hx hb dX5_reads_20 rfl (lv_at hl 0 rfl) ?_
    refine lv_iconst (v := (-1)) hx hb dX5_reads_21 (by decide) ?_
    refine lv_icmp_ne (tgt := 59) hx hb dX5_reads_22 (by decide) (fun c101 => ?_) (fun c101 => ?_)
    · rw [if_neg c101] at hf
      refine lv_aload_n hx hb dX5_reads_59 rfl (lv_at hl 1 rfl) ?_
      refine gM_X5_s C0 hH inX5_reads_X5 (by decide +kernel : Cond.fieldLink RX5 7 "GatheringCacheModel" "s" "[I" ∈ wsX5_reads) dX5_reads_60 ?_
      refine lv_iconst (v := 5) hx hb dX5_reads_63 (by decide) ?_
      refine lv_dup2_11 hx hb dX5_reads_64 rfl rfl ?_
      obtain ⟨y102, h_y102, hf⟩ := bnd hf
      refine lM_s C0 hH h_y102 dX5_reads_65 ?_
      refine lv_iconst (v := 1) hx hb dX5_reads_66 (by decide) ?_
      refine lv_iadd hx hb dX5_reads_67 ?_
      obtain ⟨u103, h_u103, hf⟩ := bnd hf
      refine sM_s C0 hH h_u103 dX5_reads_68 (fun H locs hH => ?_)
      refine lv_aload_n hx hb dX5_reads_69 rfl (lv_at hl 1 rfl) ?_
      refine lv_iload_n hx hb dX5_reads_70 rfl (lv_at hl 0 rfl) ?_
      refine lv_iconst (v := 3) hx hb dX5_reads_71 (by decide) ?_
      refine lv_aload_n hx hb dX5_reads_72 rfl (lv_at hl 1 rfl) ?_
      refine gM_X5_s C0 hH inX5_reads_X5 (by decide +kernel : Cond.fieldLink RX5 7 "GatheringCacheModel" "s" "[I" ∈ wsX5_reads) dX5_reads_73 ?_
      refine lv_iconst (v := 5) hx hb dX5_reads_76 (by decide) ?_
      obtain ⟨y104, h_y104, hf⟩ := bnd hf
      refine lM_s C0 hH h_y104 dX5_reads_77 ?_
      obtain ⟨u105, h_u105, hf⟩ := bnd hf
      refine cl_vV C0 hH hl.1 (As := [.int s0, .int 3, .int y104]) (rest := []) (mX5_lay l D ca a wr u103 s0 3 y104 h_u105) gX5_reads_X5_lay rfl rfl rfl hd_X5_lay ⟨Nat.le_of_ble_eq_true rfl, Nat.le_of_ble_eq_true rfl⟩ ⟨Nat.zero_le _, Nat.zero_le _⟩ (vM_X5 C0 hH) rfl (Nat.le_of_ble_eq_true rfl) dX5_reads_78 (fun H locs hH => ?_)
      refine lv_aload_n hx hb dX5_reads_81 rfl (lv_at hl 1 rfl) ?_
      refine gM_X5_s C0 hH inX5_reads_X5 (by decide +kernel : Cond.fieldLink RX5 7 "GatheringCacheModel" "s" "[I" ∈ wsX5_reads) dX5_reads_82 ?_
      refine lv_bipush (v := 10) hx hb dX5_reads_85 (by decide) ?_
      refine lv_dup2_11 hx hb dX5_reads_87 rfl rfl ?_
      obtain ⟨y106, h_y106, hf⟩ := bnd hf
      refine lM_s C0 hH h_y106 dX5_reads_88 ?_
      refine lv_iconst (v := 1) hx hb dX5_reads_89 (by decide) ?_
      refine lv_iadd hx hb dX5_reads_90 ?_
      obtain ⟨u107, h_u107, hf⟩ := bnd hf
      refine sM_s C0 hH h_u107 dX5_reads_91 (fun H locs hH => ?_)
      refine lv_aload_n hx hb dX5_reads_92 rfl (lv_at hl 1 rfl) ?_
      refine lv_iload_n hx hb dX5_reads_93 rfl (lv_at hl 0 rfl) ?_
      refine lv_iconst (v := 1) hx hb dX5_reads_94 (by decide) ?_
      obtain ⟨y108, h_y108, hf⟩ := bnd hf
      refine cl_iV C0 hH hl.1 (As := [.int s0, .int 1]) (rest := []) (mX5_of l D ca a wr u107 s0 1 h_y108) gX5_reads_X5_of rfl rfl rfl hd_X5_of ⟨Nat.le_of_ble_eq_true rfl, Nat.le_of_ble_eq_true rfl⟩ ⟨Nat.zero_le _, Nat.zero_le _⟩ (vM_X5 C0 hH) rfl (Nat.le_of_ble_eq_true rfl) dX5_reads_95 (fun H locs hH => ?_)
      cases hf
      exact hend _ _ _ _ hH rfl dX5_reads_98
    · rw [if_pos c101] at hf
      refine lv_aload_n hx hb dX5_reads_25 rfl (lv_at hl 1 rfl) ?_
      refine gM_X5_s C0 hH inX5_reads_X5 (by decide +kernel : Cond.fieldLink RX5 7 "GatheringCacheModel" "s" "[I" ∈ wsX5_reads) dX5_reads_26 ?_
      refine lv_bipush (v := 6) hx hb dX5_reads_29 (by decide) ?_
      refine lv_dup2_11 hx hb dX5_reads_31 rfl rfl ?_
      obtain ⟨y109, h_y109, hf⟩ := bnd hf
      refine lM_s C0 hH h_y109 dX5_reads_32 ?_
      refine lv_iconst (v := 1) hx hb dX5_reads_33 (by decide) ?_
      refine lv_iadd hx hb dX5_reads_34 ?_
      obtain ⟨u110, h_u110, hf⟩ := bnd hf
      refine sM_s C0 hH h_u110 dX5_reads_35 (fun H locs hH => ?_)
      refine lv_aload_n hx hb dX5_reads_36 rfl (lv_at hl 1 rfl) ?_
      refine gM_X5_s C0 hH inX5_reads_X5 (by decide +kernel : Cond.fieldLink RX5 7 "GatheringCacheModel" "s" "[I" ∈ wsX5_reads) dX5_reads_37 ?_
      refine lv_bipush (v := 11) hx hb dX5_reads_40 (by decide) ?_
      refine lv_dup2_11 hx hb dX5_reads_42 rfl rfl ?_
      obtain ⟨y111, h_y111, hf⟩ := bnd hf
      refine lM_s C0 hH h_y111 dX5_reads_43 ?_
      refine lv_iconst (v := 1) hx hb dX5_reads_44 (by decide) ?_
      refine lv_iadd hx hb dX5_reads_45 ?_
      obtain ⟨u112, h_u112, hf⟩ := bnd hf
      refine sM_s C0 hH h_u112 dX5_reads_46 (fun H locs hH => ?_)
      refine lv_aload_n hx hb dX5_reads_47 rfl (lv_at hl 1 rfl) ?_
      refine gM_X5_s C0 hH inX5_reads_X5 (by decide +kernel : Cond.fieldLink RX5 7 "GatheringCacheModel" "s" "[I" ∈ wsX5_reads) dX5_reads_48 ?_
      refine lv_bipush (v := 15) hx hb dX5_reads_51 (by decide) ?_
      refine lv_iconst (v := 2) hx hb dX5_reads_53 (by decide) ?_
      refine lv_iload_n hx hb dX5_reads_54 rfl (lv_at hl 2 rfl) ?_
      refine lv_imul hx hb dX5_reads_55 ?_
      refine lv_iadd hx hb dX5_reads_56 ?_
      obtain ⟨y113, h_y113, hf⟩ := bnd hf
      refine lM_s C0 hH h_y113 dX5_reads_57 ?_
      cases hf
      exact hend _ _ _ _ hH rfl dX5_reads_58
  unfold pX5_reads at hf
  refine lv_aload_n hx hb dX5_reads_0 rfl (lv_at hl 0 rfl) ?_
  refine gM_X5_s C0 hH inX5_reads_X5 (by decide +kernel : Cond.fieldLink RX5 7 "GatheringCacheModel" "s" "[I" ∈ wsX5_reads) dX5_reads_1 ?_
  refine lv_iconst (v := 0) hx hb dX5_reads_4 (by decide) ?_
  obtain ⟨y1, h_y1, hf⟩ := bnd hf
  refine lM_s C0 hH h_y1 dX5_reads_5 ?_
  refine lv_iconst (v := 1) hx hb dX5_reads_6 (by decide) ?_
  refine lv_icmp_ne (tgt := 18) hx hb dX5_reads_7 (by decide) (fun c2 => ?_) (fun c2 => ?_)
  · rw [if_neg c2] at hf
    refine lv_iconst (v := (-1)) hx hb dX5_reads_18 (by decide) ?_
    exact J19 _ _ _ _ _ _ hf hH (lv_sub hl [0, 1] rfl)
  · rw [if_pos c2] at hf
    refine lv_aload_n hx hb dX5_reads_10 rfl (lv_at hl 0 rfl) ?_
    refine lv_iload_n hx hb dX5_reads_11 rfl (lv_at hl 1 rfl) ?_
    obtain ⟨y3, h_y3, hf⟩ := bnd hf
    refine cl_iV C0 hH hl.1 (As := [.int x1]) (rest := []) (mX5_lineOf l D ca a wr u x1 h_y3) gX5_reads_X5_lineOf rfl rfl rfl hd_X5_lineOf ⟨Nat.le_of_ble_eq_true rfl, Nat.le_of_ble_eq_true rfl⟩ ⟨Nat.zero_le _, Nat.zero_le _⟩ (vM_X5 C0 hH) rfl (Nat.le_of_ble_eq_true rfl) dX5_reads_12 (fun H locs hH => ?_)
    refine lv_goto (tgt := 19) hx hb dX5_reads_15 (by decide) ?_
    exact J19 _ _ _ _ _ _ hf hH (lv_sub hl [0, 1] rfl)
def rmX5_isCharging : Room := { frames := 0, cells := 0, slots := 0, locals := 0 }
theorem hd_X5_isCharging : yX5_isCharging.cls = RX5 ∧ yX5_isCharging.cls ≠ "java/lang/invoke/MethodHandle" ∧ yX5_isCharging.cls ≠ "java/lang/invoke/VarHandle" ∧ (parseMethodDescriptor yX5_isCharging.desc).map (fun d => d.parameters.length) = some 0 := by decide +kernel
theorem inX5_isCharging_X5 : ∀ w ∈ wsX50, w ∈ wsX5_isCharging := by decide +kernel
set_option maxHeartbeats 4000000 in
set_option maxRecDepth 100000 in
theorem mX5_isCharging (l : Launch) (D : va_G) (ca : Gp) (a : Nat → Nat) (wr : va_W) (u : Mem) {r : Int32} (hf : pX5_isCharging u = some r) : Mi l yX5_isCharging wsX5_isCharging rmX5_isCharging D ca [.ref (a 0)] (mW a ca u ++ wr) (mW a ca u ++ wr) r := by
  refine Mi_of (own := RX5) (cc := cX5_isCharging) (nL := 1) (ty := .boolean) (by decide) rfl rfl rfl rfl (Nat.le_of_ble_eq_true rfl) ?_
  intro p e s m args below meth c Q A ls C0 hH hl hend
  obtain ⟨hx, hb, hml, hown, hts⟩ := id C0.1
  have hl : lv_has ls 1 [(0, .ref (a 0))] := hl
  have J25 : ∀ (s0 : Int32) (H : Heap) (locs : List Loc) (ls : Array Slot), pX5_isCharging_25 u s0 = some r → HS D A s (mW a ca u ++ wr) H locs → lv_has ls 1 [] → W p l e rmX5_isCharging s m args below meth c H locs 0 0 Q (F0 m 25 ls [.int s0]) := by
    intro s0 H locs ls hf hH hl
    unfold pX5_isCharging_25 at hf
    obtain ⟨hz, hf⟩ := gd hf
    cases hf
    exact hend _ _ _ _ hH (isz_n hz) dX5_isCharging_25
  have J24 : ∀ (H : Heap) (locs : List Loc) (ls : Array Slot), pX5_isCharging_24 u  = some r → HS D A s (mW a ca u ++ wr) H locs → lv_has ls 1 [] → W p l e rmX5_isCharging s m args below meth c H locs 0 0 Q (F0 m 24 ls []) := by
    intro H locs ls hf hH hl
    unfold pX5_isCharging_24 at hf
    refine lv_iconst (v := 0) hx hb dX5_isCharging_24 (by decide) ?_
    exact J25 _ _ _ _ hf hH (lv_sub hl [] rfl)
  unfold pX5_isCharging at hf
  refine lv_aload_n hx hb dX5_isCharging_0 rfl (lv_at hl 0 rfl) ?_
  refine gM_X5_s C0 hH inX5_isCharging_X5 (by decide +kernel : Cond.fieldLink RX5 7 "GatheringCacheModel" "s" "[I" ∈ wsX5_isCharging) dX5_isCharging_1 ?_
  refine lv_iconst (v := 1) hx hb dX5_isCharging_4 (by decide) ?_
  obtain ⟨y1, h_y1, hf⟩ := bnd hf
  refine lM_s C0 hH h_y1 dX5_isCharging_5 ?_
  refine lv_iconst (v := 1) hx hb dX5_isCharging_6 (by decide) ?_
  refine lv_icmp_ne (tgt := 24) hx hb dX5_isCharging_7 (by decide) (fun c2 => ?_) (fun c2 => ?_)
  · rw [if_neg c2] at hf
    exact J24 _ _ _ hf hH (lv_sub hl [] rfl)
  · rw [if_pos c2] at hf
    refine lv_aload_n hx hb dX5_isCharging_10 rfl (lv_at hl 0 rfl) ?_
    refine gM_X5_s C0 hH inX5_isCharging_X5 (by decide +kernel : Cond.fieldLink RX5 7 "GatheringCacheModel" "s" "[I" ∈ wsX5_isCharging) dX5_isCharging_11 ?_
    refine lv_iconst (v := 0) hx hb dX5_isCharging_14 (by decide) ?_
    obtain ⟨y3, h_y3, hf⟩ := bnd hf
    refine lM_s C0 hH h_y3 dX5_isCharging_15 ?_
    refine lv_iconst (v := 1) hx hb dX5_isCharging_16 (by decide) ?_
    refine lv_icmp_ne (tgt := 24) hx hb dX5_isCharging_17 (by decide) (fun c4 => ?_) (fun c4 => ?_)
    · rw [if_neg c4] at hf
      exact J24 _ _ _ hf hH (lv_sub hl [] rfl)
    · rw [if_pos c4] at hf
      refine lv_iconst (v := 1) hx hb dX5_isCharging_20 (by decide) ?_
      refine lv_goto (tgt := 25) hx hb dX5_isCharging_21 (by decide) ?_
      exact J25 _ _ _ _ hf hH (lv_sub hl [] rfl)
