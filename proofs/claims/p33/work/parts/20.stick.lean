/-! CONTRACTS, by program. -/
def rmX4_isBlock : Room := { frames := 0, cells := 0, slots := 0, locals := 0 }
theorem hd_X4_isBlock : yX4_isBlock.cls ≠ "java/lang/invoke/MethodHandle" ∧ yX4_isBlock.cls ≠ "java/lang/invoke/VarHandle" ∧ (parseMethodDescriptor yX4_isBlock.desc).map (fun d => d.parameters.length) = some 1 := by decide +kernel
set_option maxHeartbeats 4000000 in
set_option maxRecDepth 100000 in
theorem mX4_isBlock (l : Launch) (D : va_G) (ca : Gp) (w : va_W) (x0 : Int32) {r : Int32} (hf : pX4_isBlock x0 = some r) : Mi l yX4_isBlock wsX4_isBlock rmX4_isBlock D ca [.int x0] (w) (w) r := by
  refine Mi_of (own := RX4) (cc := cX4_isBlock) (nL := 1) (ty := .boolean) (by decide) rfl rfl rfl rfl (Nat.le_of_ble_eq_true rfl) ?_
  intro p e s m args below meth c Q A ls C0 hH hl hend
  obtain ⟨hx, hb, hml, hown, hts⟩ := id C0.1
  have hl : lv_has ls 1 [(0, .int x0)] := hl
  have J15 : ∀ (s0 : Int32) (H : Heap) (locs : List Loc) (ls : Array Slot), pX4_isBlock_15 s0 = some r → HS D A s (w) H locs → lv_has ls 1 [] → W p l e rmX4_isBlock s m args below meth c H locs 0 0 Q (F0 m 15 ls [.int s0]) := by
    intro s0 H locs ls hf hH hl
    unfold pX4_isBlock_15 at hf
    obtain ⟨hz, hf⟩ := gd hf
    cases hf
    exact hend _ _ _ _ hH (isz_n hz) dX4_isBlock_15
  have J14 : ∀ (H : Heap) (locs : List Loc) (ls : Array Slot), pX4_isBlock_14  = some r → HS D A s (w) H locs → lv_has ls 1 [] → W p l e rmX4_isBlock s m args below meth c H locs 0 0 Q (F0 m 14 ls []) := by
    intro H locs ls hf hH hl
    unfold pX4_isBlock_14 at hf
    refine lv_iconst (v := 0) hx hb dX4_isBlock_14 (by decide) ?_
    exact J15 _ _ _ _ hf hH (lv_sub hl [] rfl)
  unfold pX4_isBlock at hf
  refine lv_iload_n hx hb dX4_isBlock_0 rfl (lv_at hl 0 rfl) ?_
  refine lv_if_lt (tgt := 14) hx hb dX4_isBlock_1 (by decide) (fun c1 => ?_) (fun c1 => ?_)
  · rw [if_pos c1] at hf
    exact J14 _ _ _ hf hH (lv_sub hl [] rfl)
  · rw [if_neg c1] at hf
    refine lv_iload_n hx hb dX4_isBlock_4 rfl (lv_at hl 0 rfl) ?_
    refine lv_bipush (v := 64) hx hb dX4_isBlock_5 (by decide) ?_
    refine lv_icmp_ge (tgt := 14) hx hb dX4_isBlock_7 (by decide) (fun c2 => ?_) (fun c2 => ?_)
    · rw [if_pos c2] at hf
      exact J14 _ _ _ hf hH (lv_sub hl [] rfl)
    · rw [if_neg c2] at hf
      refine lv_iconst (v := 1) hx hb dX4_isBlock_10 (by decide) ?_
      refine lv_goto (tgt := 15) hx hb dX4_isBlock_11 (by decide) ?_
      exact J15 _ _ _ _ hf hH (lv_sub hl [] rfl)
def rmX4_isLine : Room := { frames := 0, cells := 0, slots := 0, locals := 0 }
theorem hd_X4_isLine : yX4_isLine.cls ≠ "java/lang/invoke/MethodHandle" ∧ yX4_isLine.cls ≠ "java/lang/invoke/VarHandle" ∧ (parseMethodDescriptor yX4_isLine.desc).map (fun d => d.parameters.length) = some 1 := by decide +kernel
set_option maxHeartbeats 4000000 in
set_option maxRecDepth 100000 in
theorem mX4_isLine (l : Launch) (D : va_G) (ca : Gp) (w : va_W) (x0 : Int32) {r : Int32} (hf : pX4_isLine x0 = some r) : Mi l yX4_isLine wsX4_isLine rmX4_isLine D ca [.int x0] (w) (w) r := by
  refine Mi_of (own := RX4) (cc := cX4_isLine) (nL := 1) (ty := .boolean) (by decide) rfl rfl rfl rfl (Nat.le_of_ble_eq_true rfl) ?_
  intro p e s m args below meth c Q A ls C0 hH hl hend
  obtain ⟨hx, hb, hml, hown, hts⟩ := id C0.1
  have hl : lv_has ls 1 [(0, .int x0)] := hl
  have J15 : ∀ (s0 : Int32) (H : Heap) (locs : List Loc) (ls : Array Slot), pX4_isLine_15 s0 = some r → HS D A s (w) H locs → lv_has ls 1 [] → W p l e rmX4_isLine s m args below meth c H locs 0 0 Q (F0 m 15 ls [.int s0]) := by
    intro s0 H locs ls hf hH hl
    unfold pX4_isLine_15 at hf
    obtain ⟨hz, hf⟩ := gd hf
    cases hf
    exact hend _ _ _ _ hH (isz_n hz) dX4_isLine_15
  have J14 : ∀ (H : Heap) (locs : List Loc) (ls : Array Slot), pX4_isLine_14  = some r → HS D A s (w) H locs → lv_has ls 1 [] → W p l e rmX4_isLine s m args below meth c H locs 0 0 Q (F0 m 14 ls []) := by
    intro H locs ls hf hH hl
    unfold pX4_isLine_14 at hf
    refine lv_iconst (v := 0) hx hb dX4_isLine_14 (by decide) ?_
    exact J15 _ _ _ _ hf hH (lv_sub hl [] rfl)
  unfold pX4_isLine at hf
  refine lv_iload_n hx hb dX4_isLine_0 rfl (lv_at hl 0 rfl) ?_
  refine lv_if_lt (tgt := 14) hx hb dX4_isLine_1 (by decide) (fun c1 => ?_) (fun c1 => ?_)
  · rw [if_pos c1] at hf
    exact J14 _ _ _ hf hH (lv_sub hl [] rfl)
  · rw [if_neg c1] at hf
    refine lv_iload_n hx hb dX4_isLine_4 rfl (lv_at hl 0 rfl) ?_
    refine lv_bipush (v := 12) hx hb dX4_isLine_5 (by decide) ?_
    refine lv_icmp_ge (tgt := 14) hx hb dX4_isLine_7 (by decide) (fun c2 => ?_) (fun c2 => ?_)
    · rw [if_pos c2] at hf
      exact J14 _ _ _ hf hH (lv_sub hl [] rfl)
    · rw [if_neg c2] at hf
      refine lv_iconst (v := 1) hx hb dX4_isLine_10 (by decide) ?_
      refine lv_goto (tgt := 15) hx hb dX4_isLine_11 (by decide) ?_
      exact J15 _ _ _ _ hf hH (lv_sub hl [] rfl)
def rmX4_stripeOf : Room := { frames := 0, cells := 0, slots := 0, locals := 0 }
theorem hd_X4_stripeOf : yX4_stripeOf.cls ≠ "java/lang/invoke/MethodHandle" ∧ yX4_stripeOf.cls ≠ "java/lang/invoke/VarHandle" ∧ (parseMethodDescriptor yX4_stripeOf.desc).map (fun d => d.parameters.length) = some 1 := by decide +kernel
set_option maxHeartbeats 4000000 in
set_option maxRecDepth 100000 in
theorem mX4_stripeOf (l : Launch) (D : va_G) (ca : Gp) (w : va_W) (x0 : Int32) {r : Int32} (hf : pX4_stripeOf x0 = some r) : Mi l yX4_stripeOf wsX4_stripeOf rmX4_stripeOf D ca [.int x0] (w) (w) r := by
  refine Mi_of (own := RX4) (cc := cX4_stripeOf) (nL := 1) (ty := .int) (by decide) rfl rfl rfl rfl (Nat.le_of_ble_eq_true rfl) ?_
  intro p e s m args below meth c Q A ls C0 hH hl hend
  obtain ⟨hx, hb, hml, hown, hts⟩ := id C0.1
  have hl : lv_has ls 1 [(0, .int x0)] := hl
  unfold pX4_stripeOf at hf
  refine lv_iload_n hx hb dX4_stripeOf_0 rfl (lv_at hl 0 rfl) ?_
  refine lv_iconst (v := 4) hx hb dX4_stripeOf_1 (by decide) ?_
  refine lv_idiv hx hb dX4_stripeOf_2 (by decide) ?_
  cases hf
  exact hend _ _ _ _ hH rfl dX4_stripeOf_3
def rmX4_readsToWrite : Room := { frames := 0, cells := 0, slots := 0, locals := 0 }
theorem hd_X4_readsToWrite : yX4_readsToWrite.cls ≠ "java/lang/invoke/MethodHandle" ∧ yX4_readsToWrite.cls ≠ "java/lang/invoke/VarHandle" ∧ (parseMethodDescriptor yX4_readsToWrite.desc).map (fun d => d.parameters.length) = some 1 := by decide +kernel
set_option maxHeartbeats 4000000 in
set_option maxRecDepth 100000 in
theorem mX4_readsToWrite (l : Launch) (D : va_G) (ca : Gp) (w : va_W) (x0 : Int32) {r : Int32} (hf : pX4_readsToWrite x0 = some r) : Mi l yX4_readsToWrite wsX4_readsToWrite rmX4_readsToWrite D ca [.int x0] (w) (w) r := by
  refine Mi_of (own := RX4) (cc := cX4_readsToWrite) (nL := 1) (ty := .int) (by decide) rfl rfl rfl rfl (Nat.le_of_ble_eq_true rfl) ?_
  intro p e s m args below meth c Q A ls C0 hH hl hend
  obtain ⟨hx, hb, hml, hown, hts⟩ := id C0.1
  have hl : lv_has ls 1 [(0, .int x0)] := hl
  have J12 : ∀ (s0 : Int32) (H : Heap) (locs : List Loc) (ls : Array Slot), pX4_readsToWrite_12 s0 = some r → HS D A s (w) H locs → lv_has ls 1 [] → W p l e rmX4_readsToWrite s m args below meth c H locs 0 0 Q (F0 m 12 ls [.int s0]) := by
    intro s0 H locs ls hf hH hl
    unfold pX4_readsToWrite_12 at hf
    cases hf
    exact hend _ _ _ _ hH rfl dX4_readsToWrite_12
  unfold pX4_readsToWrite at hf
  refine lv_iload_n hx hb dX4_readsToWrite_0 rfl (lv_at hl 0 rfl) ?_
  refine lv_iconst (v := 2) hx hb dX4_readsToWrite_1 (by decide) ?_
  refine lv_icmp_gt (tgt := 9) hx hb dX4_readsToWrite_2 (by decide) (fun c1 => ?_) (fun c1 => ?_)
  · rw [if_pos c1] at hf
    refine lv_iconst (v := 4) hx hb dX4_readsToWrite_9 (by decide) ?_
    refine lv_iload_n hx hb dX4_readsToWrite_10 rfl (lv_at hl 0 rfl) ?_
    refine lv_isub hx hb dX4_readsToWrite_11 ?_
    exact J12 _ _ _ _ hf hH (lv_sub hl [] rfl)
  · rw [if_neg c1] at hf
    refine lv_iconst (v := 2) hx hb dX4_readsToWrite_5 (by decide) ?_
    refine lv_goto (tgt := 12) hx hb dX4_readsToWrite_6 (by decide) ?_
    exact J12 _ _ _ _ hf hH (lv_sub hl [] rfl)
def rmX4_writesToWrite : Room := { frames := 0, cells := 0, slots := 0, locals := 0 }
theorem hd_X4_writesToWrite : yX4_writesToWrite.cls ≠ "java/lang/invoke/MethodHandle" ∧ yX4_writesToWrite.cls ≠ "java/lang/invoke/VarHandle" ∧ (parseMethodDescriptor yX4_writesToWrite.desc).map (fun d => d.parameters.length) = some 1 := by decide +kernel
set_option maxHeartbeats 4000000 in
set_option maxRecDepth 100000 in
theorem mX4_writesToWrite (l : Launch) (D : va_G) (ca : Gp) (w : va_W) (x0 : Int32) {r : Int32} (hf : pX4_writesToWrite x0 = some r) : Mi l yX4_writesToWrite wsX4_writesToWrite rmX4_writesToWrite D ca [.int x0] (w) (w) r := by
  refine Mi_of (own := RX4) (cc := cX4_writesToWrite) (nL := 1) (ty := .int) (by decide) rfl rfl rfl rfl (Nat.le_of_ble_eq_true rfl) ?_
  intro p e s m args below meth c Q A ls C0 hH hl hend
  obtain ⟨hx, hb, hml, hown, hts⟩ := id C0.1
  have hl : lv_has ls 1 [(0, .int x0)] := hl
  unfold pX4_writesToWrite at hf
  refine lv_iload_n hx hb dX4_writesToWrite_0 rfl (lv_at hl 0 rfl) ?_
  refine lv_iconst (v := 1) hx hb dX4_writesToWrite_1 (by decide) ?_
  refine lv_iadd hx hb dX4_writesToWrite_2 ?_
  cases hf
  exact hend _ _ _ _ hH rfl dX4_writesToWrite_3
def rmX4_operationsToWrite : Room := { frames := 1, cells := 0, slots := 0, locals := 20 }
theorem hd_X4_operationsToWrite : yX4_operationsToWrite.cls ≠ "java/lang/invoke/MethodHandle" ∧ yX4_operationsToWrite.cls ≠ "java/lang/invoke/VarHandle" ∧ (parseMethodDescriptor yX4_operationsToWrite.desc).map (fun d => d.parameters.length) = some 1 := by decide +kernel
set_option maxHeartbeats 4000000 in
set_option maxRecDepth 100000 in
theorem mX4_operationsToWrite (l : Launch) (D : va_G) (ca : Gp) (w : va_W) (x0 : Int32) {r : Int32} (hf : pX4_operationsToWrite x0 = some r) : Mi l yX4_operationsToWrite wsX4_operationsToWrite rmX4_operationsToWrite D ca [.int x0] (w) (w) r := by
  refine Mi_of (own := RX4) (cc := cX4_operationsToWrite) (nL := 1) (ty := .int) (by decide) rfl rfl rfl rfl (Nat.le_of_ble_eq_true rfl) ?_
  intro p e s m args below meth c Q A ls C0 hH hl hend
  obtain ⟨hx, hb, hml, hown, hts⟩ := id C0.1
  have hl : lv_has ls 1 [(0, .int x0)] := hl
  have J17 : ∀ (s0 : Int32) (H : Heap) (locs : List Loc) (ls : Array Slot), pX4_operationsToWrite_17 s0 = some r → HS D A s (w) H locs → lv_has ls 1 [] → W p l e rmX4_operationsToWrite s m args below meth c H locs 0 0 Q (F0 m 17 ls [.int s0]) := by
    intro s0 H locs ls hf hH hl
    unfold pX4_operationsToWrite_17 at hf
    cases hf
    exact hend _ _ _ _ hH rfl dX4_operationsToWrite_17
  unfold pX4_operationsToWrite at hf
  refine lv_iload_n hx hb dX4_operationsToWrite_0 rfl (lv_at hl 0 rfl) ?_
  refine lv_if_ne (tgt := 8) hx hb dX4_operationsToWrite_1 (by decide) (fun c1 => ?_) (fun c1 => ?_)
  · rw [if_neg c1] at hf
    refine lv_iload_n hx hb dX4_operationsToWrite_8 rfl (lv_at hl 0 rfl) ?_
    obtain ⟨y2, h_y2, hf⟩ := bnd hf
    refine cl_iS C0 hH hl.1 (As := [.int x0]) (rest := []) (mX4_readsToWrite l D ca (w) x0 h_y2) gX4_operationsToWrite_X4_readsToWrite rfl rfl rfl hd_X4_readsToWrite ⟨Nat.le_of_ble_eq_true rfl, Nat.le_of_ble_eq_true rfl⟩ ⟨Nat.zero_le _, Nat.zero_le _⟩ rfl (Nat.le_of_ble_eq_true rfl) dX4_operationsToWrite_9 (fun H locs hH => ?_)
    refine lv_iload_n hx hb dX4_operationsToWrite_12 rfl (lv_at hl 0 rfl) ?_
    obtain ⟨y3, h_y3, hf⟩ := bnd hf
    refine cl_iS C0 hH hl.1 (As := [.int x0]) (rest := [.int y2]) (mX4_writesToWrite l D ca (w) x0 h_y3) gX4_operationsToWrite_X4_writesToWrite rfl rfl rfl hd_X4_writesToWrite ⟨Nat.le_of_ble_eq_true rfl, Nat.le_of_ble_eq_true rfl⟩ ⟨Nat.zero_le _, Nat.zero_le _⟩ rfl (Nat.le_of_ble_eq_true rfl) dX4_operationsToWrite_13 (fun H locs hH => ?_)
    refine lv_iadd hx hb dX4_operationsToWrite_16 ?_
    exact J17 _ _ _ _ hf hH (lv_sub hl [] rfl)
  · rw [if_pos c1] at hf
    refine lv_iconst (v := 0) hx hb dX4_operationsToWrite_4 (by decide) ?_
    refine lv_goto (tgt := 17) hx hb dX4_operationsToWrite_5 (by decide) ?_
    exact J17 _ _ _ _ hf hH (lv_sub hl [] rfl)
def rmX2_lineOf : Room := { frames := 0, cells := 0, slots := 0, locals := 0 }
theorem hd_X2_lineOf : yX2_lineOf.cls = RX2 ∧ yX2_lineOf.cls ≠ "java/lang/invoke/MethodHandle" ∧ yX2_lineOf.cls ≠ "java/lang/invoke/VarHandle" ∧ (parseMethodDescriptor yX2_lineOf.desc).map (fun d => d.parameters.length) = some 1 := by decide +kernel
theorem inX2_lineOf_X2 : ∀ w ∈ wsX20, w ∈ wsX2_lineOf := by decide +kernel
set_option maxHeartbeats 4000000 in
set_option maxRecDepth 100000 in
theorem mX2_lineOf (l : Launch) (D : va_G) (ca : Gp) (a : Nat → Nat) (wr : va_W) (u : Mem) (x1 : Int32) {r : Int32} (hf : pX2_lineOf u x1 = some r) : Mi l yX2_lineOf wsX2_lineOf rmX2_lineOf D ca [.ref (a 0), .int x1] (sW a ca u ++ wr) (sW a ca u ++ wr) r := by
  refine Mi_of (own := RX2) (cc := cX2_lineOf) (nL := 3) (ty := .int) (by decide) rfl rfl rfl rfl (Nat.le_of_ble_eq_true rfl) ?_
  intro p e s m args below meth c Q A ls C0 hH hl hend
  obtain ⟨hx, hb, hml, hown, hts⟩ := id C0.1
  have hl : lv_has ls 3 [(0, .ref (a 0)), (1, .int x1)] := hl
  have J2 : ∀ (x1 : Int32) (n : Nat) (x2 : Int32) (H : Heap) (locs : List Loc) (ls : Array Slot), pX2_lineOf_2 u x1 n x2 = some r → HS D A s (sW a ca u ++ wr) H locs → lv_has ls 3 [(0, .ref (a 0)), (1, .int x1), (2, .int x2)] → W p l e rmX2_lineOf s m args below meth c H locs 0 0 Q (F0 m 2 ls []) := by
    intro x1 n
    induction n with
    | zero => intro x2 H locs ls hf; cases hf
    | succ n ih =>
      intro x2 H locs ls hf hH hl
      have hf : pX2_lineOf_2b u x1 (pX2_lineOf_2 u x1 n) x2 = some r := hf
      unfold pX2_lineOf_2b at hf
      refine lv_iload_n hx hb dX2_lineOf_2 rfl (lv_at hl 2 rfl) ?_
      refine lv_bipush (v := 12) hx hb dX2_lineOf_3 (by decide) ?_
      refine lv_icmp_ge (tgt := 26) hx hb dX2_lineOf_5 (by decide) (fun c101 => ?_) (fun c101 => ?_)
      · rw [if_pos c101] at hf
        refine lv_iconst (v := (-1)) hx hb dX2_lineOf_26 (by decide) ?_
        cases hf
        exact hend _ _ _ _ hH rfl dX2_lineOf_27
      · rw [if_neg c101] at hf
        refine lv_aload_n hx hb dX2_lineOf_8 rfl (lv_at hl 0 rfl) ?_
        refine gS_X2_blocks C0 hH inX2_lineOf_X2 (by decide +kernel : Cond.fieldLink RX2 9 "GatheringCache$Stick" "blocks" "[I" ∈ wsX2_lineOf) dX2_lineOf_9 ?_
        refine lv_iload_n hx hb dX2_lineOf_12 rfl (lv_at hl 2 rfl) ?_
        obtain ⟨y102, h_y102, hf⟩ := bnd hf
        refine lS_blocks C0 hH h_y102 dX2_lineOf_13 ?_
        refine lv_iload_n hx hb dX2_lineOf_14 rfl (lv_at hl 1 rfl) ?_
        refine lv_icmp_ne (tgt := 20) hx hb dX2_lineOf_15 (by decide) (fun c103 => ?_) (fun c103 => ?_)
        · rw [if_neg c103] at hf
          refine lv_iinc (v := (x2 + 1)) (lv' := [(2, .int (x2 + 1)), (0, .ref (a 0)), (1, .int x1)]) hx hb dX2_lineOf_20 hl (k := 2) rfl rfl (by decide) rfl (fun ls hl => ?_)
          refine lv_goto (tgt := 2) hx hb dX2_lineOf_23 (by decide) ?_
          exact ih _ _ _ _ hf hH (lv_sub hl [1, 2, 0] rfl)
        · rw [if_pos c103] at hf
          refine lv_iload_n hx hb dX2_lineOf_18 rfl (lv_at hl 2 rfl) ?_
          cases hf
          exact hend _ _ _ _ hH rfl dX2_lineOf_19
  unfold pX2_lineOf at hf
  refine lv_iconst (v := 0) hx hb dX2_lineOf_0 (by decide) ?_
  refine lv_istore_n (lv' := [(2, .int 0), (0, .ref (a 0)), (1, .int x1)]) hx hb dX2_lineOf_1 rfl hl (by decide) rfl (fun ls hl => ?_)
  exact J2 _ FU _ _ _ _ hf hH (lv_sub hl [1, 2, 0] rfl)
def rmX2_lineInReach : Room := { frames := 1, cells := 0, slots := 0, locals := 22 }
theorem hd_X2_lineInReach : yX2_lineInReach.cls = RX2 ∧ yX2_lineInReach.cls ≠ "java/lang/invoke/MethodHandle" ∧ yX2_lineInReach.cls ≠ "java/lang/invoke/VarHandle" ∧ (parseMethodDescriptor yX2_lineInReach.desc).map (fun d => d.parameters.length) = some 1 := by decide +kernel
theorem inX2_lineInReach_X2 : ∀ w ∈ wsX20, w ∈ wsX2_lineInReach := by decide +kernel
set_option maxHeartbeats 4000000 in
set_option maxRecDepth 100000 in
theorem mX2_lineInReach (l : Launch) (D : va_G) (ca : Gp) (a : Nat → Nat) (wr : va_W) (u : Mem) (x1 : Int32) {r : Int32} (hf : pX2_lineInReach u x1 = some r) : Mi l yX2_lineInReach wsX2_lineInReach rmX2_lineInReach D ca [.ref (a 0), .int x1] (sW a ca u ++ wr) (sW a ca u ++ wr) r := by
  refine Mi_of (own := RX2) (cc := cX2_lineInReach) (nL := 2) (ty := .int) (by decide) rfl rfl rfl rfl (Nat.le_of_ble_eq_true rfl) ?_
  intro p e s m args below meth c Q A ls C0 hH hl hend
  obtain ⟨hx, hb, hml, hown, hts⟩ := id C0.1
  have hl : lv_has ls 2 [(0, .ref (a 0)), (1, .int x1)] := hl
  have J16 : ∀ (s0 : Int32) (H : Heap) (locs : List Loc) (ls : Array Slot), pX2_lineInReach_16 u s0 = some r → HS D A s (sW a ca u ++ wr) H locs → lv_has ls 2 [] → W p l e rmX2_lineInReach s m args below meth c H locs 0 0 Q (F0 m 16 ls [.int s0]) := by
    intro s0 H locs ls hf hH hl
    unfold pX2_lineInReach_16 at hf
    cases hf
    exact hend _ _ _ _ hH rfl dX2_lineInReach_16
  unfold pX2_lineInReach at hf
  refine lv_aload_n hx hb dX2_lineInReach_0 rfl (lv_at hl 0 rfl) ?_
  refine gS_X2_in C0 hH inX2_lineInReach_X2 (by decide +kernel : Cond.fieldLink RX2 35 "GatheringCache$Stick" "in" "Z" ∈ wsX2_lineInReach) dX2_lineInReach_1 ?_
  refine lv_if_eq (tgt := 15) hx hb dX2_lineInReach_4 (by decide) (fun c1 => ?_) (fun c1 => ?_)
  · rw [if_pos c1] at hf
    refine lv_iconst (v := (-1)) hx hb dX2_lineInReach_15 (by decide) ?_
    exact J16 _ _ _ _ hf hH (lv_sub hl [] rfl)
  · rw [if_neg c1] at hf
    refine lv_aload_n hx hb dX2_lineInReach_7 rfl (lv_at hl 0 rfl) ?_
    refine lv_iload_n hx hb dX2_lineInReach_8 rfl (lv_at hl 1 rfl) ?_
    obtain ⟨y2, h_y2, hf⟩ := bnd hf
    refine cl_iV C0 hH hl.1 (As := [.int x1]) (rest := []) (mX2_lineOf l D ca a wr u x1 h_y2) gX2_lineInReach_X2_lineOf rfl rfl rfl hd_X2_lineOf ⟨Nat.le_of_ble_eq_true rfl, Nat.le_of_ble_eq_true rfl⟩ ⟨Nat.zero_le _, Nat.zero_le _⟩ (vS_X2 C0 hH) rfl (Nat.le_of_ble_eq_true rfl) dX2_lineInReach_9 (fun H locs hH => ?_)
    refine lv_goto (tgt := 16) hx hb dX2_lineInReach_12 (by decide) ?_
    exact J16 _ _ _ _ hf hH (lv_sub hl [] rfl)
def rmX2_freeLine : Room := { frames := 0, cells := 0, slots := 0, locals := 0 }
theorem hd_X2_freeLine : yX2_freeLine.cls = RX2 ∧ yX2_freeLine.cls ≠ "java/lang/invoke/MethodHandle" ∧ yX2_freeLine.cls ≠ "java/lang/invoke/VarHandle" ∧ (parseMethodDescriptor yX2_freeLine.desc).map (fun d => d.parameters.length) = some 1 := by decide +kernel
theorem inX2_freeLine_X2 : ∀ w ∈ wsX20, w ∈ wsX2_freeLine := by decide +kernel
set_option maxHeartbeats 4000000 in
set_option maxRecDepth 100000 in
theorem mX2_freeLine (l : Launch) (D : va_G) (ca : Gp) (a : Nat → Nat) (wr : va_W) (u : Mem) (x1 : Int32) {r : Int32} (hf : pX2_freeLine u x1 = some r) : Mi l yX2_freeLine wsX2_freeLine rmX2_freeLine D ca [.ref (a 0), .int x1] (sW a ca u ++ wr) (sW a ca u ++ wr) r := by
  refine Mi_of (own := RX2) (cc := cX2_freeLine) (nL := 5) (ty := .int) (by decide) rfl rfl rfl rfl (Nat.le_of_ble_eq_true rfl) ?_
  intro p e s m args below meth c Q A ls C0 hH hl hend
  obtain ⟨hx, hb, hml, hown, hts⟩ := id C0.1
  have hl : lv_has ls 5 [(0, .ref (a 0)), (1, .int x1)] := hl
  have J7 : ∀ (x1 : Int32) (n : Nat) (x2 : Int32) (x3 : Int32) (x4 : Int32) (H : Heap) (locs : List Loc) (ls : Array Slot), pX2_freeLine_7 u x1 n x2 x3 x4 = some r → HS D A s (sW a ca u ++ wr) H locs → lv_has ls 5 [(0, .ref (a 0)), (1, .int x1), (2, .int x2), (3, .int x3), (4, .int x4)] → W p l e rmX2_freeLine s m args below meth c H locs 0 0 Q (F0 m 7 ls []) := by
    intro x1 n
    induction n with
    | zero => intro x2 x3 x4 H locs ls hf; cases hf
    | succ n ih =>
      intro x2 x3 x4 H locs ls hf hH hl
      have hf : pX2_freeLine_7b u x1 (pX2_freeLine_7 u x1 n) x2 x3 x4 = some r := hf
      have J73 : ∀ (x2 : Int32) (x3 : Int32) (x4 : Int32) (H : Heap) (locs : List Loc) (ls : Array Slot), pX2_freeLine_73 u x1 (pX2_freeLine_7 u x1 n) x2 x3 x4 = some r → HS D A s (sW a ca u ++ wr) H locs → lv_has ls 5 [(0, .ref (a 0)), (1, .int x1), (2, .int x2), (3, .int x3), (4, .int x4)] → W p l e rmX2_freeLine s m args below meth c H locs 0 0 Q (F0 m 73 ls []) := by
        intro x2 x3 x4 H locs ls hf hH hl
        unfold pX2_freeLine_73 at hf
        refine lv_iinc (v := (x4 + 1)) (lv' := [(4, .int (x4 + 1)), (0, .ref (a 0)), (1, .int x1), (2, .int x2), (3, .int x3)]) hx hb dX2_freeLine_73 hl (k := 4) rfl rfl (by decide) rfl (fun ls hl => ?_)
        refine lv_goto (tgt := 7) hx hb dX2_freeLine_76 (by decide) ?_
        exact ih _ _ _ _ _ _ hf hH (lv_sub hl [1, 2, 3, 4, 0] rfl)
      have J62 : ∀ (x4 : Int32) (H : Heap) (locs : List Loc) (ls : Array Slot), pX2_freeLine_62 u x1 (pX2_freeLine_7 u x1 n) x4 = some r → HS D A s (sW a ca u ++ wr) H locs → lv_has ls 5 [(0, .ref (a 0)), (1, .int x1), (4, .int x4)] → W p l e rmX2_freeLine s m args below meth c H locs 0 0 Q (F0 m 62 ls []) := by
        intro x4 H locs ls hf hH hl
        unfold pX2_freeLine_62 at hf
        refine lv_iload hx hb dX2_freeLine_62 (lv_at hl 2 rfl) ?_
        refine lv_istore_n (lv' := [(2, .int x4), (0, .ref (a 0)), (1, .int x1), (4, .int x4)]) hx hb dX2_freeLine_64 rfl hl (by decide) rfl (fun ls hl => ?_)
        refine lv_aload_n hx hb dX2_freeLine_65 rfl (lv_at hl 1 rfl) ?_
        refine gS_X2_uses C0 hH inX2_freeLine_X2 (by decide +kernel : Cond.fieldLink RX2 21 "GatheringCache$Stick" "uses" "[I" ∈ wsX2_freeLine) dX2_freeLine_66 ?_
        refine lv_iload hx hb dX2_freeLine_69 (lv_at hl 3 rfl) ?_
        obtain ⟨y201, h_y201, hf⟩ := bnd hf
        refine lS_uses C0 hH h_y201 dX2_freeLine_71 ?_
        refine lv_istore_n (lv' := [(3, .int y201), (2, .int x4), (0, .ref (a 0)), (1, .int x1), (4, .int x4)]) hx hb dX2_freeLine_72 rfl hl (by decide) rfl (fun ls hl => ?_)
        exact J73 _ _ _ _ _ _ hf hH (lv_sub hl [2, 3, 1, 0, 4] rfl)
      unfold pX2_freeLine_7b at hf
      refine lv_iload hx hb dX2_freeLine_7 (lv_at hl 4 rfl) ?_
      refine lv_bipush (v := 12) hx hb dX2_freeLine_9 (by decide) ?_
      refine lv_icmp_ge (tgt := 79) hx hb dX2_freeLine_11 (by decide) (fun c101 => ?_) (fun c101 => ?_)
      · rw [if_pos c101] at hf
        refine lv_iload_n hx hb dX2_freeLine_79 rfl (lv_at hl 2 rfl) ?_
        cases hf
        exact hend _ _ _ _ hH rfl dX2_freeLine_80
      · rw [if_neg c101] at hf
        refine lv_iload hx hb dX2_freeLine_14 (lv_at hl 4 rfl) ?_
        refine lv_iconst (v := 3) hx hb dX2_freeLine_16 (by decide) ?_
        refine lv_idiv hx hb dX2_freeLine_17 (by decide) ?_
        refine lv_iload_n hx hb dX2_freeLine_18 rfl (lv_at hl 1 rfl) ?_
        refine lv_icmp_ne (tgt := 73) hx hb dX2_freeLine_19 (by decide) (fun c102 => ?_) (fun c102 => ?_)
        · rw [if_neg c102] at hf
          exact J73 _ _ _ _ _ _ hf hH (lv_sub hl [0, 1, 2, 3, 4] rfl)
        · rw [if_pos c102] at hf
          refine lv_aload_n hx hb dX2_freeLine_22 rfl (lv_at hl 0 rfl) ?_
          refine gS_X2_dirty C0 hH inX2_freeLine_X2 (by decide +kernel : Cond.fieldLink RX2 24 "GatheringCache$Stick" "dirty" "[Z" ∈ wsX2_freeLine) dX2_freeLine_23 ?_
          refine lv_iload hx hb dX2_freeLine_26 (lv_at hl 4 rfl) ?_
          obtain ⟨y103, h_y103, hf⟩ := bnd hf
          refine lS_dirty C0 hH h_y103 dX2_freeLine_28 ?_
          refine lv_if_ne (tgt := 73) hx hb dX2_freeLine_29 (by decide) (fun c104 => ?_) (fun c104 => ?_)
          · rw [if_neg c104] at hf
            exact J73 _ _ _ _ _ _ hf hH (lv_sub hl [0, 1, 2, 3, 4] rfl)
          · rw [if_pos c104] at hf
            refine lv_aload_n hx hb dX2_freeLine_32 rfl (lv_at hl 0 rfl) ?_
            refine gS_X2_blocks C0 hH inX2_freeLine_X2 (by decide +kernel : Cond.fieldLink RX2 9 "GatheringCache$Stick" "blocks" "[I" ∈ wsX2_freeLine) dX2_freeLine_33 ?_
            refine lv_iload hx hb dX2_freeLine_36 (lv_at hl 4 rfl) ?_
            obtain ⟨y105, h_y105, hf⟩ := bnd hf
            refine lS_blocks C0 hH h_y105 dX2_freeLine_38 ?_
            refine lv_iconst (v := (-1)) hx hb dX2_freeLine_39 (by decide) ?_
            refine lv_icmp_ne (tgt := 46) hx hb dX2_freeLine_40 (by decide) (fun c106 => ?_) (fun c106 => ?_)
            · rw [if_neg c106] at hf
              refine lv_iload_n hx hb dX2_freeLine_46 rfl (lv_at hl 2 rfl) ?_
              refine lv_iconst (v := (-1)) hx hb dX2_freeLine_47 (by decide) ?_
              refine lv_icmp_eq (tgt := 62) hx hb dX2_freeLine_48 (by decide) (fun c107 => ?_) (fun c107 => ?_)
              · rw [if_pos c107] at hf
                exact J62 _ _ _ _ hf hH (lv_sub hl [0, 1, 4] rfl)
              · rw [if_neg c107] at hf
                refine lv_aload_n hx hb dX2_freeLine_51 rfl (lv_at hl 0 rfl) ?_
                refine gS_X2_uses C0 hH inX2_freeLine_X2 (by decide +kernel : Cond.fieldLink RX2 21 "GatheringCache$Stick" "uses" "[I" ∈ wsX2_freeLine) dX2_freeLine_52 ?_
                refine lv_iload hx hb dX2_freeLine_55 (lv_at hl 4 rfl) ?_
                obtain ⟨y108, h_y108, hf⟩ := bnd hf
                refine lS_uses C0 hH h_y108 dX2_freeLine_57 ?_
                refine lv_iload_n hx hb dX2_freeLine_58 rfl (lv_at hl 3 rfl) ?_
                refine lv_icmp_ge (tgt := 73) hx hb dX2_freeLine_59 (by decide) (fun c109 => ?_) (fun c109 => ?_)
                · rw [if_pos c109] at hf
                  exact J73 _ _ _ _ _ _ hf hH (lv_sub hl [0, 1, 2, 3, 4] rfl)
                · rw [if_neg c109] at hf
                  exact J62 _ _ _ _ hf hH (lv_sub hl [0, 1, 4] rfl)
            · rw [if_pos c106] at hf
              refine lv_iload hx hb dX2_freeLine_43 (lv_at hl 4 rfl) ?_
              cases hf
              exact hend _ _ _ _ hH rfl dX2_freeLine_45
  unfold pX2_freeLine at hf
  refine lv_iconst (v := (-1)) hx hb dX2_freeLine_0 (by decide) ?_
  refine lv_istore_n (lv' := [(2, .int (-1)), (0, .ref (a 0)), (1, .int x1)]) hx hb dX2_freeLine_1 rfl hl (by decide) rfl (fun ls hl => ?_)
  refine lv_iconst (v := 0) hx hb dX2_freeLine_2 (by decide) ?_
  refine lv_istore_n (lv' := [(3, .int 0), (2, .int (-1)), (0, .ref (a 0)), (1, .int x1)]) hx hb dX2_freeLine_3 rfl hl (by decide) rfl (fun ls hl => ?_)
  refine lv_iconst (v := 0) hx hb dX2_freeLine_4 (by decide) ?_
  refine lv_istore (lv' := [(4, .int 0), (3, .int 0), (2, .int (-1)), (0, .ref (a 0)), (1, .int x1)]) hx hb dX2_freeLine_5 hl (by decide) rfl (fun ls hl => ?_)
  exact J7 _ FU _ _ _ _ _ _ hf hH (lv_sub hl [3, 4, 2, 1, 0] rfl)
def rmX2_isDirtyOf : Room := { frames := 1, cells := 0, slots := 0, locals := 20 }
theorem hd_X2_isDirtyOf : yX2_isDirtyOf.cls = RX2 ∧ yX2_isDirtyOf.cls ≠ "java/lang/invoke/MethodHandle" ∧ yX2_isDirtyOf.cls ≠ "java/lang/invoke/VarHandle" ∧ (parseMethodDescriptor yX2_isDirtyOf.desc).map (fun d => d.parameters.length) = some 2 := by decide +kernel
theorem inX2_isDirtyOf_X2 : ∀ w ∈ wsX20, w ∈ wsX2_isDirtyOf := by decide +kernel
set_option maxHeartbeats 4000000 in
set_option maxRecDepth 100000 in
theorem mX2_isDirtyOf (l : Launch) (D : va_G) (ca : Gp) (a : Nat → Nat) (wr : va_W) (u : Mem) (x1 : Int32) (x2 : Int32) {r : Int32} (hf : pX2_isDirtyOf u x1 x2 = some r) : Mi l yX2_isDirtyOf wsX2_isDirtyOf rmX2_isDirtyOf D ca [.ref (a 0), .int x1, .int x2] (sW a ca u ++ wr) (sW a ca u ++ wr) r := by
  refine Mi_of (own := RX2) (cc := cX2_isDirtyOf) (nL := 3) (ty := .boolean) (by decide) rfl rfl rfl rfl (Nat.le_of_ble_eq_true rfl) ?_
  intro p e s m args below meth c Q A ls C0 hH hl hend
  obtain ⟨hx, hb, hml, hown, hts⟩ := id C0.1
  have hl : lv_has ls 3 [(0, .ref (a 0)), (1, .int x1), (2, .int x2)] := hl
  have J37 : ∀ (s0 : Int32) (H : Heap) (locs : List Loc) (ls : Array Slot), pX2_isDirtyOf_37 u s0 = some r → HS D A s (sW a ca u ++ wr) H locs → lv_has ls 3 [] → W p l e rmX2_isDirtyOf s m args below meth c H locs 0 0 Q (F0 m 37 ls [.int s0]) := by
    intro s0 H locs ls hf hH hl
    unfold pX2_isDirtyOf_37 at hf
    obtain ⟨hz, hf⟩ := gd hf
    cases hf
    exact hend _ _ _ _ hH (isz_n hz) dX2_isDirtyOf_37
  have J36 : ∀ (H : Heap) (locs : List Loc) (ls : Array Slot), pX2_isDirtyOf_36 u  = some r → HS D A s (sW a ca u ++ wr) H locs → lv_has ls 3 [] → W p l e rmX2_isDirtyOf s m args below meth c H locs 0 0 Q (F0 m 36 ls []) := by
    intro H locs ls hf hH hl
    unfold pX2_isDirtyOf_36 at hf
    refine lv_iconst (v := 0) hx hb dX2_isDirtyOf_36 (by decide) ?_
    exact J37 _ _ _ _ hf hH (lv_sub hl [] rfl)
  unfold pX2_isDirtyOf at hf
  refine lv_iload_n hx hb dX2_isDirtyOf_0 rfl (lv_at hl 1 rfl) ?_
  refine lv_if_lt (tgt := 36) hx hb dX2_isDirtyOf_1 (by decide) (fun c1 => ?_) (fun c1 => ?_)
  · rw [if_pos c1] at hf
    exact J36 _ _ _ hf hH (lv_sub hl [] rfl)
  · rw [if_neg c1] at hf
    refine lv_iload_n hx hb dX2_isDirtyOf_4 rfl (lv_at hl 1 rfl) ?_
    refine lv_bipush (v := 12) hx hb dX2_isDirtyOf_5 (by decide) ?_
    refine lv_icmp_ge (tgt := 36) hx hb dX2_isDirtyOf_7 (by decide) (fun c2 => ?_) (fun c2 => ?_)
    · rw [if_pos c2] at hf
      exact J36 _ _ _ hf hH (lv_sub hl [] rfl)
    · rw [if_neg c2] at hf
      refine lv_aload_n hx hb dX2_isDirtyOf_10 rfl (lv_at hl 0 rfl) ?_
      refine gS_X2_dirty C0 hH inX2_isDirtyOf_X2 (by decide +kernel : Cond.fieldLink RX2 24 "GatheringCache$Stick" "dirty" "[Z" ∈ wsX2_isDirtyOf) dX2_isDirtyOf_11 ?_
      refine lv_iload_n hx hb dX2_isDirtyOf_14 rfl (lv_at hl 1 rfl) ?_
      obtain ⟨y3, h_y3, hf⟩ := bnd hf
      refine lS_dirty C0 hH h_y3 dX2_isDirtyOf_15 ?_
      refine lv_if_eq (tgt := 36) hx hb dX2_isDirtyOf_16 (by decide) (fun c4 => ?_) (fun c4 => ?_)
      · rw [if_pos c4] at hf
        exact J36 _ _ _ hf hH (lv_sub hl [] rfl)
      · rw [if_neg c4] at hf
        refine lv_aload_n hx hb dX2_isDirtyOf_19 rfl (lv_at hl 0 rfl) ?_
        refine gS_X2_blocks C0 hH inX2_isDirtyOf_X2 (by decide +kernel : Cond.fieldLink RX2 9 "GatheringCache$Stick" "blocks" "[I" ∈ wsX2_isDirtyOf) dX2_isDirtyOf_20 ?_
        refine lv_iload_n hx hb dX2_isDirtyOf_23 rfl (lv_at hl 1 rfl) ?_
        obtain ⟨y5, h_y5, hf⟩ := bnd hf
        refine lS_blocks C0 hH h_y5 dX2_isDirtyOf_24 ?_
        obtain ⟨y6, h_y6, hf⟩ := bnd hf
        refine cl_iN C0 hH hl.1 (As := [.int y5]) (rest := []) (mX4_stripeOf l D ca (sW a ca u ++ wr) y5 h_y6) gX2_isDirtyOf_X4_stripeOf_n63 (by decide +kernel) rfl rfl rfl (by decide +kernel) (by decide +kernel) hd_X4_stripeOf ⟨Nat.le_of_ble_eq_true rfl, Nat.le_of_ble_eq_true rfl⟩ ⟨Nat.zero_le _, Nat.zero_le _⟩ rfl (Nat.le_of_ble_eq_true rfl) dX2_isDirtyOf_25 (fun H locs hH => ?_)
        refine lv_iload_n hx hb dX2_isDirtyOf_28 rfl (lv_at hl 2 rfl) ?_
        refine lv_icmp_ne (tgt := 36) hx hb dX2_isDirtyOf_29 (by decide) (fun c7 => ?_) (fun c7 => ?_)
        · rw [if_neg c7] at hf
          exact J36 _ _ _ hf hH (lv_sub hl [] rfl)
        · rw [if_pos c7] at hf
          refine lv_iconst (v := 1) hx hb dX2_isDirtyOf_32 (by decide) ?_
          refine lv_goto (tgt := 37) hx hb dX2_isDirtyOf_33 (by decide) ?_
          exact J37 _ _ _ _ hf hH (lv_sub hl [] rfl)
def rmX2_dirtyLinesOf : Room := { frames := 2, cells := 0, slots := 0, locals := 42 }
theorem hd_X2_dirtyLinesOf : yX2_dirtyLinesOf.cls = RX2 ∧ yX2_dirtyLinesOf.cls ≠ "java/lang/invoke/MethodHandle" ∧ yX2_dirtyLinesOf.cls ≠ "java/lang/invoke/VarHandle" ∧ (parseMethodDescriptor yX2_dirtyLinesOf.desc).map (fun d => d.parameters.length) = some 1 := by decide +kernel
set_option maxHeartbeats 4000000 in
set_option maxRecDepth 100000 in
theorem mX2_dirtyLinesOf (l : Launch) (D : va_G) (ca : Gp) (a : Nat → Nat) (wr : va_W) (u : Mem) (x1 : Int32) {r : Int32} (hf : pX2_dirtyLinesOf u x1 = some r) : Mi l yX2_dirtyLinesOf wsX2_dirtyLinesOf rmX2_dirtyLinesOf D ca [.ref (a 0), .int x1] (sW a ca u ++ wr) (sW a ca u ++ wr) r := by
  refine Mi_of (own := RX2) (cc := cX2_dirtyLinesOf) (nL := 4) (ty := .int) (by decide) rfl rfl rfl rfl (Nat.le_of_ble_eq_true rfl) ?_
  intro p e s m args below meth c Q A ls C0 hH hl hend
  obtain ⟨hx, hb, hml, hown, hts⟩ := id C0.1
  have hl : lv_has ls 4 [(0, .ref (a 0)), (1, .int x1)] := hl
  have J4 : ∀ (x1 : Int32) (n : Nat) (x2 : Int32) (x3 : Int32) (H : Heap) (locs : List Loc) (ls : Array Slot), pX2_dirtyLinesOf_4 u x1 n x2 x3 = some r → HS D A s (sW a ca u ++ wr) H locs → lv_has ls 4 [(0, .ref (a 0)), (1, .int x1), (2, .int x2), (3, .int x3)] → W p l e rmX2_dirtyLinesOf s m args below meth c H locs 0 0 Q (F0 m 4 ls []) := by
    intro x1 n
    induction n with
    | zero => intro x2 x3 H locs ls hf; cases hf
    | succ n ih =>
      intro x2 x3 H locs ls hf hH hl
      have hf : pX2_dirtyLinesOf_4b u x1 (pX2_dirtyLinesOf_4 u x1 n) x2 x3 = some r := hf
      have J22 : ∀ (x2 : Int32) (x3 : Int32) (H : Heap) (locs : List Loc) (ls : Array Slot), pX2_dirtyLinesOf_22 u x1 (pX2_dirtyLinesOf_4 u x1 n) x2 x3 = some r → HS D A s (sW a ca u ++ wr) H locs → lv_has ls 4 [(0, .ref (a 0)), (1, .int x1), (2, .int x2), (3, .int x3)] → W p l e rmX2_dirtyLinesOf s m args below meth c H locs 0 0 Q (F0 m 22 ls []) := by
        intro x2 x3 H locs ls hf hH hl
        unfold pX2_dirtyLinesOf_22 at hf
        refine lv_iinc (v := (x3 + 1)) (lv' := [(3, .int (x3 + 1)), (0, .ref (a 0)), (1, .int x1), (2, .int x2)]) hx hb dX2_dirtyLinesOf_22 hl (k := 3) rfl rfl (by decide) rfl (fun ls hl => ?_)
        refine lv_goto (tgt := 4) hx hb dX2_dirtyLinesOf_25 (by decide) ?_
        exact ih _ _ _ _ _ hf hH (lv_sub hl [1, 2, 3, 0] rfl)
      unfold pX2_dirtyLinesOf_4b at hf
      refine lv_iload_n hx hb dX2_dirtyLinesOf_4 rfl (lv_at hl 3 rfl) ?_
      refine lv_bipush (v := 12) hx hb dX2_dirtyLinesOf_5 (by decide) ?_
      refine lv_icmp_ge (tgt := 28) hx hb dX2_dirtyLinesOf_7 (by decide) (fun c101 => ?_) (fun c101 => ?_)
      · rw [if_pos c101] at hf
        refine lv_iload_n hx hb dX2_dirtyLinesOf_28 rfl (lv_at hl 2 rfl) ?_
        cases hf
        exact hend _ _ _ _ hH rfl dX2_dirtyLinesOf_29
      · rw [if_neg c101] at hf
        refine lv_aload_n hx hb dX2_dirtyLinesOf_10 rfl (lv_at hl 0 rfl) ?_
        refine lv_iload_n hx hb dX2_dirtyLinesOf_11 rfl (lv_at hl 3 rfl) ?_
        refine lv_iload_n hx hb dX2_dirtyLinesOf_12 rfl (lv_at hl 1 rfl) ?_
        obtain ⟨y102, h_y102, hf⟩ := bnd hf
        refine cl_iV C0 hH hl.1 (As := [.int x3, .int x1]) (rest := []) (mX2_isDirtyOf l D ca a wr u x3 x1 h_y102) gX2_dirtyLinesOf_X2_isDirtyOf rfl rfl rfl hd_X2_isDirtyOf ⟨Nat.le_of_ble_eq_true rfl, Nat.le_of_ble_eq_true rfl⟩ ⟨Nat.zero_le _, Nat.zero_le _⟩ (vS_X2 C0 hH) rfl (Nat.le_of_ble_eq_true rfl) dX2_dirtyLinesOf_13 (fun H locs hH => ?_)
        refine lv_if_eq (tgt := 22) hx hb dX2_dirtyLinesOf_16 (by decide) (fun c103 => ?_) (fun c103 => ?_)
        · rw [if_pos c103] at hf
          exact J22 _ _ _ _ _ hf hH (lv_sub hl [0, 1, 2, 3] rfl)
        · rw [if_neg c103] at hf
          refine lv_iinc (v := (x2 + 1)) (lv' := [(2, .int (x2 + 1)), (0, .ref (a 0)), (1, .int x1), (3, .int x3)]) hx hb dX2_dirtyLinesOf_19 hl (k := 2) rfl rfl (by decide) rfl (fun ls hl => ?_)
          exact J22 _ _ _ _ _ hf hH (lv_sub hl [1, 2, 0, 3] rfl)
  unfold pX2_dirtyLinesOf at hf
  refine lv_iconst (v := 0) hx hb dX2_dirtyLinesOf_0 (by decide) ?_
  refine lv_istore_n (lv' := [(2, .int 0), (0, .ref (a 0)), (1, .int x1)]) hx hb dX2_dirtyLinesOf_1 rfl hl (by decide) rfl (fun ls hl => ?_)
  refine lv_iconst (v := 0) hx hb dX2_dirtyLinesOf_2 (by decide) ?_
  refine lv_istore_n (lv' := [(3, .int 0), (2, .int 0), (0, .ref (a 0)), (1, .int x1)]) hx hb dX2_dirtyLinesOf_3 rfl hl (by decide) rfl (fun ls hl => ?_)
  exact J4 _ FU _ _ _ _ _ hf hH (lv_sub hl [2, 3, 1, 0] rfl)
def rmX2_fullestStripe : Room := { frames := 3, cells := 0, slots := 0, locals := 65 }
theorem hd_X2_fullestStripe : yX2_fullestStripe.cls = RX2 ∧ yX2_fullestStripe.cls ≠ "java/lang/invoke/MethodHandle" ∧ yX2_fullestStripe.cls ≠ "java/lang/invoke/VarHandle" ∧ (parseMethodDescriptor yX2_fullestStripe.desc).map (fun d => d.parameters.length) = some 1 := by decide +kernel
set_option maxHeartbeats 4000000 in
set_option maxRecDepth 100000 in
theorem mX2_fullestStripe (l : Launch) (D : va_G) (ca : Gp) (a : Nat → Nat) (wr : va_W) (u : Mem) (x1 : Int32) {r : Int32} (hf : pX2_fullestStripe u x1 = some r) : Mi l yX2_fullestStripe wsX2_fullestStripe rmX2_fullestStripe D ca [.ref (a 0), .int x1] (sW a ca u ++ wr) (sW a ca u ++ wr) r := by
  refine Mi_of (own := RX2) (cc := cX2_fullestStripe) (nL := 5) (ty := .int) (by decide) rfl rfl rfl rfl (Nat.le_of_ble_eq_true rfl) ?_
  intro p e s m args below meth c Q A ls C0 hH hl hend
  obtain ⟨hx, hb, hml, hown, hts⟩ := id C0.1
  have hl : lv_has ls 5 [(0, .ref (a 0)), (1, .int x1)] := hl
  have J7 : ∀ (x1 : Int32) (n : Nat) (x2 : Int32) (x3 : Int32) (x4 : Int32) (H : Heap) (locs : List Loc) (ls : Array Slot), pX2_fullestStripe_7 u x1 n x2 x3 x4 = some r → HS D A s (sW a ca u ++ wr) H locs → lv_has ls 5 [(0, .ref (a 0)), (1, .int x1), (2, .int x2), (3, .int x3), (4, .int x4)] → W p l e rmX2_fullestStripe s m args below meth c H locs 0 0 Q (F0 m 7 ls []) := by
    intro x1 n
    induction n with
    | zero => intro x2 x3 x4 H locs ls hf; cases hf
    | succ n ih =>
      intro x2 x3 x4 H locs ls hf hH hl
      have hf : pX2_fullestStripe_7b u x1 (pX2_fullestStripe_7 u x1 n) x2 x3 x4 = some r := hf
      have J42 : ∀ (x2 : Int32) (x3 : Int32) (x4 : Int32) (H : Heap) (locs : List Loc) (ls : Array Slot), pX2_fullestStripe_42 u x1 (pX2_fullestStripe_7 u x1 n) x2 x3 x4 = some r → HS D A s (sW a ca u ++ wr) H locs → lv_has ls 5 [(0, .ref (a 0)), (1, .int x1), (2, .int x2), (3, .int x3), (4, .int x4)] → W p l e rmX2_fullestStripe s m args below meth c H locs 0 0 Q (F0 m 42 ls []) := by
        intro x2 x3 x4 H locs ls hf hH hl
        unfold pX2_fullestStripe_42 at hf
        refine lv_iinc (v := (x4 + 1)) (lv' := [(4, .int (x4 + 1)), (0, .ref (a 0)), (1, .int x1), (2, .int x2), (3, .int x3)]) hx hb dX2_fullestStripe_42 hl (k := 4) rfl rfl (by decide) rfl (fun ls hl => ?_)
        refine lv_goto (tgt := 7) hx hb dX2_fullestStripe_45 (by decide) ?_
        exact ih _ _ _ _ _ _ hf hH (lv_sub hl [1, 2, 3, 4, 0] rfl)
      unfold pX2_fullestStripe_7b at hf
      refine lv_iload hx hb dX2_fullestStripe_7 (lv_at hl 4 rfl) ?_
      refine lv_bipush (v := 16) hx hb dX2_fullestStripe_9 (by decide) ?_
      refine lv_icmp_ge (tgt := 48) hx hb dX2_fullestStripe_11 (by decide) (fun c101 => ?_) (fun c101 => ?_)
      · rw [if_pos c101] at hf
        refine lv_iload_n hx hb dX2_fullestStripe_48 rfl (lv_at hl 2 rfl) ?_
        cases hf
        exact hend _ _ _ _ hH rfl dX2_fullestStripe_49
      · rw [if_neg c101] at hf
        refine lv_iload hx hb dX2_fullestStripe_14 (lv_at hl 4 rfl) ?_
        refine lv_iconst (v := 4) hx hb dX2_fullestStripe_16 (by decide) ?_
        refine lv_irem hx hb dX2_fullestStripe_17 (by decide) ?_
        refine lv_iload_n hx hb dX2_fullestStripe_18 rfl (lv_at hl 1 rfl) ?_
        refine lv_icmp_ne (tgt := 42) hx hb dX2_fullestStripe_19 (by decide) (fun c102 => ?_) (fun c102 => ?_)
        · rw [if_neg c102] at hf
          exact J42 _ _ _ _ _ _ hf hH (lv_sub hl [0, 1, 2, 3, 4] rfl)
        · rw [if_pos c102] at hf
          refine lv_aload_n hx hb dX2_fullestStripe_22 rfl (lv_at hl 0 rfl) ?_
          refine lv_iload hx hb dX2_fullestStripe_23 (lv_at hl 4 rfl) ?_
          obtain ⟨y103, h_y103, hf⟩ := bnd hf
          refine cl_iV C0 hH hl.1 (As := [.int x4]) (rest := []) (mX2_dirtyLinesOf l D ca a wr u x4 h_y103) gX2_fullestStripe_X2_dirtyLinesOf rfl rfl rfl hd_X2_dirtyLinesOf ⟨Nat.le_of_ble_eq_true rfl, Nat.le_of_ble_eq_true rfl⟩ ⟨Nat.zero_le _, Nat.zero_le _⟩ (vS_X2 C0 hH) rfl (Nat.le_of_ble_eq_true rfl) dX2_fullestStripe_25 (fun H locs hH => ?_)
          refine lv_iload_n hx hb dX2_fullestStripe_28 rfl (lv_at hl 3 rfl) ?_
          refine lv_icmp_le (tgt := 42) hx hb dX2_fullestStripe_29 (by decide) (fun c104 => ?_) (fun c104 => ?_)
          · rw [if_pos c104] at hf
            exact J42 _ _ _ _ _ _ hf hH (lv_sub hl [0, 1, 2, 3, 4] rfl)
          · rw [if_neg c104] at hf
            refine lv_iload hx hb dX2_fullestStripe_32 (lv_at hl 4 rfl) ?_
            refine lv_istore_n (lv' := [(2, .int x4), (0, .ref (a 0)), (1, .int x1), (3, .int x3), (4, .int x4)]) hx hb dX2_fullestStripe_34 rfl hl (by decide) rfl (fun ls hl => ?_)
            refine lv_aload_n hx hb dX2_fullestStripe_35 rfl (lv_at hl 1 rfl) ?_
            refine lv_iload hx hb dX2_fullestStripe_36 (lv_at hl 4 rfl) ?_
            obtain ⟨y105, h_y105, hf⟩ := bnd hf
            refine cl_iV C0 hH hl.1 (As := [.int x4]) (rest := []) (mX2_dirtyLinesOf l D ca a wr u x4 h_y105) gX2_fullestStripe_X2_dirtyLinesOf rfl rfl rfl hd_X2_dirtyLinesOf ⟨Nat.le_of_ble_eq_true rfl, Nat.le_of_ble_eq_true rfl⟩ ⟨Nat.zero_le _, Nat.zero_le _⟩ (vS_X2 C0 hH) rfl (Nat.le_of_ble_eq_true rfl) dX2_fullestStripe_38 (fun H locs hH => ?_)
            refine lv_istore_n (lv' := [(3, .int y105), (2, .int x4), (0, .ref (a 0)), (1, .int x1), (4, .int x4)]) hx hb dX2_fullestStripe_41 rfl hl (by decide) rfl (fun ls hl => ?_)
            exact J42 _ _ _ _ _ _ hf hH (lv_sub hl [2, 3, 1, 0, 4] rfl)
  unfold pX2_fullestStripe at hf
  refine lv_iconst (v := (-1)) hx hb dX2_fullestStripe_0 (by decide) ?_
  refine lv_istore_n (lv' := [(2, .int (-1)), (0, .ref (a 0)), (1, .int x1)]) hx hb dX2_fullestStripe_1 rfl hl (by decide) rfl (fun ls hl => ?_)
  refine lv_iconst (v := 0) hx hb dX2_fullestStripe_2 (by decide) ?_
  refine lv_istore_n (lv' := [(3, .int 0), (2, .int (-1)), (0, .ref (a 0)), (1, .int x1)]) hx hb dX2_fullestStripe_3 rfl hl (by decide) rfl (fun ls hl => ?_)
  refine lv_iconst (v := 0) hx hb dX2_fullestStripe_4 (by decide) ?_
  refine lv_istore (lv' := [(4, .int 0), (3, .int 0), (2, .int (-1)), (0, .ref (a 0)), (1, .int x1)]) hx hb dX2_fullestStripe_5 hl (by decide) rfl (fun ls hl => ?_)
  exact J7 _ FU _ _ _ _ _ _ hf hH (lv_sub hl [3, 4, 2, 1, 0] rfl)
def rmX2_use : Room := { frames := 1, cells := 0, slots := 0, locals := 20 }
theorem hd_X2_use : yX2_use.cls = RX2 ∧ yX2_use.cls ≠ "java/lang/invoke/MethodHandle" ∧ yX2_use.cls ≠ "java/lang/invoke/VarHandle" ∧ (parseMethodDescriptor yX2_use.desc).map (fun d => d.parameters.length) = some 1 := by decide +kernel
theorem inX2_use_X2 : ∀ w ∈ wsX20, w ∈ wsX2_use := by decide +kernel
set_option maxHeartbeats 4000000 in
set_option maxRecDepth 100000 in
theorem mX2_use (l : Launch) (D : va_G) (ca : Gp) (a : Nat → Nat) (wr : va_W) (u : Mem) (x1 : Int32) {u9 : Mem} (hf : pX2_use u x1 = some u9) : Mv l yX2_use wsX2_use rmX2_use D ca [.ref (a 0), .int x1] (sW a ca u ++ wr) (sW a ca u9 ++ wr) := by
  refine Mv_of (own := RX2) (cc := cX2_use) (nL := 2) (by decide) rfl rfl rfl rfl (Nat.le_of_ble_eq_true rfl) ?_
  intro p e s m args below meth c Q A ls C0 hH hl hend
  obtain ⟨hx, hb, hml, hown, hts⟩ := id C0.1
  have hl : lv_has ls 2 [(0, .ref (a 0)), (1, .int x1)] := hl
  have J27 : ∀ (u : Mem) (H : Heap) (locs : List Loc) (ls : Array Slot), pX2_use_27 u = some u9 → HS D A s (sW a ca u ++ wr) H locs → lv_has ls 2 [] → W p l e rmX2_use s m args below meth c H locs 0 0 Q (F0 m 27 ls []) := by
    intro u H locs ls hf hH hl
    unfold pX2_use_27 at hf
    cases hf
    exact hend _ _ _ _ hH dX2_use_27
  unfold pX2_use at hf
  refine lv_iload_n hx hb dX2_use_0 rfl (lv_at hl 1 rfl) ?_
  obtain ⟨y1, h_y1, hf⟩ := bnd hf
  refine cl_iN C0 hH hl.1 (As := [.int x1]) (rest := []) (mX4_isLine l D ca (sW a ca u ++ wr) x1 h_y1) gX2_use_X4_isLine_n55 (by decide +kernel) rfl rfl rfl (by decide +kernel) (by decide +kernel) hd_X4_isLine ⟨Nat.le_of_ble_eq_true rfl, Nat.le_of_ble_eq_true rfl⟩ ⟨Nat.zero_le _, Nat.zero_le _⟩ rfl (Nat.le_of_ble_eq_true rfl) dX2_use_1 (fun H locs hH => ?_)
  refine lv_if_eq (tgt := 27) hx hb dX2_use_4 (by decide) (fun c2 => ?_) (fun c2 => ?_)
  · rw [if_pos c2] at hf
    exact J27 _ _ _ _ hf hH (lv_sub hl [] rfl)
  · rw [if_neg c2] at hf
    refine lv_aload_n hx hb dX2_use_7 rfl (lv_at hl 0 rfl) ?_
    refine lv_dup hx hb dX2_use_8 rfl ?_
    refine gS_X2_lastUse C0 hH inX2_use_X2 (by decide +kernel : Cond.fieldLink RX2 45 "GatheringCache$Stick" "lastUse" "I" ∈ wsX2_use) dX2_use_9 ?_
    refine lv_iconst (v := 1) hx hb dX2_use_12 (by decide) ?_
    refine lv_iadd hx hb dX2_use_13 ?_
    obtain ⟨u3, h_u3, hf⟩ := bnd hf
    refine pS_X2_lastUse C0 hH inX2_use_X2 h_u3 (by decide +kernel : Cond.fieldLink RX2 45 "GatheringCache$Stick" "lastUse" "I" ∈ wsX2_use) dX2_use_14 (fun H locs hH => ?_)
    refine lv_aload_n hx hb dX2_use_17 rfl (lv_at hl 0 rfl) ?_
    refine gS_X2_uses C0 hH inX2_use_X2 (by decide +kernel : Cond.fieldLink RX2 21 "GatheringCache$Stick" "uses" "[I" ∈ wsX2_use) dX2_use_18 ?_
    refine lv_iload_n hx hb dX2_use_21 rfl (lv_at hl 1 rfl) ?_
    refine lv_aload_n hx hb dX2_use_22 rfl (lv_at hl 0 rfl) ?_
    refine gS_X2_lastUse C0 hH inX2_use_X2 (by decide +kernel : Cond.fieldLink RX2 45 "GatheringCache$Stick" "lastUse" "I" ∈ wsX2_use) dX2_use_23 ?_
    obtain ⟨u4, h_u4, hf⟩ := bnd hf
    refine sS_uses C0 hH h_u4 dX2_use_26 (fun H locs hH => ?_)
    exact J27 _ _ _ _ hf hH (lv_sub hl [] rfl)
def rmX2_fill : Room := { frames := 2, cells := 0, slots := 0, locals := 41 }
theorem hd_X2_fill : yX2_fill.cls = RX2 ∧ yX2_fill.cls ≠ "java/lang/invoke/MethodHandle" ∧ yX2_fill.cls ≠ "java/lang/invoke/VarHandle" ∧ (parseMethodDescriptor yX2_fill.desc).map (fun d => d.parameters.length) = some 5 := by decide +kernel
theorem inX2_fill_X2 : ∀ w ∈ wsX20, w ∈ wsX2_fill := by decide +kernel
set_option maxHeartbeats 4000000 in
set_option maxRecDepth 100000 in
theorem mX2_fill (l : Launch) (D : va_G) (ca : Gp) (a : Nat → Nat) (wr : va_W) (u : Mem) (x1 : Int32) (x2 : Int32) (x3 : Int32) (x4 : Int32) (x5 : Int32) {u9 : Mem} (hf : pX2_fill u x1 x2 x3 x4 x5 = some u9) : Mv l yX2_fill wsX2_fill rmX2_fill D ca [.ref (a 0), .int x1, .int x2, .int x3, .int x4, .int x5] (sW a ca u ++ wr) (sW a ca u9 ++ wr) := by
  refine Mv_of (own := RX2) (cc := cX2_fill) (nL := 6) (by decide) rfl rfl rfl rfl (Nat.le_of_ble_eq_true rfl) ?_
  intro p e s m args below meth c Q A ls C0 hH hl hend
  obtain ⟨hx, hb, hml, hown, hts⟩ := id C0.1
  have hl : lv_has ls 6 [(0, .ref (a 0)), (1, .int x1), (2, .int x2), (3, .int x3), (4, .int x4), (5, .int x5)] := hl
  have J42 : ∀ (u : Mem) (H : Heap) (locs : List Loc) (ls : Array Slot), pX2_fill_42 u = some u9 → HS D A s (sW a ca u ++ wr) H locs → lv_has ls 6 [] → W p l e rmX2_fill s m args below meth c H locs 0 0 Q (F0 m 42 ls []) := by
    intro u H locs ls hf hH hl
    unfold pX2_fill_42 at hf
    cases hf
    exact hend _ _ _ _ hH dX2_fill_42
  unfold pX2_fill at hf
  refine lv_iload_n hx hb dX2_fill_0 rfl (lv_at hl 1 rfl) ?_
  obtain ⟨y1, h_y1, hf⟩ := bnd hf
  refine cl_iN C0 hH hl.1 (As := [.int x1]) (rest := []) (mX4_isLine l D ca (sW a ca u ++ wr) x1 h_y1) gX2_fill_X4_isLine_n55 (by decide +kernel) rfl rfl rfl (by decide +kernel) (by decide +kernel) hd_X4_isLine ⟨Nat.le_of_ble_eq_true rfl, Nat.le_of_ble_eq_true rfl⟩ ⟨Nat.zero_le _, Nat.zero_le _⟩ rfl (Nat.le_of_ble_eq_true rfl) dX2_fill_1 (fun H locs hH => ?_)
  refine lv_if_eq (tgt := 42) hx hb dX2_fill_4 (by decide) (fun c2 => ?_) (fun c2 => ?_)
  · rw [if_pos c2] at hf
    exact J42 _ _ _ _ hf hH (lv_sub hl [] rfl)
  · rw [if_neg c2] at hf
    refine lv_aload_n hx hb dX2_fill_7 rfl (lv_at hl 0 rfl) ?_
    refine gS_X2_blocks C0 hH inX2_fill_X2 (by decide +kernel : Cond.fieldLink RX2 9 "GatheringCache$Stick" "blocks" "[I" ∈ wsX2_fill) dX2_fill_8 ?_
    refine lv_iload_n hx hb dX2_fill_11 rfl (lv_at hl 1 rfl) ?_
    refine lv_iload_n hx hb dX2_fill_12 rfl (lv_at hl 2 rfl) ?_
    obtain ⟨u3, h_u3, hf⟩ := bnd hf
    refine sS_blocks C0 hH h_u3 dX2_fill_13 (fun H locs hH => ?_)
    refine lv_aload_n hx hb dX2_fill_14 rfl (lv_at hl 0 rfl) ?_
    refine gS_X2_values C0 hH inX2_fill_X2 (by decide +kernel : Cond.fieldLink RX2 15 "GatheringCache$Stick" "values" "[I" ∈ wsX2_fill) dX2_fill_15 ?_
    refine lv_iload_n hx hb dX2_fill_18 rfl (lv_at hl 1 rfl) ?_
    refine lv_iload_n hx hb dX2_fill_19 rfl (lv_at hl 3 rfl) ?_
    obtain ⟨u4, h_u4, hf⟩ := bnd hf
    refine sS_values C0 hH h_u4 dX2_fill_20 (fun H locs hH => ?_)
    refine lv_aload_n hx hb dX2_fill_21 rfl (lv_at hl 0 rfl) ?_
    refine gS_X2_stamps C0 hH inX2_fill_X2 (by decide +kernel : Cond.fieldLink RX2 18 "GatheringCache$Stick" "stamps" "[I" ∈ wsX2_fill) dX2_fill_22 ?_
    refine lv_iload_n hx hb dX2_fill_25 rfl (lv_at hl 1 rfl) ?_
    refine lv_iload hx hb dX2_fill_26 (lv_at hl 4 rfl) ?_
    obtain ⟨u5, h_u5, hf⟩ := bnd hf
    refine sS_stamps C0 hH h_u5 dX2_fill_28 (fun H locs hH => ?_)
    refine lv_aload_n hx hb dX2_fill_29 rfl (lv_at hl 0 rfl) ?_
    refine gS_X2_dirty C0 hH inX2_fill_X2 (by decide +kernel : Cond.fieldLink RX2 24 "GatheringCache$Stick" "dirty" "[Z" ∈ wsX2_fill) dX2_fill_30 ?_
    refine lv_iload_n hx hb dX2_fill_33 rfl (lv_at hl 1 rfl) ?_
    refine lv_iload hx hb dX2_fill_34 (lv_at hl 5 rfl) ?_
    obtain ⟨u6, h_u6, hf⟩ := bnd hf
    refine sS_dirty C0 hH h_u6 dX2_fill_36 (fun H locs hH => ?_)
    refine lv_aload_n hx hb dX2_fill_37 rfl (lv_at hl 0 rfl) ?_
    refine lv_iload_n hx hb dX2_fill_38 rfl (lv_at hl 1 rfl) ?_
    obtain ⟨u7, h_u7, hf⟩ := bnd hf
    refine cl_vV C0 hH hl.1 (As := [.int x1]) (rest := []) (mX2_use l D ca a wr u6 x1 h_u7) gX2_fill_X2_use rfl rfl rfl hd_X2_use ⟨Nat.le_of_ble_eq_true rfl, Nat.le_of_ble_eq_true rfl⟩ ⟨Nat.zero_le _, Nat.zero_le _⟩ (vS_X2 C0 hH) rfl (Nat.le_of_ble_eq_true rfl) dX2_fill_39 (fun H locs hH => ?_)
    exact J42 _ _ _ _ hf hH (lv_sub hl [] rfl)
def rmX2_empty : Room := { frames := 1, cells := 0, slots := 0, locals := 20 }
theorem hd_X2_empty : yX2_empty.cls = RX2 ∧ yX2_empty.cls ≠ "java/lang/invoke/MethodHandle" ∧ yX2_empty.cls ≠ "java/lang/invoke/VarHandle" ∧ (parseMethodDescriptor yX2_empty.desc).map (fun d => d.parameters.length) = some 1 := by decide +kernel
theorem inX2_empty_X2 : ∀ w ∈ wsX20, w ∈ wsX2_empty := by decide +kernel
set_option maxHeartbeats 4000000 in
set_option maxRecDepth 100000 in
theorem mX2_empty (l : Launch) (D : va_G) (ca : Gp) (a : Nat → Nat) (wr : va_W) (u : Mem) (x1 : Int32) {u9 : Mem} (hf : pX2_empty u x1 = some u9) : Mv l yX2_empty wsX2_empty rmX2_empty D ca [.ref (a 0), .int x1] (sW a ca u ++ wr) (sW a ca u9 ++ wr) := by
  refine Mv_of (own := RX2) (cc := cX2_empty) (nL := 2) (by decide) rfl rfl rfl rfl (Nat.le_of_ble_eq_true rfl) ?_
  intro p e s m args below meth c Q A ls C0 hH hl hend
  obtain ⟨hx, hb, hml, hown, hts⟩ := id C0.1
  have hl : lv_has ls 2 [(0, .ref (a 0)), (1, .int x1)] := hl
  have J21 : ∀ (u : Mem) (H : Heap) (locs : List Loc) (ls : Array Slot), pX2_empty_21 u = some u9 → HS D A s (sW a ca u ++ wr) H locs → lv_has ls 2 [] → W p l e rmX2_empty s m args below meth c H locs 0 0 Q (F0 m 21 ls []) := by
    intro u H locs ls hf hH hl
    unfold pX2_empty_21 at hf
    cases hf
    exact hend _ _ _ _ hH dX2_empty_21
  unfold pX2_empty at hf
  refine lv_iload_n hx hb dX2_empty_0 rfl (lv_at hl 1 rfl) ?_
  obtain ⟨y1, h_y1, hf⟩ := bnd hf
  refine cl_iN C0 hH hl.1 (As := [.int x1]) (rest := []) (mX4_isLine l D ca (sW a ca u ++ wr) x1 h_y1) gX2_empty_X4_isLine_n55 (by decide +kernel) rfl rfl rfl (by decide +kernel) (by decide +kernel) hd_X4_isLine ⟨Nat.le_of_ble_eq_true rfl, Nat.le_of_ble_eq_true rfl⟩ ⟨Nat.zero_le _, Nat.zero_le _⟩ rfl (Nat.le_of_ble_eq_true rfl) dX2_empty_1 (fun H locs hH => ?_)
  refine lv_if_eq (tgt := 21) hx hb dX2_empty_4 (by decide) (fun c2 => ?_) (fun c2 => ?_)
  · rw [if_pos c2] at hf
    exact J21 _ _ _ _ hf hH (lv_sub hl [] rfl)
  · rw [if_neg c2] at hf
    refine lv_aload_n hx hb dX2_empty_7 rfl (lv_at hl 0 rfl) ?_
    refine gS_X2_blocks C0 hH inX2_empty_X2 (by decide +kernel : Cond.fieldLink RX2 9 "GatheringCache$Stick" "blocks" "[I" ∈ wsX2_empty) dX2_empty_8 ?_
    refine lv_iload_n hx hb dX2_empty_11 rfl (lv_at hl 1 rfl) ?_
    refine lv_iconst (v := (-1)) hx hb dX2_empty_12 (by decide) ?_
    obtain ⟨u3, h_u3, hf⟩ := bnd hf
    refine sS_blocks C0 hH h_u3 dX2_empty_13 (fun H locs hH => ?_)
    refine lv_aload_n hx hb dX2_empty_14 rfl (lv_at hl 0 rfl) ?_
    refine gS_X2_dirty C0 hH inX2_empty_X2 (by decide +kernel : Cond.fieldLink RX2 24 "GatheringCache$Stick" "dirty" "[Z" ∈ wsX2_empty) dX2_empty_15 ?_
    refine lv_iload_n hx hb dX2_empty_18 rfl (lv_at hl 1 rfl) ?_
    refine lv_iconst (v := 0) hx hb dX2_empty_19 (by decide) ?_
    obtain ⟨u4, h_u4, hf⟩ := bnd hf
    refine sS_dirty C0 hH h_u4 dX2_empty_20 (fun H locs hH => ?_)
    exact J21 _ _ _ _ hf hH (lv_sub hl [] rfl)
def rmX2_dirtyLines : Room := { frames := 0, cells := 0, slots := 0, locals := 0 }
theorem hd_X2_dirtyLines : yX2_dirtyLines.cls = RX2 ∧ yX2_dirtyLines.cls ≠ "java/lang/invoke/MethodHandle" ∧ yX2_dirtyLines.cls ≠ "java/lang/invoke/VarHandle" ∧ (parseMethodDescriptor yX2_dirtyLines.desc).map (fun d => d.parameters.length) = some 0 := by decide +kernel
theorem inX2_dirtyLines_X2 : ∀ w ∈ wsX20, w ∈ wsX2_dirtyLines := by decide +kernel
set_option maxHeartbeats 4000000 in
set_option maxRecDepth 100000 in
theorem mX2_dirtyLines (l : Launch) (D : va_G) (ca : Gp) (a : Nat → Nat) (wr : va_W) (u : Mem) {r : Int32} (hf : pX2_dirtyLines u = some r) : Mi l yX2_dirtyLines wsX2_dirtyLines rmX2_dirtyLines D ca [.ref (a 0)] (sW a ca u ++ wr) (sW a ca u ++ wr) r := by
  refine Mi_of (own := RX2) (cc := cX2_dirtyLines) (nL := 3) (ty := .int) (by decide) rfl rfl rfl rfl (Nat.le_of_ble_eq_true rfl) ?_
  intro p e s m args below meth c Q A ls C0 hH hl hend
  obtain ⟨hx, hb, hml, hown, hts⟩ := id C0.1
  have hl : lv_has ls 3 [(0, .ref (a 0))] := hl
  have J4 : ∀ (n : Nat) (x1 : Int32) (x2 : Int32) (H : Heap) (locs : List Loc) (ls : Array Slot), pX2_dirtyLines_4 u n x1 x2 = some r → HS D A s (sW a ca u ++ wr) H locs → lv_has ls 3 [(0, .ref (a 0)), (1, .int x1), (2, .int x2)] → W p l e rmX2_dirtyLines s m args below meth c H locs 0 0 Q (F0 m 4 ls []) := by
    intro n
    induction n with
    | zero => intro x1 x2 H locs ls hf; cases hf
    | succ n ih =>
      intro x1 x2 H locs ls hf hH hl
      have hf : pX2_dirtyLines_4b u (pX2_dirtyLines_4 u n) x1 x2 = some r := hf
      have J22 : ∀ (x1 : Int32) (x2 : Int32) (H : Heap) (locs : List Loc) (ls : Array Slot), pX2_dirtyLines_22 u (pX2_dirtyLines_4 u n) x1 x2 = some r → HS D A s (sW a ca u ++ wr) H locs → lv_has ls 3 [(0, .ref (a 0)), (1, .int x1), (2, .int x2)] → W p l e rmX2_dirtyLines s m args below meth c H locs 0 0 Q (F0 m 22 ls []) := by
        intro x1 x2 H locs ls hf hH hl
        unfold pX2_dirtyLines_22 at hf
        refine lv_iinc (v := (x2 + 1)) (lv' := [(2, .int (x2 + 1)), (0, .ref (a 0)), (1, .int x1)]) hx hb dX2_dirtyLines_22 hl (k := 2) rfl rfl (by decide) rfl (fun ls hl => ?_)
        refine lv_goto (tgt := 4) hx hb dX2_dirtyLines_25 (by decide) ?_
        exact ih _ _ _ _ _ hf hH (lv_sub hl [1, 2, 0] rfl)
      unfold pX2_dirtyLines_4b at hf
      refine lv_iload_n hx hb dX2_dirtyLines_4 rfl (lv_at hl 2 rfl) ?_
      refine lv_bipush (v := 12) hx hb dX2_dirtyLines_5 (by decide) ?_
      refine lv_icmp_ge (tgt := 28) hx hb dX2_dirtyLines_7 (by decide) (fun c101 => ?_) (fun c101 => ?_)
      · rw [if_pos c101] at hf
        refine lv_iload_n hx hb dX2_dirtyLines_28 rfl (lv_at hl 1 rfl) ?_
        cases hf
        exact hend _ _ _ _ hH rfl dX2_dirtyLines_29
      · rw [if_neg c101] at hf
        refine lv_aload_n hx hb dX2_dirtyLines_10 rfl (lv_at hl 0 rfl) ?_
        refine gS_X2_dirty C0 hH inX2_dirtyLines_X2 (by decide +kernel : Cond.fieldLink RX2 24 "GatheringCache$Stick" "dirty" "[Z" ∈ wsX2_dirtyLines) dX2_dirtyLines_11 ?_
        refine lv_iload_n hx hb dX2_dirtyLines_14 rfl (lv_at hl 2 rfl) ?_
        obtain ⟨y102, h_y102, hf⟩ := bnd hf
        refine lS_dirty C0 hH h_y102 dX2_dirtyLines_15 ?_
        refine lv_if_eq (tgt := 22) hx hb dX2_dirtyLines_16 (by decide) (fun c103 => ?_) (fun c103 => ?_)
        · rw [if_pos c103] at hf
          exact J22 _ _ _ _ _ hf hH (lv_sub hl [0, 1, 2] rfl)
        · rw [if_neg c103] at hf
          refine lv_iinc (v := (x1 + 1)) (lv' := [(1, .int (x1 + 1)), (0, .ref (a 0)), (2, .int x2)]) hx hb dX2_dirtyLines_19 hl (k := 1) rfl rfl (by decide) rfl (fun ls hl => ?_)
          exact J22 _ _ _ _ _ hf hH (lv_sub hl [1, 0, 2] rfl)
  unfold pX2_dirtyLines at hf
  refine lv_iconst (v := 0) hx hb dX2_dirtyLines_0 (by decide) ?_
  refine lv_istore_n (lv' := [(1, .int 0), (0, .ref (a 0))]) hx hb dX2_dirtyLines_1 rfl hl (by decide) rfl (fun ls hl => ?_)
  refine lv_iconst (v := 0) hx hb dX2_dirtyLines_2 (by decide) ?_
  refine lv_istore_n (lv' := [(2, .int 0), (1, .int 0), (0, .ref (a 0))]) hx hb dX2_dirtyLines_3 rfl hl (by decide) rfl (fun ls hl => ?_)
  exact J4 FU _ _ _ _ _ hf hH (lv_sub hl [2, 1, 0] rfl)
def rmX2_usedLines : Room := { frames := 0, cells := 0, slots := 0, locals := 0 }
theorem hd_X2_usedLines : yX2_usedLines.cls = RX2 ∧ yX2_usedLines.cls ≠ "java/lang/invoke/MethodHandle" ∧ yX2_usedLines.cls ≠ "java/lang/invoke/VarHandle" ∧ (parseMethodDescriptor yX2_usedLines.desc).map (fun d => d.parameters.length) = some 0 := by decide +kernel
theorem inX2_usedLines_X2 : ∀ w ∈ wsX20, w ∈ wsX2_usedLines := by decide +kernel
set_option maxHeartbeats 4000000 in
set_option maxRecDepth 100000 in
theorem mX2_usedLines (l : Launch) (D : va_G) (ca : Gp) (a : Nat → Nat) (wr : va_W) (u : Mem) {r : Int32} (hf : pX2_usedLines u = some r) : Mi l yX2_usedLines wsX2_usedLines rmX2_usedLines D ca [.ref (a 0)] (sW a ca u ++ wr) (sW a ca u ++ wr) r := by
  refine Mi_of (own := RX2) (cc := cX2_usedLines) (nL := 3) (ty := .int) (by decide) rfl rfl rfl rfl (Nat.le_of_ble_eq_true rfl) ?_
  intro p e s m args below meth c Q A ls C0 hH hl hend
  obtain ⟨hx, hb, hml, hown, hts⟩ := id C0.1
  have hl : lv_has ls 3 [(0, .ref (a 0))] := hl
  have J4 : ∀ (n : Nat) (x1 : Int32) (x2 : Int32) (H : Heap) (locs : List Loc) (ls : Array Slot), pX2_usedLines_4 u n x1 x2 = some r → HS D A s (sW a ca u ++ wr) H locs → lv_has ls 3 [(0, .ref (a 0)), (1, .int x1), (2, .int x2)] → W p l e rmX2_usedLines s m args below meth c H locs 0 0 Q (F0 m 4 ls []) := by
    intro n
    induction n with
    | zero => intro x1 x2 H locs ls hf; cases hf
    | succ n ih =>
      intro x1 x2 H locs ls hf hH hl
      have hf : pX2_usedLines_4b u (pX2_usedLines_4 u n) x1 x2 = some r := hf
      have J23 : ∀ (x1 : Int32) (x2 : Int32) (H : Heap) (locs : List Loc) (ls : Array Slot), pX2_usedLines_23 u (pX2_usedLines_4 u n) x1 x2 = some r → HS D A s (sW a ca u ++ wr) H locs → lv_has ls 3 [(0, .ref (a 0)), (1, .int x1), (2, .int x2)] → W p l e rmX2_usedLines s m args below meth c H locs 0 0 Q (F0 m 23 ls []) := by
        intro x1 x2 H locs ls hf hH hl
        unfold pX2_usedLines_23 at hf
        refine lv_iinc (v := (x2 + 1)) (lv' := [(2, .int (x2 + 1)), (0, .ref (a 0)), (1, .int x1)]) hx hb dX2_usedLines_23 hl (k := 2) rfl rfl (by decide) rfl (fun ls hl => ?_)
        refine lv_goto (tgt := 4) hx hb dX2_usedLines_26 (by decide) ?_
        exact ih _ _ _ _ _ hf hH (lv_sub hl [1, 2, 0] rfl)
      unfold pX2_usedLines_4b at hf
      refine lv_iload_n hx hb dX2_usedLines_4 rfl (lv_at hl 2 rfl) ?_
      refine lv_bipush (v := 12) hx hb dX2_usedLines_5 (by decide) ?_
      refine lv_icmp_ge (tgt := 29) hx hb dX2_usedLines_7 (by decide) (fun c101 => ?_) (fun c101 => ?_)
      · rw [if_pos c101] at hf
        refine lv_iload_n hx hb dX2_usedLines_29 rfl (lv_at hl 1 rfl) ?_
        cases hf
        exact hend _ _ _ _ hH rfl dX2_usedLines_30
      · rw [if_neg c101] at hf
        refine lv_aload_n hx hb dX2_usedLines_10 rfl (lv_at hl 0 rfl) ?_
        refine gS_X2_blocks C0 hH inX2_usedLines_X2 (by decide +kernel : Cond.fieldLink RX2 9 "GatheringCache$Stick" "blocks" "[I" ∈ wsX2_usedLines) dX2_usedLines_11 ?_
        refine lv_iload_n hx hb dX2_usedLines_14 rfl (lv_at hl 2 rfl) ?_
        obtain ⟨y102, h_y102, hf⟩ := bnd hf
        refine lS_blocks C0 hH h_y102 dX2_usedLines_15 ?_
        refine lv_iconst (v := (-1)) hx hb dX2_usedLines_16 (by decide) ?_
        refine lv_icmp_eq (tgt := 23) hx hb dX2_usedLines_17 (by decide) (fun c103 => ?_) (fun c103 => ?_)
        · rw [if_pos c103] at hf
          exact J23 _ _ _ _ _ hf hH (lv_sub hl [0, 1, 2] rfl)
        · rw [if_neg c103] at hf
          refine lv_iinc (v := (x1 + 1)) (lv' := [(1, .int (x1 + 1)), (0, .ref (a 0)), (2, .int x2)]) hx hb dX2_usedLines_20 hl (k := 1) rfl rfl (by decide) rfl (fun ls hl => ?_)
          exact J23 _ _ _ _ _ hf hH (lv_sub hl [1, 0, 2] rfl)
  unfold pX2_usedLines at hf
  refine lv_iconst (v := 0) hx hb dX2_usedLines_0 (by decide) ?_
  refine lv_istore_n (lv' := [(1, .int 0), (0, .ref (a 0))]) hx hb dX2_usedLines_1 rfl hl (by decide) rfl (fun ls hl => ?_)
  refine lv_iconst (v := 0) hx hb dX2_usedLines_2 (by decide) ?_
  refine lv_istore_n (lv' := [(2, .int 0), (1, .int 0), (0, .ref (a 0))]) hx hb dX2_usedLines_3 rfl hl (by decide) rfl (fun ls hl => ?_)
  exact J4 FU _ _ _ _ _ hf hH (lv_sub hl [2, 1, 0] rfl)
def rmX2_partOf : Room := { frames := 1, cells := 0, slots := 0, locals := 20 }
theorem hd_X2_partOf : yX2_partOf.cls = RX2 ∧ yX2_partOf.cls ≠ "java/lang/invoke/MethodHandle" ∧ yX2_partOf.cls ≠ "java/lang/invoke/VarHandle" ∧ (parseMethodDescriptor yX2_partOf.desc).map (fun d => d.parameters.length) = some 2 := by decide +kernel
theorem inX2_partOf_X2 : ∀ w ∈ wsX20, w ∈ wsX2_partOf := by decide +kernel
set_option maxHeartbeats 4000000 in
set_option maxRecDepth 100000 in
theorem mX2_partOf (l : Launch) (D : va_G) (ca : Gp) (a : Nat → Nat) (wr : va_W) (u : Mem) (x1 : Int32) (x2 : Int32) {r : Int32} (hf : pX2_partOf u x1 x2 = some r) : Mi l yX2_partOf wsX2_partOf rmX2_partOf D ca [.ref (a 0), .int x1, .int x2] (sW a ca u ++ wr) (sW a ca u ++ wr) r := by
  refine Mi_of (own := RX2) (cc := cX2_partOf) (nL := 3) (ty := .int) (by decide) rfl rfl rfl rfl (Nat.le_of_ble_eq_true rfl) ?_
  intro p e s m args below meth c Q A ls C0 hH hl hend
  obtain ⟨hx, hb, hml, hown, hts⟩ := id C0.1
  have hl : lv_has ls 3 [(0, .ref (a 0)), (1, .int x1), (2, .int x2)] := hl
  have J17 : ∀ (H : Heap) (locs : List Loc) (ls : Array Slot), pX2_partOf_17 u  = some r → HS D A s (sW a ca u ++ wr) H locs → lv_has ls 3 [] → W p l e rmX2_partOf s m args below meth c H locs 0 0 Q (F0 m 17 ls []) := by
    intro H locs ls hf hH hl
    unfold pX2_partOf_17 at hf
    refine lv_iconst (v := (-1)) hx hb dX2_partOf_17 (by decide) ?_
    cases hf
    exact hend _ _ _ _ hH rfl dX2_partOf_18
  have J98 : ∀ (s0 : Int32) (H : Heap) (locs : List Loc) (ls : Array Slot), pX2_partOf_98 u s0 = some r → HS D A s (sW a ca u ++ wr) H locs → lv_has ls 3 [] → W p l e rmX2_partOf s m args below meth c H locs 0 0 Q (F0 m 98 ls [.int s0]) := by
    intro s0 H locs ls hf hH hl
    unfold pX2_partOf_98 at hf
    cases hf
    exact hend _ _ _ _ hH rfl dX2_partOf_98
  unfold pX2_partOf at hf
  refine lv_iload_n hx hb dX2_partOf_0 rfl (lv_at hl 1 rfl) ?_
  obtain ⟨y1, h_y1, hf⟩ := bnd hf
  refine cl_iN C0 hH hl.1 (As := [.int x1]) (rest := []) (mX4_isLine l D ca (sW a ca u ++ wr) x1 h_y1) gX2_partOf_X4_isLine_n55 (by decide +kernel) rfl rfl rfl (by decide +kernel) (by decide +kernel) hd_X4_isLine ⟨Nat.le_of_ble_eq_true rfl, Nat.le_of_ble_eq_true rfl⟩ ⟨Nat.zero_le _, Nat.zero_le _⟩ rfl (Nat.le_of_ble_eq_true rfl) dX2_partOf_1 (fun H locs hH => ?_)
  refine lv_if_eq (tgt := 17) hx hb dX2_partOf_4 (by decide) (fun c2 => ?_) (fun c2 => ?_)
  · rw [if_pos c2] at hf
    exact J17 _ _ _ hf hH (lv_sub hl [] rfl)
  · rw [if_neg c2] at hf
    refine lv_aload_n hx hb dX2_partOf_7 rfl (lv_at hl 0 rfl) ?_
    refine gS_X2_blocks C0 hH inX2_partOf_X2 (by decide +kernel : Cond.fieldLink RX2 9 "GatheringCache$Stick" "blocks" "[I" ∈ wsX2_partOf) dX2_partOf_8 ?_
    refine lv_iload_n hx hb dX2_partOf_11 rfl (lv_at hl 1 rfl) ?_
    obtain ⟨y3, h_y3, hf⟩ := bnd hf
    refine lS_blocks C0 hH h_y3 dX2_partOf_12 ?_
    refine lv_iconst (v := (-1)) hx hb dX2_partOf_13 (by decide) ?_
    refine lv_icmp_ne (tgt := 19) hx hb dX2_partOf_14 (by decide) (fun c4 => ?_) (fun c4 => ?_)
    · rw [if_neg c4] at hf
      refine lv_iload_n hx hb dX2_partOf_19 rfl (lv_at hl 2 rfl) ?_
      by_cases c11_0 : x2 = 0
      · rw [if_pos c11_0] at hf
        refine sw_in hx hb (v := 0) (tgt := 56) c11_0 dX2_partOf_20 (by decide) (by decide) rfl (by decide) ?_
        refine lv_aload_n hx hb dX2_partOf_56 rfl (lv_at hl 0 rfl) ?_
        refine gS_X2_blocks C0 hH inX2_partOf_X2 (by decide +kernel : Cond.fieldLink RX2 9 "GatheringCache$Stick" "blocks" "[I" ∈ wsX2_partOf) dX2_partOf_57 ?_
        refine lv_iload_n hx hb dX2_partOf_60 rfl (lv_at hl 1 rfl) ?_
        obtain ⟨y5, h_y5, hf⟩ := bnd hf
        refine lS_blocks C0 hH h_y5 dX2_partOf_61 ?_
        cases hf
        exact hend _ _ _ _ hH rfl dX2_partOf_62
      rw [if_neg c11_0] at hf
      by_cases c11_1 : x2 = 1
      · rw [if_pos c11_1] at hf
        refine sw_in hx hb (v := 1) (tgt := 63) c11_1 dX2_partOf_20 (by decide) (by decide) rfl (by decide) ?_
        refine lv_aload_n hx hb dX2_partOf_63 rfl (lv_at hl 0 rfl) ?_
        refine gS_X2_values C0 hH inX2_partOf_X2 (by decide +kernel : Cond.fieldLink RX2 15 "GatheringCache$Stick" "values" "[I" ∈ wsX2_partOf) dX2_partOf_64 ?_
        refine lv_iload_n hx hb dX2_partOf_67 rfl (lv_at hl 1 rfl) ?_
        obtain ⟨y6, h_y6, hf⟩ := bnd hf
        refine lS_values C0 hH h_y6 dX2_partOf_68 ?_
        cases hf
        exact hend _ _ _ _ hH rfl dX2_partOf_69
      rw [if_neg c11_1] at hf
      by_cases c11_2 : x2 = 2
      · rw [if_pos c11_2] at hf
        refine sw_in hx hb (v := 2) (tgt := 70) c11_2 dX2_partOf_20 (by decide) (by decide) rfl (by decide) ?_
        refine lv_aload_n hx hb dX2_partOf_70 rfl (lv_at hl 0 rfl) ?_
        refine gS_X2_stamps C0 hH inX2_partOf_X2 (by decide +kernel : Cond.fieldLink RX2 18 "GatheringCache$Stick" "stamps" "[I" ∈ wsX2_partOf) dX2_partOf_71 ?_
        refine lv_iload_n hx hb dX2_partOf_74 rfl (lv_at hl 1 rfl) ?_
        obtain ⟨y7, h_y7, hf⟩ := bnd hf
        refine lS_stamps C0 hH h_y7 dX2_partOf_75 ?_
        cases hf
        exact hend _ _ _ _ hH rfl dX2_partOf_76
      rw [if_neg c11_2] at hf
      by_cases c11_3 : x2 = 3
      · rw [if_pos c11_3] at hf
        refine sw_in hx hb (v := 3) (tgt := 77) c11_3 dX2_partOf_20 (by decide) (by decide) rfl (by decide) ?_
        refine lv_aload_n hx hb dX2_partOf_77 rfl (lv_at hl 0 rfl) ?_
        refine gS_X2_uses C0 hH inX2_partOf_X2 (by decide +kernel : Cond.fieldLink RX2 21 "GatheringCache$Stick" "uses" "[I" ∈ wsX2_partOf) dX2_partOf_78 ?_
        refine lv_iload_n hx hb dX2_partOf_81 rfl (lv_at hl 1 rfl) ?_
        obtain ⟨y8, h_y8, hf⟩ := bnd hf
        refine lS_uses C0 hH h_y8 dX2_partOf_82 ?_
        cases hf
        exact hend _ _ _ _ hH rfl dX2_partOf_83
      rw [if_neg c11_3] at hf
      by_cases c11_4 : x2 = 4
      · rw [if_pos c11_4] at hf
        refine sw_in hx hb (v := 4) (tgt := 84) c11_4 dX2_partOf_20 (by decide) (by decide) rfl (by decide) ?_
        refine lv_aload_n hx hb dX2_partOf_84 rfl (lv_at hl 0 rfl) ?_
        refine gS_X2_dirty C0 hH inX2_partOf_X2 (by decide +kernel : Cond.fieldLink RX2 24 "GatheringCache$Stick" "dirty" "[Z" ∈ wsX2_partOf) dX2_partOf_85 ?_
        refine lv_iload_n hx hb dX2_partOf_88 rfl (lv_at hl 1 rfl) ?_
        obtain ⟨y9, h_y9, hf⟩ := bnd hf
        refine lS_dirty C0 hH h_y9 dX2_partOf_89 ?_
        refine lv_if_eq (tgt := 97) hx hb dX2_partOf_90 (by decide) (fun c10 => ?_) (fun c10 => ?_)
        · rw [if_pos c10] at hf
          refine lv_iconst (v := 0) hx hb dX2_partOf_97 (by decide) ?_
          exact J98 _ _ _ _ hf hH (lv_sub hl [] rfl)
        · rw [if_neg c10] at hf
          refine lv_iconst (v := 1) hx hb dX2_partOf_93 (by decide) ?_
          refine lv_goto (tgt := 98) hx hb dX2_partOf_94 (by decide) ?_
          exact J98 _ _ _ _ hf hH (lv_sub hl [] rfl)
      rw [if_neg c11_4] at hf
      refine sw_out hx hb (tgt := 99) (sw_ne (vs := [0, 1, 2, 3, 4]) ⟨c11_0, c11_1, c11_2, c11_3, c11_4, trivial⟩) dX2_partOf_20 (by decide) (by decide) ?_
      refine lv_iconst (v := (-1)) hx hb dX2_partOf_99 (by decide) ?_
      cases hf
      exact hend _ _ _ _ hH rfl dX2_partOf_100
    · rw [if_pos c4] at hf
      exact J17 _ _ _ hf hH (lv_sub hl [] rfl)
def rmX2_limitTo : Room := { frames := 1, cells := 0, slots := 0, locals := 21 }
theorem hd_X2_limitTo : yX2_limitTo.cls = RX2 ∧ yX2_limitTo.cls ≠ "java/lang/invoke/MethodHandle" ∧ yX2_limitTo.cls ≠ "java/lang/invoke/VarHandle" ∧ (parseMethodDescriptor yX2_limitTo.desc).map (fun d => d.parameters.length) = some 1 := by decide +kernel
theorem inX2_limitTo_X2 : ∀ w ∈ wsX20, w ∈ wsX2_limitTo := by decide +kernel
set_option maxHeartbeats 4000000 in
set_option maxRecDepth 100000 in
theorem mX2_limitTo (l : Launch) (D : va_G) (ca : Gp) (a : Nat → Nat) (wr : va_W) (u : Mem) (x1 : Int32) {u9 : Mem} (hf : pX2_limitTo u x1 = some u9) : Mv l yX2_limitTo wsX2_limitTo rmX2_limitTo D ca [.ref (a 0), .int x1] (sW a ca u ++ wr) (sW a ca u9 ++ wr) := by
  refine Mv_of (own := RX2) (cc := cX2_limitTo) (nL := 2) (by decide) rfl rfl rfl rfl (Nat.le_of_ble_eq_true rfl) ?_
  intro p e s m args below meth c Q A ls C0 hH hl hend
  obtain ⟨hx, hb, hml, hown, hts⟩ := id C0.1
  have hl : lv_has ls 2 [(0, .ref (a 0)), (1, .int x1)] := hl
  unfold pX2_limitTo at hf
  refine lv_aload_n hx hb dX2_limitTo_0 rfl (lv_at hl 0 rfl) ?_
  refine lv_iload_n hx hb dX2_limitTo_1 rfl (lv_at hl 1 rfl) ?_
  obtain ⟨u1, h_u1, hf⟩ := bnd hf
  refine pS_X2_limit C0 hH inX2_limitTo_X2 h_u1 (by decide +kernel : Cond.fieldLink RX2 28 "GatheringCache$Stick" "limit" "I" ∈ wsX2_limitTo) dX2_limitTo_2 (fun H locs hH => ?_)
  refine lv_aload_n hx hb dX2_limitTo_5 rfl (lv_at hl 0 rfl) ?_
  refine lv_aload_n hx hb dX2_limitTo_6 rfl (lv_at hl 0 rfl) ?_
  refine gS_X2_charge C0 hH inX2_limitTo_X2 (by decide +kernel : Cond.fieldLink RX2 32 "GatheringCache$Stick" "charge" "I" ∈ wsX2_limitTo) dX2_limitTo_7 ?_
  refine lv_aload_n hx hb dX2_limitTo_10 rfl (lv_at hl 0 rfl) ?_
  refine gS_X2_limit C0 hH inX2_limitTo_X2 (by decide +kernel : Cond.fieldLink RX2 28 "GatheringCache$Stick" "limit" "I" ∈ wsX2_limitTo) dX2_limitTo_11 ?_
  refine va_mmin hx hb (C0.1.2.2.1.trans hl.1.symm) hown (hts (.methodLink RX2 70 Lib.Math.min.name) (by decide +kernel)) (hts (.static Lib.Math.min.name) (by decide +kernel)) (hts (.initialized "java/lang/Math") (by decide +kernel)) (hts (.code Lib.Math.min.name Lib.Math.min.code 2 (some .int)) (by decide +kernel)) (Nat.le_of_ble_eq_true rfl) (Nat.le_of_ble_eq_true rfl) (Nat.zero_le _) (Nat.zero_le _) dX2_limitTo_14 ?_
  obtain ⟨u2, h_u2, hf⟩ := bnd hf
  refine pS_X2_charge C0 hH inX2_limitTo_X2 h_u2 (by decide +kernel : Cond.fieldLink RX2 32 "GatheringCache$Stick" "charge" "I" ∈ wsX2_limitTo) dX2_limitTo_17 (fun H locs hH => ?_)
  cases hf
  exact hend _ _ _ _ hH dX2_limitTo_20
def rmX2_load : Room := { frames := 1, cells := 0, slots := 0, locals := 21 }
theorem hd_X2_load : yX2_load.cls = RX2 ∧ yX2_load.cls ≠ "java/lang/invoke/MethodHandle" ∧ yX2_load.cls ≠ "java/lang/invoke/VarHandle" ∧ (parseMethodDescriptor yX2_load.desc).map (fun d => d.parameters.length) = some 0 := by decide +kernel
theorem inX2_load_X2 : ∀ w ∈ wsX20, w ∈ wsX2_load := by decide +kernel
set_option maxHeartbeats 4000000 in
set_option maxRecDepth 100000 in
theorem mX2_load (l : Launch) (D : va_G) (ca : Gp) (a : Nat → Nat) (wr : va_W) (u : Mem) {u9 : Mem} (hf : pX2_load u = some u9) : Mv l yX2_load wsX2_load rmX2_load D ca [.ref (a 0)] (sW a ca u ++ wr) (sW a ca u9 ++ wr) := by
  refine Mv_of (own := RX2) (cc := cX2_load) (nL := 1) (by decide) rfl rfl rfl rfl (Nat.le_of_ble_eq_true rfl) ?_
  intro p e s m args below meth c Q A ls C0 hH hl hend
  obtain ⟨hx, hb, hml, hown, hts⟩ := id C0.1
  have hl : lv_has ls 1 [(0, .ref (a 0))] := hl
  unfold pX2_load at hf
  refine lv_aload_n hx hb dX2_load_0 rfl (lv_at hl 0 rfl) ?_
  refine lv_aload_n hx hb dX2_load_1 rfl (lv_at hl 0 rfl) ?_
  refine gS_X2_charge C0 hH inX2_load_X2 (by decide +kernel : Cond.fieldLink RX2 32 "GatheringCache$Stick" "charge" "I" ∈ wsX2_load) dX2_load_2 ?_
  refine lv_iconst (v := 2) hx hb dX2_load_5 (by decide) ?_
  refine lv_iadd hx hb dX2_load_6 ?_
  refine lv_aload_n hx hb dX2_load_7 rfl (lv_at hl 0 rfl) ?_
  refine gS_X2_limit C0 hH inX2_load_X2 (by decide +kernel : Cond.fieldLink RX2 28 "GatheringCache$Stick" "limit" "I" ∈ wsX2_load) dX2_load_8 ?_
  refine va_mmin hx hb (C0.1.2.2.1.trans hl.1.symm) hown (hts (.methodLink RX2 70 Lib.Math.min.name) (by decide +kernel)) (hts (.static Lib.Math.min.name) (by decide +kernel)) (hts (.initialized "java/lang/Math") (by decide +kernel)) (hts (.code Lib.Math.min.name Lib.Math.min.code 2 (some .int)) (by decide +kernel)) (Nat.le_of_ble_eq_true rfl) (Nat.le_of_ble_eq_true rfl) (Nat.zero_le _) (Nat.zero_le _) dX2_load_11 ?_
  obtain ⟨u1, h_u1, hf⟩ := bnd hf
  refine pS_X2_charge C0 hH inX2_load_X2 h_u1 (by decide +kernel : Cond.fieldLink RX2 32 "GatheringCache$Stick" "charge" "I" ∈ wsX2_load) dX2_load_14 (fun H locs hH => ?_)
  cases hf
  exact hend _ _ _ _ hH dX2_load_17
def rmX2_drain : Room := { frames := 2, cells := 0, slots := 0, locals := 41 }
theorem hd_X2_drain : yX2_drain.cls = RX2 ∧ yX2_drain.cls ≠ "java/lang/invoke/MethodHandle" ∧ yX2_drain.cls ≠ "java/lang/invoke/VarHandle" ∧ (parseMethodDescriptor yX2_drain.desc).map (fun d => d.parameters.length) = some 0 := by decide +kernel
theorem inX2_drain_X2 : ∀ w ∈ wsX20, w ∈ wsX2_drain := by decide +kernel
set_option maxHeartbeats 4000000 in
set_option maxRecDepth 100000 in
theorem mX2_drain (l : Launch) (D : va_G) (ca : Gp) (a : Nat → Nat) (wr : va_W) (u : Mem) {r : Int32} {u9 : Mem} (hf : pX2_drain u = some (r, u9)) : Mi l yX2_drain wsX2_drain rmX2_drain D ca [.ref (a 0)] (sW a ca u ++ wr) (sW a ca u9 ++ wr) r := by
  refine Mi_of (own := RX2) (cc := cX2_drain) (nL := 3) (ty := .int) (by decide) rfl rfl rfl rfl (Nat.le_of_ble_eq_true rfl) ?_
  intro p e s m args below meth c Q A ls C0 hH hl hend
  obtain ⟨hx, hb, hml, hown, hts⟩ := id C0.1
  have hl : lv_has ls 3 [(0, .ref (a 0))] := hl
  have J30 : ∀ (x1 : Int32) (n : Nat) (x2 : Int32) (u : Mem) (H : Heap) (locs : List Loc) (ls : Array Slot), pX2_drain_30 x1 n x2 u = some (r, u9) → HS D A s (sW a ca u ++ wr) H locs → lv_has ls 3 [(0, .ref (a 0)), (1, .int x1), (2, .int x2)] → W p l e rmX2_drain s m args below meth c H locs 0 0 Q (F0 m 30 ls []) := by
    intro x1 n
    induction n with
    | zero => intro x2 u H locs ls hf; cases hf
    | succ n ih =>
      intro x2 u H locs ls hf hH hl
      have hf : pX2_drain_30b x1 (pX2_drain_30 x1 n) x2 u = some (r, u9) := hf
      unfold pX2_drain_30b at hf
      refine lv_iload_n hx hb dX2_drain_30 rfl (lv_at hl 2 rfl) ?_
      refine lv_bipush (v := 12) hx hb dX2_drain_31 (by decide) ?_
      refine lv_icmp_ge (tgt := 47) hx hb dX2_drain_33 (by decide) (fun c101 => ?_) (fun c101 => ?_)
      · rw [if_pos c101] at hf
        refine lv_iload_n hx hb dX2_drain_47 rfl (lv_at hl 1 rfl) ?_
        cases hf
        exact hend _ _ _ _ hH rfl dX2_drain_48
      · rw [if_neg c101] at hf
        refine lv_aload_n hx hb dX2_drain_36 rfl (lv_at hl 0 rfl) ?_
        refine lv_iload_n hx hb dX2_drain_37 rfl (lv_at hl 2 rfl) ?_
        obtain ⟨u102, h_u102, hf⟩ := bnd hf
        refine cl_vV C0 hH hl.1 (As := [.int x2]) (rest := []) (mX2_empty l D ca a wr u x2 h_u102) gX2_drain_X2_empty rfl rfl rfl hd_X2_empty ⟨Nat.le_of_ble_eq_true rfl, Nat.le_of_ble_eq_true rfl⟩ ⟨Nat.zero_le _, Nat.zero_le _⟩ (vS_X2 C0 hH) rfl (Nat.le_of_ble_eq_true rfl) dX2_drain_38 (fun H locs hH => ?_)
        refine lv_iinc (v := (x2 + 1)) (lv' := [(2, .int (x2 + 1)), (0, .ref (a 0)), (1, .int x1)]) hx hb dX2_drain_41 hl (k := 2) rfl rfl (by decide) rfl (fun ls hl => ?_)
        refine lv_goto (tgt := 30) hx hb dX2_drain_44 (by decide) ?_
        exact ih _ _ _ _ _ hf hH (lv_sub hl [1, 2, 0] rfl)
  unfold pX2_drain at hf
  refine lv_aload_n hx hb dX2_drain_0 rfl (lv_at hl 0 rfl) ?_
  refine lv_aload_n hx hb dX2_drain_1 rfl (lv_at hl 0 rfl) ?_
  refine gS_X2_charge C0 hH inX2_drain_X2 (by decide +kernel : Cond.fieldLink RX2 32 "GatheringCache$Stick" "charge" "I" ∈ wsX2_drain) dX2_drain_2 ?_
  refine lv_iconst (v := 1) hx hb dX2_drain_5 (by decide) ?_
  refine lv_isub hx hb dX2_drain_6 ?_
  refine lv_iconst (v := 0) hx hb dX2_drain_7 (by decide) ?_
  refine va_mmax hx hb (C0.1.2.2.1.trans hl.1.symm) hown (hts (.methodLink RX2 76 Lib.Math.max.name) (by decide +kernel)) (hts (.static Lib.Math.max.name) (by decide +kernel)) (hts (.initialized "java/lang/Math") (by decide +kernel)) (hts (.code Lib.Math.max.name Lib.Math.max.code 2 (some .int)) (by decide +kernel)) (Nat.le_of_ble_eq_true rfl) (Nat.le_of_ble_eq_true rfl) (Nat.zero_le _) (Nat.zero_le _) dX2_drain_8 ?_
  obtain ⟨u1, h_u1, hf⟩ := bnd hf
  refine pS_X2_charge C0 hH inX2_drain_X2 h_u1 (by decide +kernel : Cond.fieldLink RX2 32 "GatheringCache$Stick" "charge" "I" ∈ wsX2_drain) dX2_drain_11 (fun H locs hH => ?_)
  refine lv_aload_n hx hb dX2_drain_14 rfl (lv_at hl 0 rfl) ?_
  refine gS_X2_charge C0 hH inX2_drain_X2 (by decide +kernel : Cond.fieldLink RX2 32 "GatheringCache$Stick" "charge" "I" ∈ wsX2_drain) dX2_drain_15 ?_
  refine lv_if_le (tgt := 23) hx hb dX2_drain_18 (by decide) (fun c2 => ?_) (fun c2 => ?_)
  · rw [if_pos c2] at hf
    refine lv_aload_n hx hb dX2_drain_23 rfl (lv_at hl 0 rfl) ?_
    obtain ⟨y3, h_y3, hf⟩ := bnd hf
    refine cl_iV C0 hH hl.1 (As := []) (rest := []) (mX2_dirtyLines l D ca a wr u1 h_y3) gX2_drain_X2_dirtyLines rfl rfl rfl hd_X2_dirtyLines ⟨Nat.le_of_ble_eq_true rfl, Nat.le_of_ble_eq_true rfl⟩ ⟨Nat.zero_le _, Nat.zero_le _⟩ (vS_X2 C0 hH) rfl (Nat.le_of_ble_eq_true rfl) dX2_drain_24 (fun H locs hH => ?_)
    refine lv_istore_n (lv' := [(1, .int y3), (0, .ref (a 0))]) hx hb dX2_drain_27 rfl hl (by decide) rfl (fun ls hl => ?_)
    refine lv_iconst (v := 0) hx hb dX2_drain_28 (by decide) ?_
    refine lv_istore_n (lv' := [(2, .int 0), (1, .int y3), (0, .ref (a 0))]) hx hb dX2_drain_29 rfl hl (by decide) rfl (fun ls hl => ?_)
    exact J30 _ FU _ _ _ _ _ hf hH (lv_sub hl [2, 1, 0] rfl)
  · rw [if_neg c2] at hf
    refine lv_iconst (v := 0) hx hb dX2_drain_21 (by decide) ?_
    cases hf
    exact hend _ _ _ _ hH rfl dX2_drain_22
