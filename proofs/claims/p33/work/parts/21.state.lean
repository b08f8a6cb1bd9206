/-! CONTRACTS, by program. -/
def rmX1_canDestage : Room := { frames := 0, cells := 0, slots := 0, locals := 0 }
theorem hd_X1_canDestage : yX1_canDestage.cls = RX1 ∧ yX1_canDestage.cls ≠ "java/lang/invoke/MethodHandle" ∧ yX1_canDestage.cls ≠ "java/lang/invoke/VarHandle" ∧ (parseMethodDescriptor yX1_canDestage.desc).map (fun d => d.parameters.length) = some 0 := by decide +kernel
theorem inX1_canDestage_X1 : ∀ w ∈ wsX10, w ∈ wsX1_canDestage := by decide +kernel
theorem inX1_canDestage_X2 : ∀ w ∈ wsX20, w ∈ wsX1_canDestage := by decide +kernel
set_option maxHeartbeats 4000000 in
set_option maxRecDepth 100000 in
theorem mX1_canDestage (l : Launch) (D : va_G) (ca : Gp) (a : Nat → Nat) (wr : va_W) (u : Mem) {r : Int32} (hf : pX1_canDestage u = some r) : Mi l yX1_canDestage wsX1_canDestage rmX1_canDestage D ca [.ref (a 6)] (sW a ca u ++ wr) (sW a ca u ++ wr) r := by
  refine Mi_of (own := RX1) (cc := cX1_canDestage) (nL := 1) (ty := .boolean) (by decide) rfl rfl rfl rfl (Nat.le_of_ble_eq_true rfl) ?_
  intro p e s m args below meth c Q A ls C0 hH hl hend
  obtain ⟨hx, hb, hml, hown, hts⟩ := id C0.1
  have hl : lv_has ls 1 [(0, .ref (a 6))] := hl
  have J22 : ∀ (s0 : Int32) (H : Heap) (locs : List Loc) (ls : Array Slot), pX1_canDestage_22 u s0 = some r → HS D A s (sW a ca u ++ wr) H locs → lv_has ls 1 [] → W p l e rmX1_canDestage s m args below meth c H locs 0 0 Q (F0 m 22 ls [.int s0]) := by
    intro s0 H locs ls hf hH hl
    unfold pX1_canDestage_22 at hf
    obtain ⟨hz, hf⟩ := gd hf
    cases hf
    exact hend _ _ _ _ hH (isz_n hz) dX1_canDestage_22
  have J21 : ∀ (H : Heap) (locs : List Loc) (ls : Array Slot), pX1_canDestage_21 u  = some r → HS D A s (sW a ca u ++ wr) H locs → lv_has ls 1 [] → W p l e rmX1_canDestage s m args below meth c H locs 0 0 Q (F0 m 21 ls []) := by
    intro H locs ls hf hH hl
    unfold pX1_canDestage_21 at hf
    refine lv_iconst (v := 0) hx hb dX1_canDestage_21 (by decide) ?_
    exact J22 _ _ _ _ hf hH (lv_sub hl [] rfl)
  unfold pX1_canDestage at hf
  refine lv_aload_n hx hb dX1_canDestage_0 rfl (lv_at hl 0 rfl) ?_
  refine gS_X1_on C0 hH inX1_canDestage_X1 (by decide +kernel : Cond.fieldLink RX1 31 "GatheringCache$State" "on" "Z" ∈ wsX1_canDestage) dX1_canDestage_1 ?_
  refine lv_if_eq (tgt := 21) hx hb dX1_canDestage_4 (by decide) (fun c1 => ?_) (fun c1 => ?_)
  · rw [if_pos c1] at hf
    exact J21 _ _ _ hf hH (lv_sub hl [] rfl)
  · rw [if_neg c1] at hf
    refine lv_aload_n hx hb dX1_canDestage_7 rfl (lv_at hl 0 rfl) ?_
    refine gS_X1_stick C0 hH inX1_canDestage_X1 (by decide +kernel : Cond.fieldLink RX1 12 "GatheringCache$State" "stick" "LGatheringCache$Stick;" ∈ wsX1_canDestage) dX1_canDestage_8 ?_
    refine gS_X2_in C0 hH inX1_canDestage_X2 (by decide +kernel : Cond.fieldLink RX1 49 "GatheringCache$Stick" "in" "Z" ∈ wsX1_canDestage) dX1_canDestage_11 ?_
    refine lv_if_eq (tgt := 21) hx hb dX1_canDestage_14 (by decide) (fun c2 => ?_) (fun c2 => ?_)
    · rw [if_pos c2] at hf
      exact J21 _ _ _ hf hH (lv_sub hl [] rfl)
    · rw [if_neg c2] at hf
      refine lv_iconst (v := 1) hx hb dX1_canDestage_17 (by decide) ?_
      refine lv_goto (tgt := 22) hx hb dX1_canDestage_18 (by decide) ?_
      exact J22 _ _ _ _ hf hH (lv_sub hl [] rfl)
def rmX1_gathers : Room := { frames := 0, cells := 0, slots := 0, locals := 0 }
theorem hd_X1_gathers : yX1_gathers.cls = RX1 ∧ yX1_gathers.cls ≠ "java/lang/invoke/MethodHandle" ∧ yX1_gathers.cls ≠ "java/lang/invoke/VarHandle" ∧ (parseMethodDescriptor yX1_gathers.desc).map (fun d => d.parameters.length) = some 0 := by decide +kernel
theorem inX1_gathers_X1 : ∀ w ∈ wsX10, w ∈ wsX1_gathers := by decide +kernel
theorem inX1_gathers_X2 : ∀ w ∈ wsX20, w ∈ wsX1_gathers := by decide +kernel
set_option maxHeartbeats 4000000 in
set_option maxRecDepth 100000 in
theorem mX1_gathers (l : Launch) (D : va_G) (ca : Gp) (a : Nat → Nat) (wr : va_W) (u : Mem) {r : Int32} (hf : pX1_gathers u = some r) : Mi l yX1_gathers wsX1_gathers rmX1_gathers D ca [.ref (a 6)] (sW a ca u ++ wr) (sW a ca u ++ wr) r := by
  refine Mi_of (own := RX1) (cc := cX1_gathers) (nL := 1) (ty := .boolean) (by decide) rfl rfl rfl rfl (Nat.le_of_ble_eq_true rfl) ?_
  intro p e s m args below meth c Q A ls C0 hH hl hend
  obtain ⟨hx, hb, hml, hown, hts⟩ := id C0.1
  have hl : lv_has ls 1 [(0, .ref (a 6))] := hl
  have J27 : ∀ (s0 : Int32) (H : Heap) (locs : List Loc) (ls : Array Slot), pX1_gathers_27 u s0 = some r → HS D A s (sW a ca u ++ wr) H locs → lv_has ls 1 [] → W p l e rmX1_gathers s m args below meth c H locs 0 0 Q (F0 m 27 ls [.int s0]) := by
    intro s0 H locs ls hf hH hl
    unfold pX1_gathers_27 at hf
    obtain ⟨hz, hf⟩ := gd hf
    cases hf
    exact hend _ _ _ _ hH (isz_n hz) dX1_gathers_27
  have J26 : ∀ (H : Heap) (locs : List Loc) (ls : Array Slot), pX1_gathers_26 u  = some r → HS D A s (sW a ca u ++ wr) H locs → lv_has ls 1 [] → W p l e rmX1_gathers s m args below meth c H locs 0 0 Q (F0 m 26 ls []) := by
    intro H locs ls hf hH hl
    unfold pX1_gathers_26 at hf
    refine lv_iconst (v := 0) hx hb dX1_gathers_26 (by decide) ?_
    exact J27 _ _ _ _ hf hH (lv_sub hl [] rfl)
  unfold pX1_gathers at hf
  refine lv_aload_n hx hb dX1_gathers_0 rfl (lv_at hl 0 rfl) ?_
  refine gS_X1_stick C0 hH inX1_gathers_X1 (by decide +kernel : Cond.fieldLink RX1 12 "GatheringCache$State" "stick" "LGatheringCache$Stick;" ∈ wsX1_gathers) dX1_gathers_1 ?_
  refine gS_X2_in C0 hH inX1_gathers_X2 (by decide +kernel : Cond.fieldLink RX1 49 "GatheringCache$Stick" "in" "Z" ∈ wsX1_gathers) dX1_gathers_4 ?_
  refine lv_if_eq (tgt := 26) hx hb dX1_gathers_7 (by decide) (fun c1 => ?_) (fun c1 => ?_)
  · rw [if_pos c1] at hf
    exact J26 _ _ _ hf hH (lv_sub hl [] rfl)
  · rw [if_neg c1] at hf
    refine lv_aload_n hx hb dX1_gathers_10 rfl (lv_at hl 0 rfl) ?_
    refine gS_X1_stick C0 hH inX1_gathers_X1 (by decide +kernel : Cond.fieldLink RX1 12 "GatheringCache$State" "stick" "LGatheringCache$Stick;" ∈ wsX1_gathers) dX1_gathers_11 ?_
    refine gS_X2_charge C0 hH inX1_gathers_X2 (by decide +kernel : Cond.fieldLink RX1 52 "GatheringCache$Stick" "charge" "I" ∈ wsX1_gathers) dX1_gathers_14 ?_
    refine lv_bipush (v := 20) hx hb dX1_gathers_17 (by decide) ?_
    refine lv_icmp_lt (tgt := 26) hx hb dX1_gathers_19 (by decide) (fun c2 => ?_) (fun c2 => ?_)
    · rw [if_pos c2] at hf
      exact J26 _ _ _ hf hH (lv_sub hl [] rfl)
    · rw [if_neg c2] at hf
      refine lv_iconst (v := 1) hx hb dX1_gathers_22 (by decide) ?_
      refine lv_goto (tgt := 27) hx hb dX1_gathers_23 (by decide) ?_
      exact J27 _ _ _ _ hf hH (lv_sub hl [] rfl)
def rmX1_diskValueOf : Room := { frames := 1, cells := 0, slots := 0, locals := 20 }
theorem hd_X1_diskValueOf : yX1_diskValueOf.cls = RX1 ∧ yX1_diskValueOf.cls ≠ "java/lang/invoke/MethodHandle" ∧ yX1_diskValueOf.cls ≠ "java/lang/invoke/VarHandle" ∧ (parseMethodDescriptor yX1_diskValueOf.desc).map (fun d => d.parameters.length) = some 1 := by decide +kernel
theorem inX1_diskValueOf_X1 : ∀ w ∈ wsX10, w ∈ wsX1_diskValueOf := by decide +kernel
set_option maxHeartbeats 4000000 in
set_option maxRecDepth 100000 in
theorem mX1_diskValueOf (l : Launch) (D : va_G) (ca : Gp) (a : Nat → Nat) (wr : va_W) (u : Mem) (x1 : Int32) {r : Int32} (hf : pX1_diskValueOf u x1 = some r) : Mi l yX1_diskValueOf wsX1_diskValueOf rmX1_diskValueOf D ca [.ref (a 6), .int x1] (sW a ca u ++ wr) (sW a ca u ++ wr) r := by
  refine Mi_of (own := RX1) (cc := cX1_diskValueOf) (nL := 2) (ty := .int) (by decide) rfl rfl rfl rfl (Nat.le_of_ble_eq_true rfl) ?_
  intro p e s m args below meth c Q A ls C0 hH hl hend
  obtain ⟨hx, hb, hml, hown, hts⟩ := id C0.1
  have hl : lv_has ls 2 [(0, .ref (a 6)), (1, .int x1)] := hl
  have J17 : ∀ (s0 : Int32) (H : Heap) (locs : List Loc) (ls : Array Slot), pX1_diskValueOf_17 u s0 = some r → HS D A s (sW a ca u ++ wr) H locs → lv_has ls 2 [] → W p l e rmX1_diskValueOf s m args below meth c H locs 0 0 Q (F0 m 17 ls [.int s0]) := by
    intro s0 H locs ls hf hH hl
    unfold pX1_diskValueOf_17 at hf
    cases hf
    exact hend _ _ _ _ hH rfl dX1_diskValueOf_17
  unfold pX1_diskValueOf at hf
  refine lv_iload_n hx hb dX1_diskValueOf_0 rfl (lv_at hl 1 rfl) ?_
  obtain ⟨y1, h_y1, hf⟩ := bnd hf
  refine cl_iN C0 hH hl.1 (As := [.int x1]) (rest := []) (mX4_isBlock l D ca (sW a ca u ++ wr) x1 h_y1) gX1_diskValueOf_X4_isBlock_n55 (by decide +kernel) rfl rfl rfl (by decide +kernel) (by decide +kernel) hd_X4_isBlock ⟨Nat.le_of_ble_eq_true rfl, Nat.le_of_ble_eq_true rfl⟩ ⟨Nat.zero_le _, Nat.zero_le _⟩ rfl (Nat.le_of_ble_eq_true rfl) dX1_diskValueOf_1 (fun H locs hH => ?_)
  refine lv_if_eq (tgt := 16) hx hb dX1_diskValueOf_4 (by decide) (fun c2 => ?_) (fun c2 => ?_)
  · rw [if_pos c2] at hf
    refine lv_iconst (v := (-1)) hx hb dX1_diskValueOf_16 (by decide) ?_
    exact J17 _ _ _ _ hf hH (lv_sub hl [] rfl)
  · rw [if_neg c2] at hf
    refine lv_aload_n hx hb dX1_diskValueOf_7 rfl (lv_at hl 0 rfl) ?_
    refine gS_X1_diskValues C0 hH inX1_diskValueOf_X1 (by decide +kernel : Cond.fieldLink RX1 18 "GatheringCache$State" "diskValues" "[I" ∈ wsX1_diskValueOf) dX1_diskValueOf_8 ?_
    refine lv_iload_n hx hb dX1_diskValueOf_11 rfl (lv_at hl 1 rfl) ?_
    obtain ⟨y3, h_y3, hf⟩ := bnd hf
    refine lS_diskValues C0 hH h_y3 dX1_diskValueOf_12 ?_
    refine lv_goto (tgt := 17) hx hb dX1_diskValueOf_13 (by decide) ?_
    exact J17 _ _ _ _ hf hH (lv_sub hl [] rfl)
def rmX1_putOnDisk : Room := { frames := 1, cells := 0, slots := 0, locals := 20 }
theorem hd_X1_putOnDisk : yX1_putOnDisk.cls = RX1 ∧ yX1_putOnDisk.cls ≠ "java/lang/invoke/MethodHandle" ∧ yX1_putOnDisk.cls ≠ "java/lang/invoke/VarHandle" ∧ (parseMethodDescriptor yX1_putOnDisk.desc).map (fun d => d.parameters.length) = some 3 := by decide +kernel
theorem inX1_putOnDisk_X1 : ∀ w ∈ wsX10, w ∈ wsX1_putOnDisk := by decide +kernel
set_option maxHeartbeats 4000000 in
set_option maxRecDepth 100000 in
theorem mX1_putOnDisk (l : Launch) (D : va_G) (ca : Gp) (a : Nat → Nat) (wr : va_W) (u : Mem) (x1 : Int32) (x2 : Int32) (x3 : Int32) {u9 : Mem} (hf : pX1_putOnDisk u x1 x2 x3 = some u9) : Mv l yX1_putOnDisk wsX1_putOnDisk rmX1_putOnDisk D ca [.ref (a 6), .int x1, .int x2, .int x3] (sW a ca u ++ wr) (sW a ca u9 ++ wr) := by
  refine Mv_of (own := RX1) (cc := cX1_putOnDisk) (nL := 4) (by decide) rfl rfl rfl rfl (Nat.le_of_ble_eq_true rfl) ?_
  intro p e s m args below meth c Q A ls C0 hH hl hend
  obtain ⟨hx, hb, hml, hown, hts⟩ := id C0.1
  have hl : lv_has ls 4 [(0, .ref (a 6)), (1, .int x1), (2, .int x2), (3, .int x3)] := hl
  have J21 : ∀ (u : Mem) (H : Heap) (locs : List Loc) (ls : Array Slot), pX1_putOnDisk_21 u = some u9 → HS D A s (sW a ca u ++ wr) H locs → lv_has ls 4 [] → W p l e rmX1_putOnDisk s m args below meth c H locs 0 0 Q (F0 m 21 ls []) := by
    intro u H locs ls hf hH hl
    unfold pX1_putOnDisk_21 at hf
    cases hf
    exact hend _ _ _ _ hH dX1_putOnDisk_21
  unfold pX1_putOnDisk at hf
  refine lv_iload_n hx hb dX1_putOnDisk_0 rfl (lv_at hl 1 rfl) ?_
  obtain ⟨y1, h_y1, hf⟩ := bnd hf
  refine cl_iN C0 hH hl.1 (As := [.int x1]) (rest := []) (mX4_isBlock l D ca (sW a ca u ++ wr) x1 h_y1) gX1_putOnDisk_X4_isBlock_n55 (by decide +kernel) rfl rfl rfl (by decide +kernel) (by decide +kernel) hd_X4_isBlock ⟨Nat.le_of_ble_eq_true rfl, Nat.le_of_ble_eq_true rfl⟩ ⟨Nat.zero_le _, Nat.zero_le _⟩ rfl (Nat.le_of_ble_eq_true rfl) dX1_putOnDisk_1 (fun H locs hH => ?_)
  refine lv_if_eq (tgt := 21) hx hb dX1_putOnDisk_4 (by decide) (fun c2 => ?_) (fun c2 => ?_)
  · rw [if_pos c2] at hf
    exact J21 _ _ _ _ hf hH (lv_sub hl [] rfl)
  · rw [if_neg c2] at hf
    refine lv_aload_n hx hb dX1_putOnDisk_7 rfl (lv_at hl 0 rfl) ?_
    refine gS_X1_diskValues C0 hH inX1_putOnDisk_X1 (by decide +kernel : Cond.fieldLink RX1 18 "GatheringCache$State" "diskValues" "[I" ∈ wsX1_putOnDisk) dX1_putOnDisk_8 ?_
    refine lv_iload_n hx hb dX1_putOnDisk_11 rfl (lv_at hl 1 rfl) ?_
    refine lv_iload_n hx hb dX1_putOnDisk_12 rfl (lv_at hl 2 rfl) ?_
    obtain ⟨u3, h_u3, hf⟩ := bnd hf
    refine sS_diskValues C0 hH h_u3 dX1_putOnDisk_13 (fun H locs hH => ?_)
    refine lv_aload_n hx hb dX1_putOnDisk_14 rfl (lv_at hl 0 rfl) ?_
    refine gS_X1_diskStamps C0 hH inX1_putOnDisk_X1 (by decide +kernel : Cond.fieldLink RX1 22 "GatheringCache$State" "diskStamps" "[I" ∈ wsX1_putOnDisk) dX1_putOnDisk_15 ?_
    refine lv_iload_n hx hb dX1_putOnDisk_18 rfl (lv_at hl 1 rfl) ?_
    refine lv_iload_n hx hb dX1_putOnDisk_19 rfl (lv_at hl 3 rfl) ?_
    obtain ⟨u4, h_u4, hf⟩ := bnd hf
    refine sS_diskStamps C0 hH h_u4 dX1_putOnDisk_20 (fun H locs hH => ?_)
    exact J21 _ _ _ _ hf hH (lv_sub hl [] rfl)
def rmX1_countWrittenTogether : Room := { frames := 1, cells := 0, slots := 0, locals := 20 }
theorem hd_X1_countWrittenTogether : yX1_countWrittenTogether.cls = RX1 ∧ yX1_countWrittenTogether.cls ≠ "java/lang/invoke/MethodHandle" ∧ yX1_countWrittenTogether.cls ≠ "java/lang/invoke/VarHandle" ∧ (parseMethodDescriptor yX1_countWrittenTogether.desc).map (fun d => d.parameters.length) = some 1 := by decide +kernel
theorem inX1_countWrittenTogether_X1 : ∀ w ∈ wsX10, w ∈ wsX1_countWrittenTogether := by decide +kernel
set_option maxHeartbeats 4000000 in
set_option maxRecDepth 100000 in
theorem mX1_countWrittenTogether (l : Launch) (D : va_G) (ca : Gp) (a : Nat → Nat) (wr : va_W) (u : Mem) (x1 : Int32) {u9 : Mem} (hf : pX1_countWrittenTogether u x1 = some u9) : Mv l yX1_countWrittenTogether wsX1_countWrittenTogether rmX1_countWrittenTogether D ca [.ref (a 6), .int x1] (sW a ca u ++ wr) (sW a ca u9 ++ wr) := by
  refine Mv_of (own := RX1) (cc := cX1_countWrittenTogether) (nL := 2) (by decide) rfl rfl rfl rfl (Nat.le_of_ble_eq_true rfl) ?_
  intro p e s m args below meth c Q A ls C0 hH hl hend
  obtain ⟨hx, hb, hml, hown, hts⟩ := id C0.1
  have hl : lv_has ls 2 [(0, .ref (a 6)), (1, .int x1)] := hl
  unfold pX1_countWrittenTogether at hf
  refine lv_aload_n hx hb dX1_countWrittenTogether_0 rfl (lv_at hl 0 rfl) ?_
  refine gS_X1_counts C0 hH inX1_countWrittenTogether_X1 (by decide +kernel : Cond.fieldLink RX1 28 "GatheringCache$State" "counts" "[I" ∈ wsX1_countWrittenTogether) dX1_countWrittenTogether_1 ?_
  refine lv_iconst (v := 0) hx hb dX1_countWrittenTogether_4 (by decide) ?_
  refine lv_dup2_11 hx hb dX1_countWrittenTogether_5 rfl rfl ?_
  obtain ⟨y1, h_y1, hf⟩ := bnd hf
  refine lS_counts C0 hH h_y1 dX1_countWrittenTogether_6 ?_
  refine lv_iload_n hx hb dX1_countWrittenTogether_7 rfl (lv_at hl 1 rfl) ?_
  obtain ⟨y2, h_y2, hf⟩ := bnd hf
  refine cl_iN C0 hH hl.1 (As := [.int x1]) (rest := [.int y1, .int 0, .ref (a 10)]) (mX4_readsToWrite l D ca (sW a ca u ++ wr) x1 h_y2) gX1_countWrittenTogether_X4_readsToWrite_n59 (by decide +kernel) rfl rfl rfl (by decide +kernel) (by decide +kernel) hd_X4_readsToWrite ⟨Nat.le_of_ble_eq_true rfl, Nat.le_of_ble_eq_true rfl⟩ ⟨Nat.zero_le _, Nat.zero_le _⟩ rfl (Nat.le_of_ble_eq_true rfl) dX1_countWrittenTogether_8 (fun H locs hH => ?_)
  refine lv_iadd hx hb dX1_countWrittenTogether_11 ?_
  obtain ⟨u3, h_u3, hf⟩ := bnd hf
  refine sS_counts C0 hH h_u3 dX1_countWrittenTogether_12 (fun H locs hH => ?_)
  refine lv_aload_n hx hb dX1_countWrittenTogether_13 rfl (lv_at hl 0 rfl) ?_
  refine gS_X1_counts C0 hH inX1_countWrittenTogether_X1 (by decide +kernel : Cond.fieldLink RX1 28 "GatheringCache$State" "counts" "[I" ∈ wsX1_countWrittenTogether) dX1_countWrittenTogether_14 ?_
  refine lv_iconst (v := 1) hx hb dX1_countWrittenTogether_17 (by decide) ?_
  refine lv_dup2_11 hx hb dX1_countWrittenTogether_18 rfl rfl ?_
  obtain ⟨y4, h_y4, hf⟩ := bnd hf
  refine lS_counts C0 hH h_y4 dX1_countWrittenTogether_19 ?_
  refine lv_iload_n hx hb dX1_countWrittenTogether_20 rfl (lv_at hl 1 rfl) ?_
  obtain ⟨y5, h_y5, hf⟩ := bnd hf
  refine cl_iN C0 hH hl.1 (As := [.int x1]) (rest := [.int y4, .int 1, .ref (a 10)]) (mX4_writesToWrite l D ca (sW a ca u3 ++ wr) x1 h_y5) gX1_countWrittenTogether_X4_writesToWrite_n63 (by decide +kernel) rfl rfl rfl (by decide +kernel) (by decide +kernel) hd_X4_writesToWrite ⟨Nat.le_of_ble_eq_true rfl, Nat.le_of_ble_eq_true rfl⟩ ⟨Nat.zero_le _, Nat.zero_le _⟩ rfl (Nat.le_of_ble_eq_true rfl) dX1_countWrittenTogether_21 (fun H locs hH => ?_)
  refine lv_iadd hx hb dX1_countWrittenTogether_24 ?_
  obtain ⟨u6, h_u6, hf⟩ := bnd hf
  refine sS_counts C0 hH h_u6 dX1_countWrittenTogether_25 (fun H locs hH => ?_)
  cases hf
  exact hend _ _ _ _ hH dX1_countWrittenTogether_26
def rmX1_destageStripe : Room := { frames := 2, cells := 0, slots := 0, locals := 43 }
theorem hd_X1_destageStripe : yX1_destageStripe.cls = RX1 ∧ yX1_destageStripe.cls ≠ "java/lang/invoke/MethodHandle" ∧ yX1_destageStripe.cls ≠ "java/lang/invoke/VarHandle" ∧ (parseMethodDescriptor yX1_destageStripe.desc).map (fun d => d.parameters.length) = some 1 := by decide +kernel
theorem inX1_destageStripe_X1 : ∀ w ∈ wsX10, w ∈ wsX1_destageStripe := by decide +kernel
theorem inX1_destageStripe_X2 : ∀ w ∈ wsX20, w ∈ wsX1_destageStripe := by decide +kernel
set_option maxHeartbeats 4000000 in
set_option maxRecDepth 100000 in
theorem mX1_destageStripe (l : Launch) (D : va_G) (ca : Gp) (a : Nat → Nat) (wr : va_W) (u : Mem) (x1 : Int32) {r : Int32} {u9 : Mem} (hf : pX1_destageStripe u x1 = some (r, u9)) : Mi l yX1_destageStripe wsX1_destageStripe rmX1_destageStripe D ca [.ref (a 6), .int x1] (sW a ca u ++ wr) (sW a ca u9 ++ wr) r := by
  refine Mi_of (own := RX1) (cc := cX1_destageStripe) (nL := 4) (ty := .int) (by decide) rfl rfl rfl rfl (Nat.le_of_ble_eq_true rfl) ?_
  intro p e s m args below meth c Q A ls C0 hH hl hend
  obtain ⟨hx, hb, hml, hown, hts⟩ := id C0.1
  have hl : lv_has ls 4 [(0, .ref (a 6)), (1, .int x1)] := hl
  have J103 : ∀ (x2 : Int32) (u : Mem) (H : Heap) (locs : List Loc) (ls : Array Slot), pX1_destageStripe_103 x2 u = some (r, u9) → HS D A s (sW a ca u ++ wr) H locs → lv_has ls 4 [(2, .int x2)] → W p l e rmX1_destageStripe s m args below meth c H locs 0 0 Q (F0 m 103 ls []) := by
    intro x2 u H locs ls hf hH hl
    unfold pX1_destageStripe_103 at hf
    refine lv_iload_n hx hb dX1_destageStripe_103 rfl (lv_at hl 0 rfl) ?_
    cases hf
    exact hend _ _ _ _ hH rfl dX1_destageStripe_104
  have J4 : ∀ (x1 : Int32) (n : Nat) (x2 : Int32) (x3 : Int32) (u : Mem) (H : Heap) (locs : List Loc) (ls : Array Slot), pX1_destageStripe_4 x1 n x2 x3 u = some (r, u9) → HS D A s (sW a ca u ++ wr) H locs → lv_has ls 4 [(0, .ref (a 6)), (1, .int x1), (2, .int x2), (3, .int x3)] → W p l e rmX1_destageStripe s m args below meth c H locs 0 0 Q (F0 m 4 ls []) := by
    intro x1 n
    induction n with
    | zero => intro x2 x3 u H locs ls hf; cases hf
    | succ n ih =>
      intro x2 x3 u H locs ls hf hH hl
      have hf : pX1_destageStripe_4b x1 (pX1_destageStripe_4 x1 n) x2 x3 u = some (r, u9) := hf
      have J66 : ∀ (x2 : Int32) (x3 : Int32) (u : Mem) (H : Heap) (locs : List Loc) (ls : Array Slot), pX1_destageStripe_66 x1 (pX1_destageStripe_4 x1 n) x2 x3 u = some (r, u9) → HS D A s (sW a ca u ++ wr) H locs → lv_has ls 4 [(0, .ref (a 6)), (1, .int x1), (2, .int x2), (3, .int x3)] → W p l e rmX1_destageStripe s m args below meth c H locs 0 0 Q (F0 m 66 ls []) := by
        intro x2 x3 u H locs ls hf hH hl
        unfold pX1_destageStripe_66 at hf
        refine lv_iinc (v := (x3 + 1)) (lv' := [(3, .int (x3 + 1)), (0, .ref (a 6)), (1, .int x1), (2, .int x2)]) hx hb dX1_destageStripe_66 hl (k := 3) rfl rfl (by decide) rfl (fun ls hl => ?_)
        refine lv_goto (tgt := 4) hx hb dX1_destageStripe_69 (by decide) ?_
        exact ih _ _ _ _ _ _ hf hH (lv_sub hl [1, 2, 3, 0] rfl)
      unfold pX1_destageStripe_4b at hf
      refine lv_iload_n hx hb dX1_destageStripe_4 rfl (lv_at hl 3 rfl) ?_
      refine lv_bipush (v := 12) hx hb dX1_destageStripe_5 (by decide) ?_
      refine lv_icmp_ge (tgt := 72) hx hb dX1_destageStripe_7 (by decide) (fun c101 => ?_) (fun c101 => ?_)
      · rw [if_pos c101] at hf
        refine lv_iload_n hx hb dX1_destageStripe_72 rfl (lv_at hl 2 rfl) ?_
        refine lv_if_le (tgt := 103) hx hb dX1_destageStripe_73 (by decide) (fun c102 => ?_) (fun c102 => ?_)
        · rw [if_pos c102] at hf
          exact J103 _ _ _ _ _ hf hH (lv_sub hl [2] rfl)
        · rw [if_neg c102] at hf
          refine lv_aload_n hx hb dX1_destageStripe_76 rfl (lv_at hl 0 rfl) ?_
          refine lv_iload_n hx hb dX1_destageStripe_77 rfl (lv_at hl 2 rfl) ?_
          obtain ⟨u103, h_u103, hf⟩ := bnd hf
          refine cl_vV C0 hH hl.1 (As := [.int x2]) (rest := []) (mX1_countWrittenTogether l D ca a wr u x2 h_u103) gX1_destageStripe_X1_countWrittenTogether rfl rfl rfl hd_X1_countWrittenTogether ⟨Nat.le_of_ble_eq_true rfl, Nat.le_of_ble_eq_true rfl⟩ ⟨Nat.zero_le _, Nat.zero_le _⟩ (vS_X1 C0 hH) rfl (Nat.le_of_ble_eq_true rfl) dX1_destageStripe_78 (fun H locs hH => ?_)
          refine lv_aload_n hx hb dX1_destageStripe_81 rfl (lv_at hl 0 rfl) ?_
          refine gS_X1_counts C0 hH inX1_destageStripe_X1 (by decide +kernel : Cond.fieldLink RX1 28 "GatheringCache$State" "counts" "[I" ∈ wsX1_destageStripe) dX1_destageStripe_82 ?_
          refine lv_bipush (v := 7) hx hb dX1_destageStripe_85 (by decide) ?_
          refine lv_dup2_11 hx hb dX1_destageStripe_87 rfl rfl ?_
          obtain ⟨y104, h_y104, hf⟩ := bnd hf
          refine lS_counts C0 hH h_y104 dX1_destageStripe_88 ?_
          refine lv_iconst (v := 1) hx hb dX1_destageStripe_89 (by decide) ?_
          refine lv_iadd hx hb dX1_destageStripe_90 ?_
          obtain ⟨u105, h_u105, hf⟩ := bnd hf
          refine sS_counts C0 hH h_u105 dX1_destageStripe_91 (fun H locs hH => ?_)
          refine lv_aload_n hx hb dX1_destageStripe_92 rfl (lv_at hl 0 rfl) ?_
          refine gS_X1_counts C0 hH inX1_destageStripe_X1 (by decide +kernel : Cond.fieldLink RX1 28 "GatheringCache$State" "counts" "[I" ∈ wsX1_destageStripe) dX1_destageStripe_93 ?_
          refine lv_bipush (v := 8) hx hb dX1_destageStripe_96 (by decide) ?_
          refine lv_dup2_11 hx hb dX1_destageStripe_98 rfl rfl ?_
          obtain ⟨y106, h_y106, hf⟩ := bnd hf
          refine lS_counts C0 hH h_y106 dX1_destageStripe_99 ?_
          refine lv_iload_n hx hb dX1_destageStripe_100 rfl (lv_at hl 2 rfl) ?_
          refine lv_iadd hx hb dX1_destageStripe_101 ?_
          obtain ⟨u107, h_u107, hf⟩ := bnd hf
          refine sS_counts C0 hH h_u107 dX1_destageStripe_102 (fun H locs hH => ?_)
          exact J103 _ _ _ _ _ hf hH (lv_sub hl [2] rfl)
      · rw [if_neg c101] at hf
        refine lv_aload_n hx hb dX1_destageStripe_10 rfl (lv_at hl 0 rfl) ?_
        refine gS_X1_stick C0 hH inX1_destageStripe_X1 (by decide +kernel : Cond.fieldLink RX1 12 "GatheringCache$State" "stick" "LGatheringCache$Stick;" ∈ wsX1_destageStripe) dX1_destageStripe_11 ?_
        refine lv_iload_n hx hb dX1_destageStripe_14 rfl (lv_at hl 3 rfl) ?_
        refine lv_iload_n hx hb dX1_destageStripe_15 rfl (lv_at hl 1 rfl) ?_
        obtain ⟨y108, h_y108, hf⟩ := bnd hf
        refine cl_iV C0 hH hl.1 (As := [.int x3, .int x1]) (rest := []) (mX2_isDirtyOf l D ca a wr u x3 x1 h_y108) gX1_destageStripe_X2_isDirtyOf rfl rfl rfl hd_X2_isDirtyOf ⟨Nat.le_of_ble_eq_true rfl, Nat.le_of_ble_eq_true rfl⟩ ⟨Nat.zero_le _, Nat.zero_le _⟩ (vS_X2 C0 hH) rfl (Nat.le_of_ble_eq_true rfl) dX1_destageStripe_16 (fun H locs hH => ?_)
        refine lv_if_eq (tgt := 66) hx hb dX1_destageStripe_19 (by decide) (fun c109 => ?_) (fun c109 => ?_)
        · rw [if_pos c109] at hf
          exact J66 _ _ _ _ _ _ hf hH (lv_sub hl [0, 1, 2, 3] rfl)
        · rw [if_neg c109] at hf
          refine lv_aload_n hx hb dX1_destageStripe_22 rfl (lv_at hl 0 rfl) ?_
          refine lv_aload_n hx hb dX1_destageStripe_23 rfl (lv_at hl 0 rfl) ?_
          refine gS_X1_stick C0 hH inX1_destageStripe_X1 (by decide +kernel : Cond.fieldLink RX1 12 "GatheringCache$State" "stick" "LGatheringCache$Stick;" ∈ wsX1_destageStripe) dX1_destageStripe_24 ?_
          refine gS_X2_blocks C0 hH inX1_destageStripe_X2 (by decide +kernel : Cond.fieldLink RX1 123 "GatheringCache$Stick" "blocks" "[I" ∈ wsX1_destageStripe) dX1_destageStripe_27 ?_
          refine lv_iload_n hx hb dX1_destageStripe_30 rfl (lv_at hl 3 rfl) ?_
          obtain ⟨y110, h_y110, hf⟩ := bnd hf
          refine lS_blocks C0 hH h_y110 dX1_destageStripe_31 ?_
          refine lv_aload_n hx hb dX1_destageStripe_32 rfl (lv_at hl 0 rfl) ?_
          refine gS_X1_stick C0 hH inX1_destageStripe_X1 (by decide +kernel : Cond.fieldLink RX1 12 "GatheringCache$State" "stick" "LGatheringCache$Stick;" ∈ wsX1_destageStripe) dX1_destageStripe_33 ?_
          refine gS_X2_values C0 hH inX1_destageStripe_X2 (by decide +kernel : Cond.fieldLink RX1 113 "GatheringCache$Stick" "values" "[I" ∈ wsX1_destageStripe) dX1_destageStripe_36 ?_
          refine lv_iload_n hx hb dX1_destageStripe_39 rfl (lv_at hl 3 rfl) ?_
          obtain ⟨y111, h_y111, hf⟩ := bnd hf
          refine lS_values C0 hH h_y111 dX1_destageStripe_40 ?_
          refine lv_aload_n hx hb dX1_destageStripe_41 rfl (lv_at hl 0 rfl) ?_
          refine gS_X1_stick C0 hH inX1_destageStripe_X1 (by decide +kernel : Cond.fieldLink RX1 12 "GatheringCache$State" "stick" "LGatheringCache$Stick;" ∈ wsX1_destageStripe) dX1_destageStripe_42 ?_
          refine gS_X2_stamps C0 hH inX1_destageStripe_X2 (by decide +kernel : Cond.fieldLink RX1 126 "GatheringCache$Stick" "stamps" "[I" ∈ wsX1_destageStripe) dX1_destageStripe_45 ?_
          refine lv_iload_n hx hb dX1_destageStripe_48 rfl (lv_at hl 3 rfl) ?_
          obtain ⟨y112, h_y112, hf⟩ := bnd hf
          refine lS_stamps C0 hH h_y112 dX1_destageStripe_49 ?_
          obtain ⟨u113, h_u113, hf⟩ := bnd hf
          refine cl_vV C0 hH hl.1 (As := [.int y110, .int y111, .int y112]) (rest := []) (mX1_putOnDisk l D ca a wr u y110 y111 y112 h_u113) gX1_destageStripe_X1_putOnDisk rfl rfl rfl hd_X1_putOnDisk ⟨Nat.le_of_ble_eq_true rfl, Nat.le_of_ble_eq_true rfl⟩ ⟨Nat.zero_le _, Nat.zero_le _⟩ (vS_X1 C0 hH) rfl (Nat.le_of_ble_eq_true rfl) dX1_destageStripe_50 (fun H locs hH => ?_)
          refine lv_aload_n hx hb dX1_destageStripe_53 rfl (lv_at hl 0 rfl) ?_
          refine gS_X1_stick C0 hH inX1_destageStripe_X1 (by decide +kernel : Cond.fieldLink RX1 12 "GatheringCache$State" "stick" "LGatheringCache$Stick;" ∈ wsX1_destageStripe) dX1_destageStripe_54 ?_
          refine gS_X2_dirty C0 hH inX1_destageStripe_X2 (by decide +kernel : Cond.fieldLink RX1 129 "GatheringCache$Stick" "dirty" "[Z" ∈ wsX1_destageStripe) dX1_destageStripe_57 ?_
          refine lv_iload_n hx hb dX1_destageStripe_60 rfl (lv_at hl 3 rfl) ?_
          refine lv_iconst (v := 0) hx hb dX1_destageStripe_61 (by decide) ?_
          obtain ⟨u114, h_u114, hf⟩ := bnd hf
          refine sS_dirty C0 hH h_u114 dX1_destageStripe_62 (fun H locs hH => ?_)
          refine lv_iinc (v := (x2 + 1)) (lv' := [(2, .int (x2 + 1)), (0, .ref (a 6)), (1, .int x1), (3, .int x3)]) hx hb dX1_destageStripe_63 hl (k := 2) rfl rfl (by decide) rfl (fun ls hl => ?_)
          exact J66 _ _ _ _ _ _ hf hH (lv_sub hl [1, 2, 0, 3] rfl)
  unfold pX1_destageStripe at hf
  refine lv_iconst (v := 0) hx hb dX1_destageStripe_0 (by decide) ?_
  refine lv_istore_n (lv' := [(2, .int 0), (0, .ref (a 6)), (1, .int x1)]) hx hb dX1_destageStripe_1 rfl hl (by decide) rfl (fun ls hl => ?_)
  refine lv_iconst (v := 0) hx hb dX1_destageStripe_2 (by decide) ?_
  refine lv_istore_n (lv' := [(3, .int 0), (2, .int 0), (0, .ref (a 6)), (1, .int x1)]) hx hb dX1_destageStripe_3 rfl hl (by decide) rfl (fun ls hl => ?_)
  exact J4 _ FU _ _ _ _ _ _ hf hH (lv_sub hl [2, 3, 1, 0] rfl)
def rmX1_gather : Room := { frames := 4, cells := 0, slots := 0, locals := 89 }
theorem hd_X1_gather : yX1_gather.cls = RX1 ∧ yX1_gather.cls ≠ "java/lang/invoke/MethodHandle" ∧ yX1_gather.cls ≠ "java/lang/invoke/VarHandle" ∧ (parseMethodDescriptor yX1_gather.desc).map (fun d => d.parameters.length) = some 2 := by decide +kernel
theorem inX1_gather_X1 : ∀ w ∈ wsX10, w ∈ wsX1_gather := by decide +kernel
set_option maxHeartbeats 4000000 in
set_option maxRecDepth 100000 in
theorem mX1_gather (l : Launch) (D : va_G) (ca : Gp) (a : Nat → Nat) (wr : va_W) (u : Mem) (x1 : Int32) (x2 : Int32) {u9 : Mem} (hf : pX1_gather u x1 x2 = some u9) : Mv l yX1_gather wsX1_gather rmX1_gather D ca [.ref (a 6), .int x1, .int x2] (sW a ca u ++ wr) (sW a ca u9 ++ wr) := by
  refine Mv_of (own := RX1) (cc := cX1_gather) (nL := 5) (by decide) rfl rfl rfl rfl (Nat.le_of_ble_eq_true rfl) ?_
  intro p e s m args below meth c Q A ls C0 hH hl hend
  obtain ⟨hx, hb, hml, hown, hts⟩ := id C0.1
  have hl : lv_has ls 5 [(0, .ref (a 6)), (1, .int x1), (2, .int x2)] := hl
  have J66 : ∀ (x1 : Int32) (x2 : Int32) (x4 : Int32) (u : Mem) (H : Heap) (locs : List Loc) (ls : Array Slot), pX1_gather_66 x1 x2 x4 u = some u9 → HS D A s (sW a ca u ++ wr) H locs → lv_has ls 5 [(0, .ref (a 6)), (1, .int x1), (2, .int x2), (4, .int x4)] → W p l e rmX1_gather s m args below meth c H locs 0 0 Q (F0 m 66 ls []) := by
    intro x1 x2 x4 u H locs ls hf hH hl
    unfold pX1_gather_66 at hf
    refine lv_aload_n hx hb dX1_gather_66 rfl (lv_at hl 0 rfl) ?_
    refine gS_X1_stick C0 hH inX1_gather_X1 (by decide +kernel : Cond.fieldLink RX1 12 "GatheringCache$State" "stick" "LGatheringCache$Stick;" ∈ wsX1_gather) dX1_gather_67 ?_
    refine lv_iload hx hb dX1_gather_70 (lv_at hl 3 rfl) ?_
    refine lv_iload_n hx hb dX1_gather_72 rfl (lv_at hl 1 rfl) ?_
    refine lv_iload_n hx hb dX1_gather_73 rfl (lv_at hl 2 rfl) ?_
    refine lv_aload_n hx hb dX1_gather_74 rfl (lv_at hl 0 rfl) ?_
    refine gS_X1_lastStamp C0 hH inX1_gather_X1 (by decide +kernel : Cond.fieldLink RX1 45 "GatheringCache$State" "lastStamp" "I" ∈ wsX1_gather) dX1_gather_75 ?_
    refine lv_iconst (v := 1) hx hb dX1_gather_78 (by decide) ?_
    obtain ⟨u201, h_u201, hf⟩ := bnd hf
    refine cl_vV C0 hH hl.1 (As := [.int x4, .int x1, .int x2, .int (u 6 0), .int 1]) (rest := []) (mX2_fill l D ca a wr u x4 x1 x2 (u 6 0) 1 h_u201) gX1_gather_X2_fill rfl rfl rfl hd_X2_fill ⟨Nat.le_of_ble_eq_true rfl, Nat.le_of_ble_eq_true rfl⟩ ⟨Nat.zero_le _, Nat.zero_le _⟩ (vS_X2 C0 hH) rfl (Nat.le_of_ble_eq_true rfl) dX1_gather_79 (fun H locs hH => ?_)
    refine lv_aload_n hx hb dX1_gather_82 rfl (lv_at hl 0 rfl) ?_
    refine gS_X1_counts C0 hH inX1_gather_X1 (by decide +kernel : Cond.fieldLink RX1 28 "GatheringCache$State" "counts" "[I" ∈ wsX1_gather) dX1_gather_83 ?_
    refine lv_iconst (v := 2) hx hb dX1_gather_86 (by decide) ?_
    refine lv_dup2_11 hx hb dX1_gather_87 rfl rfl ?_
    obtain ⟨y202, h_y202, hf⟩ := bnd hf
    refine lS_counts C0 hH h_y202 dX1_gather_88 ?_
    refine lv_iconst (v := 1) hx hb dX1_gather_89 (by decide) ?_
    refine lv_iadd hx hb dX1_gather_90 ?_
    obtain ⟨u203, h_u203, hf⟩ := bnd hf
    refine sS_counts C0 hH h_u203 dX1_gather_91 (fun H locs hH => ?_)
    cases hf
    exact hend _ _ _ _ hH dX1_gather_92
  have J35 : ∀ (x1 : Int32) (x2 : Int32) (x3 : Int32) (x4 : Int32) (u : Mem) (H : Heap) (locs : List Loc) (ls : Array Slot), pX1_gather_35 x1 x2 x3 x4 u = some u9 → HS D A s (sW a ca u ++ wr) H locs → lv_has ls 5 [(0, .ref (a 6)), (1, .int x1), (2, .int x2), (3, .int x3), (4, .int x4)] → W p l e rmX1_gather s m args below meth c H locs 0 0 Q (F0 m 35 ls []) := by
    intro x1 x2 x3 x4 u H locs ls hf hH hl
    unfold pX1_gather_35 at hf
    refine lv_iload hx hb dX1_gather_35 (lv_at hl 4 rfl) ?_
    obtain ⟨y101, h_y101, hf⟩ := bnd hf
    refine cl_iN C0 hH hl.1 (As := [.int x4]) (rest := []) (mX4_isLine l D ca (sW a ca u ++ wr) x4 h_y101) gX1_gather_X4_isLine_n83 (by decide +kernel) rfl rfl rfl (by decide +kernel) (by decide +kernel) hd_X4_isLine ⟨Nat.le_of_ble_eq_true rfl, Nat.le_of_ble_eq_true rfl⟩ ⟨Nat.zero_le _, Nat.zero_le _⟩ rfl (Nat.le_of_ble_eq_true rfl) dX1_gather_37 (fun H locs hH => ?_)
    refine lv_if_ne (tgt := 66) hx hb dX1_gather_40 (by decide) (fun c102 => ?_) (fun c102 => ?_)
    · rw [if_neg c102] at hf
      exact J66 _ _ _ _ _ _ _ hf hH (lv_sub hl [0, 1, 2, 4] rfl)
    · rw [if_pos c102] at hf
      refine lv_aload_n hx hb dX1_gather_43 rfl (lv_at hl 0 rfl) ?_
      refine lv_aload_n hx hb dX1_gather_44 rfl (lv_at hl 0 rfl) ?_
      refine gS_X1_stick C0 hH inX1_gather_X1 (by decide +kernel : Cond.fieldLink RX1 12 "GatheringCache$State" "stick" "LGatheringCache$Stick;" ∈ wsX1_gather) dX1_gather_45 ?_
      refine lv_iload_n hx hb dX1_gather_48 rfl (lv_at hl 3 rfl) ?_
      obtain ⟨y103, h_y103, hf⟩ := bnd hf
      refine cl_iV C0 hH hl.1 (As := [.int x3]) (rest := [.ref (a 6)]) (mX2_fullestStripe l D ca a wr u x3 h_y103) gX1_gather_X2_fullestStripe rfl rfl rfl hd_X2_fullestStripe ⟨Nat.le_of_ble_eq_true rfl, Nat.le_of_ble_eq_true rfl⟩ ⟨Nat.zero_le _, Nat.zero_le _⟩ (vS_X2 C0 hH) rfl (Nat.le_of_ble_eq_true rfl) dX1_gather_49 (fun H locs hH => ?_)
      obtain ⟨y104, u105, h_y104, hf⟩ := bnd2 hf
      refine cl_iV C0 hH hl.1 (As := [.int y103]) (rest := []) (mX1_destageStripe l D ca a wr u y103 h_y104) gX1_gather_X1_destageStripe rfl rfl rfl hd_X1_destageStripe ⟨Nat.le_of_ble_eq_true rfl, Nat.le_of_ble_eq_true rfl⟩ ⟨Nat.zero_le _, Nat.zero_le _⟩ (vS_X1 C0 hH) rfl (Nat.le_of_ble_eq_true rfl) dX1_gather_52 (fun H locs hH => ?_)
      refine lv_pop hx hb dX1_gather_55 rfl ?_
      refine lv_aload_n hx hb dX1_gather_56 rfl (lv_at hl 0 rfl) ?_
      refine gS_X1_stick C0 hH inX1_gather_X1 (by decide +kernel : Cond.fieldLink RX1 12 "GatheringCache$State" "stick" "LGatheringCache$Stick;" ∈ wsX1_gather) dX1_gather_57 ?_
      refine lv_iload_n hx hb dX1_gather_60 rfl (lv_at hl 3 rfl) ?_
      obtain ⟨y106, h_y106, hf⟩ := bnd hf
      refine cl_iV C0 hH hl.1 (As := [.int x3]) (rest := []) (mX2_freeLine l D ca a wr u105 x3 h_y106) gX1_gather_X2_freeLine rfl rfl rfl hd_X2_freeLine ⟨Nat.le_of_ble_eq_true rfl, Nat.le_of_ble_eq_true rfl⟩ ⟨Nat.zero_le _, Nat.zero_le _⟩ (vS_X2 C0 hH) rfl (Nat.le_of_ble_eq_true rfl) dX1_gather_61 (fun H locs hH => ?_)
      refine lv_istore (lv' := [(4, .int y106), (0, .ref (a 6)), (1, .int x1), (2, .int x2), (3, .int x3)]) hx hb dX1_gather_64 hl (by decide) rfl (fun ls hl => ?_)
      exact J66 _ _ _ _ _ _ _ hf hH (lv_sub hl [1, 2, 3, 0] rfl)
  unfold pX1_gather at hf
  refine lv_iload_n hx hb dX1_gather_0 rfl (lv_at hl 1 rfl) ?_
  obtain ⟨y1, h_y1, hf⟩ := bnd hf
  refine cl_iN C0 hH hl.1 (As := [.int x1]) (rest := []) (mX4_stripeOf l D ca (sW a ca u ++ wr) x1 h_y1) gX1_gather_X4_stripeOf_n77 (by decide +kernel) rfl rfl rfl (by decide +kernel) (by decide +kernel) hd_X4_stripeOf ⟨Nat.le_of_ble_eq_true rfl, Nat.le_of_ble_eq_true rfl⟩ ⟨Nat.zero_le _, Nat.zero_le _⟩ rfl (Nat.le_of_ble_eq_true rfl) dX1_gather_1 (fun H locs hH => ?_)
  refine lv_iconst (v := 4) hx hb dX1_gather_4 (by decide) ?_
  refine lv_irem hx hb dX1_gather_5 (by decide) ?_
  refine lv_istore_n (lv' := [(3, .int (y1 - y1 / 4 * 4)), (0, .ref (a 6)), (1, .int x1), (2, .int x2)]) hx hb dX1_gather_6 rfl hl (by decide) rfl (fun ls hl => ?_)
  refine lv_aload_n hx hb dX1_gather_7 rfl (lv_at hl 1 rfl) ?_
  refine gS_X1_stick C0 hH inX1_gather_X1 (by decide +kernel : Cond.fieldLink RX1 12 "GatheringCache$State" "stick" "LGatheringCache$Stick;" ∈ wsX1_gather) dX1_gather_8 ?_
  refine lv_iload_n hx hb dX1_gather_11 rfl (lv_at hl 2 rfl) ?_
  obtain ⟨y2, h_y2, hf⟩ := bnd hf
  refine cl_iV C0 hH hl.1 (As := [.int x1]) (rest := []) (mX2_lineOf l D ca a wr u x1 h_y2) gX1_gather_X2_lineOf rfl rfl rfl hd_X2_lineOf ⟨Nat.le_of_ble_eq_true rfl, Nat.le_of_ble_eq_true rfl⟩ ⟨Nat.zero_le _, Nat.zero_le _⟩ (vS_X2 C0 hH) rfl (Nat.le_of_ble_eq_true rfl) dX1_gather_12 (fun H locs hH => ?_)
  refine lv_istore (lv' := [(4, .int y2), (3, .int (y1 - y1 / 4 * 4)), (0, .ref (a 6)), (1, .int x1), (2, .int x2)]) hx hb dX1_gather_15 hl (by decide) rfl (fun ls hl => ?_)
  refine lv_iload hx hb dX1_gather_17 (lv_at hl 0 rfl) ?_
  obtain ⟨y3, h_y3, hf⟩ := bnd hf
  refine cl_iN C0 hH hl.1 (As := [.int y2]) (rest := []) (mX4_isLine l D ca (sW a ca u ++ wr) y2 h_y3) gX1_gather_X4_isLine_n83 (by decide +kernel) rfl rfl rfl (by decide +kernel) (by decide +kernel) hd_X4_isLine ⟨Nat.le_of_ble_eq_true rfl, Nat.le_of_ble_eq_true rfl⟩ ⟨Nat.zero_le _, Nat.zero_le _⟩ rfl (Nat.le_of_ble_eq_true rfl) dX1_gather_19 (fun H locs hH => ?_)
  refine lv_if_ne (tgt := 35) hx hb dX1_gather_22 (by decide) (fun c4 => ?_) (fun c4 => ?_)
  · rw [if_neg c4] at hf
    exact J35 _ _ _ _ _ _ _ _ hf hH (lv_sub hl [2, 3, 4, 1, 0] rfl)
  · rw [if_pos c4] at hf
    refine lv_aload_n hx hb dX1_gather_25 rfl (lv_at hl 2 rfl) ?_
    refine gS_X1_stick C0 hH inX1_gather_X1 (by decide +kernel : Cond.fieldLink RX1 12 "GatheringCache$State" "stick" "LGatheringCache$Stick;" ∈ wsX1_gather) dX1_gather_26 ?_
    refine lv_iload_n hx hb dX1_gather_29 rfl (lv_at hl 1 rfl) ?_
    obtain ⟨y5, h_y5, hf⟩ := bnd hf
    refine cl_iV C0 hH hl.1 (As := [.int (y1 - y1 / 4 * 4)]) (rest := []) (mX2_freeLine l D ca a wr u (y1 - y1 / 4 * 4) h_y5) gX1_gather_X2_freeLine rfl rfl rfl hd_X2_freeLine ⟨Nat.le_of_ble_eq_true rfl, Nat.le_of_ble_eq_true rfl⟩ ⟨Nat.zero_le _, Nat.zero_le _⟩ (vS_X2 C0 hH) rfl (Nat.le_of_ble_eq_true rfl) dX1_gather_30 (fun H locs hH => ?_)
    refine lv_istore (lv' := [(4, .int y5), (3, .int (y1 - y1 / 4 * 4)), (0, .ref (a 6)), (1, .int x1), (2, .int x2)]) hx hb dX1_gather_33 hl (by decide) rfl (fun ls hl => ?_)
    exact J35 _ _ _ _ _ _ _ _ hf hH (lv_sub hl [2, 3, 4, 1, 0] rfl)
def rmX1_writeThrough : Room := { frames := 3, cells := 0, slots := 0, locals := 66 }
theorem hd_X1_writeThrough : yX1_writeThrough.cls = RX1 ∧ yX1_writeThrough.cls ≠ "java/lang/invoke/MethodHandle" ∧ yX1_writeThrough.cls ≠ "java/lang/invoke/VarHandle" ∧ (parseMethodDescriptor yX1_writeThrough.desc).map (fun d => d.parameters.length) = some 2 := by decide +kernel
theorem inX1_writeThrough_X1 : ∀ w ∈ wsX10, w ∈ wsX1_writeThrough := by decide +kernel
set_option maxHeartbeats 4000000 in
set_option maxRecDepth 100000 in
theorem mX1_writeThrough (l : Launch) (D : va_G) (ca : Gp) (a : Nat → Nat) (wr : va_W) (u : Mem) (x1 : Int32) (x2 : Int32) {u9 : Mem} (hf : pX1_writeThrough u x1 x2 = some u9) : Mv l yX1_writeThrough wsX1_writeThrough rmX1_writeThrough D ca [.ref (a 6), .int x1, .int x2] (sW a ca u ++ wr) (sW a ca u9 ++ wr) := by
  refine Mv_of (own := RX1) (cc := cX1_writeThrough) (nL := 3) (by decide) rfl rfl rfl rfl (Nat.le_of_ble_eq_true rfl) ?_
  intro p e s m args below meth c Q A ls C0 hH hl hend
  obtain ⟨hx, hb, hml, hown, hts⟩ := id C0.1
  have hl : lv_has ls 3 [(0, .ref (a 6)), (1, .int x1), (2, .int x2)] := hl
  unfold pX1_writeThrough at hf
  refine lv_aload_n hx hb dX1_writeThrough_0 rfl (lv_at hl 0 rfl) ?_
  refine lv_iload_n hx hb dX1_writeThrough_1 rfl (lv_at hl 1 rfl) ?_
  refine lv_iload_n hx hb dX1_writeThrough_2 rfl (lv_at hl 2 rfl) ?_
  refine lv_aload_n hx hb dX1_writeThrough_3 rfl (lv_at hl 0 rfl) ?_
  refine gS_X1_lastStamp C0 hH inX1_writeThrough_X1 (by decide +kernel : Cond.fieldLink RX1 45 "GatheringCache$State" "lastStamp" "I" ∈ wsX1_writeThrough) dX1_writeThrough_4 ?_
  obtain ⟨u1, h_u1, hf⟩ := bnd hf
  refine cl_vV C0 hH hl.1 (As := [.int x1, .int x2, .int (u 6 0)]) (rest := []) (mX1_putOnDisk l D ca a wr u x1 x2 (u 6 0) h_u1) gX1_writeThrough_X1_putOnDisk rfl rfl rfl hd_X1_putOnDisk ⟨Nat.le_of_ble_eq_true rfl, Nat.le_of_ble_eq_true rfl⟩ ⟨Nat.zero_le _, Nat.zero_le _⟩ (vS_X1 C0 hH) rfl (Nat.le_of_ble_eq_true rfl) dX1_writeThrough_7 (fun H locs hH => ?_)
  refine lv_aload_n hx hb dX1_writeThrough_10 rfl (lv_at hl 0 rfl) ?_
  refine lv_iconst (v := 1) hx hb dX1_writeThrough_11 (by decide) ?_
  obtain ⟨u2, h_u2, hf⟩ := bnd hf
  refine cl_vV C0 hH hl.1 (As := [.int 1]) (rest := []) (mX1_countWrittenTogether l D ca a wr u1 1 h_u2) gX1_writeThrough_X1_countWrittenTogether rfl rfl rfl hd_X1_countWrittenTogether ⟨Nat.le_of_ble_eq_true rfl, Nat.le_of_ble_eq_true rfl⟩ ⟨Nat.zero_le _, Nat.zero_le _⟩ (vS_X1 C0 hH) rfl (Nat.le_of_ble_eq_true rfl) dX1_writeThrough_12 (fun H locs hH => ?_)
  refine lv_aload_n hx hb dX1_writeThrough_15 rfl (lv_at hl 0 rfl) ?_
  refine gS_X1_stick C0 hH inX1_writeThrough_X1 (by decide +kernel : Cond.fieldLink RX1 12 "GatheringCache$State" "stick" "LGatheringCache$Stick;" ∈ wsX1_writeThrough) dX1_writeThrough_16 ?_
  refine lv_aload_n hx hb dX1_writeThrough_19 rfl (lv_at hl 0 rfl) ?_
  refine gS_X1_stick C0 hH inX1_writeThrough_X1 (by decide +kernel : Cond.fieldLink RX1 12 "GatheringCache$State" "stick" "LGatheringCache$Stick;" ∈ wsX1_writeThrough) dX1_writeThrough_20 ?_
  refine lv_iload_n hx hb dX1_writeThrough_23 rfl (lv_at hl 1 rfl) ?_
  obtain ⟨y3, h_y3, hf⟩ := bnd hf
  refine cl_iV C0 hH hl.1 (As := [.int x1]) (rest := [.ref (a 0)]) (mX2_lineInReach l D ca a wr u2 x1 h_y3) gX1_writeThrough_X2_lineInReach rfl rfl rfl hd_X2_lineInReach ⟨Nat.le_of_ble_eq_true rfl, Nat.le_of_ble_eq_true rfl⟩ ⟨Nat.zero_le _, Nat.zero_le _⟩ (vS_X2 C0 hH) rfl (Nat.le_of_ble_eq_true rfl) dX1_writeThrough_24 (fun H locs hH => ?_)
  refine lv_iload_n hx hb dX1_writeThrough_27 rfl (lv_at hl 1 rfl) ?_
  refine lv_iload_n hx hb dX1_writeThrough_28 rfl (lv_at hl 2 rfl) ?_
  refine lv_aload_n hx hb dX1_writeThrough_29 rfl (lv_at hl 0 rfl) ?_
  refine gS_X1_lastStamp C0 hH inX1_writeThrough_X1 (by decide +kernel : Cond.fieldLink RX1 45 "GatheringCache$State" "lastStamp" "I" ∈ wsX1_writeThrough) dX1_writeThrough_30 ?_
  refine lv_iconst (v := 0) hx hb dX1_writeThrough_33 (by decide) ?_
  obtain ⟨u4, h_u4, hf⟩ := bnd hf
  refine cl_vV C0 hH hl.1 (As := [.int y3, .int x1, .int x2, .int (u2 6 0), .int 0]) (rest := []) (mX2_fill l D ca a wr u2 y3 x1 x2 (u2 6 0) 0 h_u4) gX1_writeThrough_X2_fill rfl rfl rfl hd_X2_fill ⟨Nat.le_of_ble_eq_true rfl, Nat.le_of_ble_eq_true rfl⟩ ⟨Nat.zero_le _, Nat.zero_le _⟩ (vS_X2 C0 hH) rfl (Nat.le_of_ble_eq_true rfl) dX1_writeThrough_34 (fun H locs hH => ?_)
  refine lv_aload_n hx hb dX1_writeThrough_37 rfl (lv_at hl 0 rfl) ?_
  refine gS_X1_counts C0 hH inX1_writeThrough_X1 (by decide +kernel : Cond.fieldLink RX1 28 "GatheringCache$State" "counts" "[I" ∈ wsX1_writeThrough) dX1_writeThrough_38 ?_
  refine lv_iconst (v := 3) hx hb dX1_writeThrough_41 (by decide) ?_
  refine lv_dup2_11 hx hb dX1_writeThrough_42 rfl rfl ?_
  obtain ⟨y5, h_y5, hf⟩ := bnd hf
  refine lS_counts C0 hH h_y5 dX1_writeThrough_43 ?_
  refine lv_iconst (v := 1) hx hb dX1_writeThrough_44 (by decide) ?_
  refine lv_iadd hx hb dX1_writeThrough_45 ?_
  obtain ⟨u6, h_u6, hf⟩ := bnd hf
  refine sS_counts C0 hH h_u6 dX1_writeThrough_46 (fun H locs hH => ?_)
  cases hf
  exact hend _ _ _ _ hH dX1_writeThrough_47
def rmX1_writeBlock : Room := { frames := 5, cells := 0, slots := 0, locals := 113 }
theorem hd_X1_writeBlock : yX1_writeBlock.cls = RX1 ∧ yX1_writeBlock.cls ≠ "java/lang/invoke/MethodHandle" ∧ yX1_writeBlock.cls ≠ "java/lang/invoke/VarHandle" ∧ (parseMethodDescriptor yX1_writeBlock.desc).map (fun d => d.parameters.length) = some 2 := by decide +kernel
theorem inX1_writeBlock_X1 : ∀ w ∈ wsX10, w ∈ wsX1_writeBlock := by decide +kernel
set_option maxHeartbeats 4000000 in
set_option maxRecDepth 100000 in
theorem mX1_writeBlock (l : Launch) (D : va_G) (ca : Gp) (a : Nat → Nat) (wr : va_W) (u : Mem) (x1 : Int32) (x2 : Int32) {r : Int32} {u9 : Mem} (hf : pX1_writeBlock u x1 x2 = some (r, u9)) : Mi l yX1_writeBlock wsX1_writeBlock rmX1_writeBlock D ca [.ref (a 6), .int x1, .int x2] (sW a ca u ++ wr) (sW a ca u9 ++ wr) r := by
  refine Mi_of (own := RX1) (cc := cX1_writeBlock) (nL := 4) (ty := .int) (by decide) rfl rfl rfl rfl (Nat.le_of_ble_eq_true rfl) ?_
  intro p e s m args below meth c Q A ls C0 hH hl hend
  obtain ⟨hx, hb, hml, hown, hts⟩ := id C0.1
  have hl : lv_has ls 4 [(0, .ref (a 6)), (1, .int x1), (2, .int x2)] := hl
  have J63 : ∀ (x3 : Int32) (u : Mem) (H : Heap) (locs : List Loc) (ls : Array Slot), pX1_writeBlock_63 x3 u = some (r, u9) → HS D A s (sW a ca u ++ wr) H locs → lv_has ls 4 [(0, .ref (a 6)), (3, .int x3)] → W p l e rmX1_writeBlock s m args below meth c H locs 0 0 Q (F0 m 63 ls []) := by
    intro x3 u H locs ls hf hH hl
    unfold pX1_writeBlock_63 at hf
    refine lv_aload_n hx hb dX1_writeBlock_63 rfl (lv_at hl 0 rfl) ?_
    refine gS_X1_counts C0 hH inX1_writeBlock_X1 (by decide +kernel : Cond.fieldLink RX1 28 "GatheringCache$State" "counts" "[I" ∈ wsX1_writeBlock) dX1_writeBlock_64 ?_
    refine lv_iconst (v := 0) hx hb dX1_writeBlock_67 (by decide) ?_
    obtain ⟨y201, h_y201, hf⟩ := bnd hf
    refine lS_counts C0 hH h_y201 dX1_writeBlock_68 ?_
    refine lv_aload_n hx hb dX1_writeBlock_69 rfl (lv_at hl 0 rfl) ?_
    refine gS_X1_counts C0 hH inX1_writeBlock_X1 (by decide +kernel : Cond.fieldLink RX1 28 "GatheringCache$State" "counts" "[I" ∈ wsX1_writeBlock) dX1_writeBlock_70 ?_
    refine lv_iconst (v := 1) hx hb dX1_writeBlock_73 (by decide) ?_
    obtain ⟨y202, h_y202, hf⟩ := bnd hf
    refine lS_counts C0 hH h_y202 dX1_writeBlock_74 ?_
    refine lv_iadd hx hb dX1_writeBlock_75 ?_
    refine lv_iload_n hx hb dX1_writeBlock_76 rfl (lv_at hl 1 rfl) ?_
    refine lv_isub hx hb dX1_writeBlock_77 ?_
    cases hf
    exact hend _ _ _ _ hH rfl dX1_writeBlock_78
  have J41 : ∀ (x1 : Int32) (x2 : Int32) (x3 : Int32) (u : Mem) (H : Heap) (locs : List Loc) (ls : Array Slot), pX1_writeBlock_41 x1 x2 x3 u = some (r, u9) → HS D A s (sW a ca u ++ wr) H locs → lv_has ls 4 [(0, .ref (a 6)), (1, .int x1), (2, .int x2), (3, .int x3)] → W p l e rmX1_writeBlock s m args below meth c H locs 0 0 Q (F0 m 41 ls []) := by
    intro x1 x2 x3 u H locs ls hf hH hl
    unfold pX1_writeBlock_41 at hf
    refine lv_aload_n hx hb dX1_writeBlock_41 rfl (lv_at hl 0 rfl) ?_
    obtain ⟨y101, h_y101, hf⟩ := bnd hf
    refine cl_iV C0 hH hl.1 (As := []) (rest := []) (mX1_gathers l D ca a wr u h_y101) gX1_writeBlock_X1_gathers rfl rfl rfl hd_X1_gathers ⟨Nat.le_of_ble_eq_true rfl, Nat.le_of_ble_eq_true rfl⟩ ⟨Nat.zero_le _, Nat.zero_le _⟩ (vS_X1 C0 hH) rfl (Nat.le_of_ble_eq_true rfl) dX1_writeBlock_42 (fun H locs hH => ?_)
    refine lv_if_eq (tgt := 57) hx hb dX1_writeBlock_45 (by decide) (fun c102 => ?_) (fun c102 => ?_)
    · rw [if_pos c102] at hf
      refine lv_aload_n hx hb dX1_writeBlock_57 rfl (lv_at hl 0 rfl) ?_
      refine lv_iload_n hx hb dX1_writeBlock_58 rfl (lv_at hl 1 rfl) ?_
      refine lv_iload_n hx hb dX1_writeBlock_59 rfl (lv_at hl 2 rfl) ?_
      obtain ⟨u103, h_u103, hf⟩ := bnd hf
      refine cl_vV C0 hH hl.1 (As := [.int x1, .int x2]) (rest := []) (mX1_writeThrough l D ca a wr u x1 x2 h_u103) gX1_writeBlock_X1_writeThrough rfl rfl rfl hd_X1_writeThrough ⟨Nat.le_of_ble_eq_true rfl, Nat.le_of_ble_eq_true rfl⟩ ⟨Nat.zero_le _, Nat.zero_le _⟩ (vS_X1 C0 hH) rfl (Nat.le_of_ble_eq_true rfl) dX1_writeBlock_60 (fun H locs hH => ?_)
      exact J63 _ _ _ _ _ hf hH (lv_sub hl [0, 3] rfl)
    · rw [if_neg c102] at hf
      refine lv_aload_n hx hb dX1_writeBlock_48 rfl (lv_at hl 0 rfl) ?_
      refine lv_iload_n hx hb dX1_writeBlock_49 rfl (lv_at hl 1 rfl) ?_
      refine lv_iload_n hx hb dX1_writeBlock_50 rfl (lv_at hl 2 rfl) ?_
      obtain ⟨u104, h_u104, hf⟩ := bnd hf
      refine cl_vV C0 hH hl.1 (As := [.int x1, .int x2]) (rest := []) (mX1_gather l D ca a wr u x1 x2 h_u104) gX1_writeBlock_X1_gather rfl rfl rfl hd_X1_gather ⟨Nat.le_of_ble_eq_true rfl, Nat.le_of_ble_eq_true rfl⟩ ⟨Nat.zero_le _, Nat.zero_le _⟩ (vS_X1 C0 hH) rfl (Nat.le_of_ble_eq_true rfl) dX1_writeBlock_51 (fun H locs hH => ?_)
      refine lv_goto (tgt := 63) hx hb dX1_writeBlock_54 (by decide) ?_
      exact J63 _ _ _ _ _ hf hH (lv_sub hl [0, 3] rfl)
  unfold pX1_writeBlock at hf
  refine lv_aload_n hx hb dX1_writeBlock_0 rfl (lv_at hl 0 rfl) ?_
  refine gS_X1_counts C0 hH inX1_writeBlock_X1 (by decide +kernel : Cond.fieldLink RX1 28 "GatheringCache$State" "counts" "[I" ∈ wsX1_writeBlock) dX1_writeBlock_1 ?_
  refine lv_iconst (v := 0) hx hb dX1_writeBlock_4 (by decide) ?_
  obtain ⟨y1, h_y1, hf⟩ := bnd hf
  refine lS_counts C0 hH h_y1 dX1_writeBlock_5 ?_
  refine lv_aload_n hx hb dX1_writeBlock_6 rfl (lv_at hl 0 rfl) ?_
  refine gS_X1_counts C0 hH inX1_writeBlock_X1 (by decide +kernel : Cond.fieldLink RX1 28 "GatheringCache$State" "counts" "[I" ∈ wsX1_writeBlock) dX1_writeBlock_7 ?_
  refine lv_iconst (v := 1) hx hb dX1_writeBlock_10 (by decide) ?_
  obtain ⟨y2, h_y2, hf⟩ := bnd hf
  refine lS_counts C0 hH h_y2 dX1_writeBlock_11 ?_
  refine lv_iadd hx hb dX1_writeBlock_12 ?_
  refine lv_istore_n (lv' := [(3, .int (y1 + y2)), (0, .ref (a 6)), (1, .int x1), (2, .int x2)]) hx hb dX1_writeBlock_13 rfl hl (by decide) rfl (fun ls hl => ?_)
  refine lv_aload_n hx hb dX1_writeBlock_14 rfl (lv_at hl 1 rfl) ?_
  refine lv_dup hx hb dX1_writeBlock_15 rfl ?_
  refine gS_X1_lastStamp C0 hH inX1_writeBlock_X1 (by decide +kernel : Cond.fieldLink RX1 45 "GatheringCache$State" "lastStamp" "I" ∈ wsX1_writeBlock) dX1_writeBlock_16 ?_
  refine lv_iconst (v := 1) hx hb dX1_writeBlock_19 (by decide) ?_
  refine lv_iadd hx hb dX1_writeBlock_20 ?_
  obtain ⟨u3, h_u3, hf⟩ := bnd hf
  refine pS_X1_lastStamp C0 hH inX1_writeBlock_X1 h_u3 (by decide +kernel : Cond.fieldLink RX1 45 "GatheringCache$State" "lastStamp" "I" ∈ wsX1_writeBlock) dX1_writeBlock_21 (fun H locs hH => ?_)
  refine lv_iload_n hx hb dX1_writeBlock_24 rfl (lv_at hl 2 rfl) ?_
  obtain ⟨y4, h_y4, hf⟩ := bnd hf
  refine cl_iN C0 hH hl.1 (As := [.int x1]) (rest := []) (mX4_isBlock l D ca (sW a ca u3 ++ wr) x1 h_y4) gX1_writeBlock_X4_isBlock_n55 (by decide +kernel) rfl rfl rfl (by decide +kernel) (by decide +kernel) hd_X4_isBlock ⟨Nat.le_of_ble_eq_true rfl, Nat.le_of_ble_eq_true rfl⟩ ⟨Nat.zero_le _, Nat.zero_le _⟩ rfl (Nat.le_of_ble_eq_true rfl) dX1_writeBlock_25 (fun H locs hH => ?_)
  refine lv_if_eq (tgt := 41) hx hb dX1_writeBlock_28 (by decide) (fun c5 => ?_) (fun c5 => ?_)
  · rw [if_pos c5] at hf
    exact J41 _ _ _ _ _ _ _ hf hH (lv_sub hl [1, 2, 3, 0] rfl)
  · rw [if_neg c5] at hf
    refine lv_aload_n hx hb dX1_writeBlock_31 rfl (lv_at hl 1 rfl) ?_
    refine gS_X1_latestStamps C0 hH inX1_writeBlock_X1 (by decide +kernel : Cond.fieldLink RX1 25 "GatheringCache$State" "latestStamps" "[I" ∈ wsX1_writeBlock) dX1_writeBlock_32 ?_
    refine lv_iload_n hx hb dX1_writeBlock_35 rfl (lv_at hl 2 rfl) ?_
    refine lv_aload_n hx hb dX1_writeBlock_36 rfl (lv_at hl 1 rfl) ?_
    refine gS_X1_lastStamp C0 hH inX1_writeBlock_X1 (by decide +kernel : Cond.fieldLink RX1 45 "GatheringCache$State" "lastStamp" "I" ∈ wsX1_writeBlock) dX1_writeBlock_37 ?_
    obtain ⟨u6, h_u6, hf⟩ := bnd hf
    refine sS_latestStamps C0 hH h_u6 dX1_writeBlock_40 (fun H locs hH => ?_)
    exact J41 _ _ _ _ _ _ _ hf hH (lv_sub hl [1, 2, 3, 0] rfl)
def rmX1_readBlock : Room := { frames := 2, cells := 0, slots := 0, locals := 43 }
theorem hd_X1_readBlock : yX1_readBlock.cls = RX1 ∧ yX1_readBlock.cls ≠ "java/lang/invoke/MethodHandle" ∧ yX1_readBlock.cls ≠ "java/lang/invoke/VarHandle" ∧ (parseMethodDescriptor yX1_readBlock.desc).map (fun d => d.parameters.length) = some 1 := by decide +kernel
theorem inX1_readBlock_X1 : ∀ w ∈ wsX10, w ∈ wsX1_readBlock := by decide +kernel
theorem inX1_readBlock_X2 : ∀ w ∈ wsX20, w ∈ wsX1_readBlock := by decide +kernel
set_option maxHeartbeats 4000000 in
set_option maxRecDepth 100000 in
theorem mX1_readBlock (l : Launch) (D : va_G) (ca : Gp) (a : Nat → Nat) (wr : va_W) (u : Mem) (x1 : Int32) {r : Int32} {u9 : Mem} (hf : pX1_readBlock u x1 = some (r, u9)) : Mi l yX1_readBlock wsX1_readBlock rmX1_readBlock D ca [.ref (a 6), .int x1] (sW a ca u ++ wr) (sW a ca u9 ++ wr) r := by
  refine Mi_of (own := RX1) (cc := cX1_readBlock) (nL := 3) (ty := .int) (by decide) rfl rfl rfl rfl (Nat.le_of_ble_eq_true rfl) ?_
  intro p e s m args below meth c Q A ls C0 hH hl hend
  obtain ⟨hx, hb, hml, hown, hts⟩ := id C0.1
  have hl : lv_has ls 3 [(0, .ref (a 6)), (1, .int x1)] := hl
  unfold pX1_readBlock at hf
  refine lv_aload_n hx hb dX1_readBlock_0 rfl (lv_at hl 0 rfl) ?_
  refine gS_X1_stick C0 hH inX1_readBlock_X1 (by decide +kernel : Cond.fieldLink RX1 12 "GatheringCache$State" "stick" "LGatheringCache$Stick;" ∈ wsX1_readBlock) dX1_readBlock_1 ?_
  refine lv_iload_n hx hb dX1_readBlock_4 rfl (lv_at hl 1 rfl) ?_
  obtain ⟨y1, h_y1, hf⟩ := bnd hf
  refine cl_iV C0 hH hl.1 (As := [.int x1]) (rest := []) (mX2_lineInReach l D ca a wr u x1 h_y1) gX1_readBlock_X2_lineInReach rfl rfl rfl hd_X2_lineInReach ⟨Nat.le_of_ble_eq_true rfl, Nat.le_of_ble_eq_true rfl⟩ ⟨Nat.zero_le _, Nat.zero_le _⟩ (vS_X2 C0 hH) rfl (Nat.le_of_ble_eq_true rfl) dX1_readBlock_5 (fun H locs hH => ?_)
  refine lv_istore_n (lv' := [(2, .int y1), (0, .ref (a 6)), (1, .int x1)]) hx hb dX1_readBlock_8 rfl hl (by decide) rfl (fun ls hl => ?_)
  refine lv_iload_n hx hb dX1_readBlock_9 rfl (lv_at hl 0 rfl) ?_
  obtain ⟨y2, h_y2, hf⟩ := bnd hf
  refine cl_iN C0 hH hl.1 (As := [.int y1]) (rest := []) (mX4_isLine l D ca (sW a ca u ++ wr) y1 h_y2) gX1_readBlock_X4_isLine_n83 (by decide +kernel) rfl rfl rfl (by decide +kernel) (by decide +kernel) hd_X4_isLine ⟨Nat.le_of_ble_eq_true rfl, Nat.le_of_ble_eq_true rfl⟩ ⟨Nat.zero_le _, Nat.zero_le _⟩ rfl (Nat.le_of_ble_eq_true rfl) dX1_readBlock_10 (fun H locs hH => ?_)
  refine lv_if_eq (tgt := 44) hx hb dX1_readBlock_13 (by decide) (fun c3 => ?_) (fun c3 => ?_)
  · rw [if_pos c3] at hf
    refine lv_aload_n hx hb dX1_readBlock_44 rfl (lv_at hl 1 rfl) ?_
    refine gS_X1_counts C0 hH inX1_readBlock_X1 (by decide +kernel : Cond.fieldLink RX1 28 "GatheringCache$State" "counts" "[I" ∈ wsX1_readBlock) dX1_readBlock_45 ?_
    refine lv_iconst (v := 5) hx hb dX1_readBlock_48 (by decide) ?_
    refine lv_dup2_11 hx hb dX1_readBlock_49 rfl rfl ?_
    obtain ⟨y4, h_y4, hf⟩ := bnd hf
    refine lS_counts C0 hH h_y4 dX1_readBlock_50 ?_
    refine lv_iconst (v := 1) hx hb dX1_readBlock_51 (by decide) ?_
    refine lv_iadd hx hb dX1_readBlock_52 ?_
    obtain ⟨u5, h_u5, hf⟩ := bnd hf
    refine sS_counts C0 hH h_u5 dX1_readBlock_53 (fun H locs hH => ?_)
    refine lv_aload_n hx hb dX1_readBlock_54 rfl (lv_at hl 1 rfl) ?_
    refine gS_X1_counts C0 hH inX1_readBlock_X1 (by decide +kernel : Cond.fieldLink RX1 28 "GatheringCache$State" "counts" "[I" ∈ wsX1_readBlock) dX1_readBlock_55 ?_
    refine lv_iconst (v := 0) hx hb dX1_readBlock_58 (by decide) ?_
    refine lv_dup2_11 hx hb dX1_readBlock_59 rfl rfl ?_
    obtain ⟨y6, h_y6, hf⟩ := bnd hf
    refine lS_counts C0 hH h_y6 dX1_readBlock_60 ?_
    refine lv_iconst (v := 1) hx hb dX1_readBlock_61 (by decide) ?_
    refine lv_iadd hx hb dX1_readBlock_62 ?_
    obtain ⟨u7, h_u7, hf⟩ := bnd hf
    refine sS_counts C0 hH h_u7 dX1_readBlock_63 (fun H locs hH => ?_)
    refine lv_aload_n hx hb dX1_readBlock_64 rfl (lv_at hl 1 rfl) ?_
    refine lv_iload_n hx hb dX1_readBlock_65 rfl (lv_at hl 2 rfl) ?_
    obtain ⟨y8, h_y8, hf⟩ := bnd hf
    refine cl_iV C0 hH hl.1 (As := [.int x1]) (rest := []) (mX1_diskValueOf l D ca a wr u7 x1 h_y8) gX1_readBlock_X1_diskValueOf rfl rfl rfl hd_X1_diskValueOf ⟨Nat.le_of_ble_eq_true rfl, Nat.le_of_ble_eq_true rfl⟩ ⟨Nat.zero_le _, Nat.zero_le _⟩ (vS_X1 C0 hH) rfl (Nat.le_of_ble_eq_true rfl) dX1_readBlock_66 (fun H locs hH => ?_)
    cases hf
    exact hend _ _ _ _ hH rfl dX1_readBlock_69
  · rw [if_neg c3] at hf
    refine lv_aload_n hx hb dX1_readBlock_16 rfl (lv_at hl 1 rfl) ?_
    refine gS_X1_counts C0 hH inX1_readBlock_X1 (by decide +kernel : Cond.fieldLink RX1 28 "GatheringCache$State" "counts" "[I" ∈ wsX1_readBlock) dX1_readBlock_17 ?_
    refine lv_iconst (v := 4) hx hb dX1_readBlock_20 (by decide) ?_
    refine lv_dup2_11 hx hb dX1_readBlock_21 rfl rfl ?_
    obtain ⟨y9, h_y9, hf⟩ := bnd hf
    refine lS_counts C0 hH h_y9 dX1_readBlock_22 ?_
    refine lv_iconst (v := 1) hx hb dX1_readBlock_23 (by decide) ?_
    refine lv_iadd hx hb dX1_readBlock_24 ?_
    obtain ⟨u10, h_u10, hf⟩ := bnd hf
    refine sS_counts C0 hH h_u10 dX1_readBlock_25 (fun H locs hH => ?_)
    refine lv_aload_n hx hb dX1_readBlock_26 rfl (lv_at hl 1 rfl) ?_
    refine gS_X1_stick C0 hH inX1_readBlock_X1 (by decide +kernel : Cond.fieldLink RX1 12 "GatheringCache$State" "stick" "LGatheringCache$Stick;" ∈ wsX1_readBlock) dX1_readBlock_27 ?_
    refine lv_iload_n hx hb dX1_readBlock_30 rfl (lv_at hl 0 rfl) ?_
    obtain ⟨u11, h_u11, hf⟩ := bnd hf
    refine cl_vV C0 hH hl.1 (As := [.int y1]) (rest := []) (mX2_use l D ca a wr u10 y1 h_u11) gX1_readBlock_X2_use rfl rfl rfl hd_X2_use ⟨Nat.le_of_ble_eq_true rfl, Nat.le_of_ble_eq_true rfl⟩ ⟨Nat.zero_le _, Nat.zero_le _⟩ (vS_X2 C0 hH) rfl (Nat.le_of_ble_eq_true rfl) dX1_readBlock_31 (fun H locs hH => ?_)
    refine lv_aload_n hx hb dX1_readBlock_34 rfl (lv_at hl 1 rfl) ?_
    refine gS_X1_stick C0 hH inX1_readBlock_X1 (by decide +kernel : Cond.fieldLink RX1 12 "GatheringCache$State" "stick" "LGatheringCache$Stick;" ∈ wsX1_readBlock) dX1_readBlock_35 ?_
    refine gS_X2_values C0 hH inX1_readBlock_X2 (by decide +kernel : Cond.fieldLink RX1 113 "GatheringCache$Stick" "values" "[I" ∈ wsX1_readBlock) dX1_readBlock_38 ?_
    refine lv_iload_n hx hb dX1_readBlock_41 rfl (lv_at hl 0 rfl) ?_
    obtain ⟨y12, h_y12, hf⟩ := bnd hf
    refine lS_values C0 hH h_y12 dX1_readBlock_42 ?_
    cases hf
    exact hend _ _ _ _ hH rfl dX1_readBlock_43
def rmX1_destageStripes : Room := { frames := 3, cells := 0, slots := 0, locals := 66 }
theorem hd_X1_destageStripes : yX1_destageStripes.cls = RX1 ∧ yX1_destageStripes.cls ≠ "java/lang/invoke/MethodHandle" ∧ yX1_destageStripes.cls ≠ "java/lang/invoke/VarHandle" ∧ (parseMethodDescriptor yX1_destageStripes.desc).map (fun d => d.parameters.length) = some 0 := by decide +kernel
set_option maxHeartbeats 4000000 in
set_option maxRecDepth 100000 in
theorem mX1_destageStripes (l : Launch) (D : va_G) (ca : Gp) (a : Nat → Nat) (wr : va_W) (u : Mem) {r : Int32} {u9 : Mem} (hf : pX1_destageStripes u = some (r, u9)) : Mi l yX1_destageStripes wsX1_destageStripes rmX1_destageStripes D ca [.ref (a 6)] (sW a ca u ++ wr) (sW a ca u9 ++ wr) r := by
  refine Mi_of (own := RX1) (cc := cX1_destageStripes) (nL := 3) (ty := .int) (by decide) rfl rfl rfl rfl (Nat.le_of_ble_eq_true rfl) ?_
  intro p e s m args below meth c Q A ls C0 hH hl hend
  obtain ⟨hx, hb, hml, hown, hts⟩ := id C0.1
  have hl : lv_has ls 3 [(0, .ref (a 6))] := hl
  have J4 : ∀ (n : Nat) (x1 : Int32) (x2 : Int32) (u : Mem) (H : Heap) (locs : List Loc) (ls : Array Slot), pX1_destageStripes_4 n x1 x2 u = some (r, u9) → HS D A s (sW a ca u ++ wr) H locs → lv_has ls 3 [(0, .ref (a 6)), (1, .int x1), (2, .int x2)] → W p l e rmX1_destageStripes s m args below meth c H locs 0 0 Q (F0 m 4 ls []) := by
    intro n
    induction n with
    | zero => intro x1 x2 u H locs ls hf; cases hf
    | succ n ih =>
      intro x1 x2 u H locs ls hf hH hl
      have hf : pX1_destageStripes_4b (pX1_destageStripes_4 n) x1 x2 u = some (r, u9) := hf
      unfold pX1_destageStripes_4b at hf
      refine lv_iload_n hx hb dX1_destageStripes_4 rfl (lv_at hl 2 rfl) ?_
      refine lv_bipush (v := 16) hx hb dX1_destageStripes_5 (by decide) ?_
      refine lv_icmp_ge (tgt := 24) hx hb dX1_destageStripes_7 (by decide) (fun c101 => ?_) (fun c101 => ?_)
      · rw [if_pos c101] at hf
        refine lv_iload_n hx hb dX1_destageStripes_24 rfl (lv_at hl 1 rfl) ?_
        cases hf
        exact hend _ _ _ _ hH rfl dX1_destageStripes_25
      · rw [if_neg c101] at hf
        refine lv_iload_n hx hb dX1_destageStripes_10 rfl (lv_at hl 1 rfl) ?_
        refine lv_aload_n hx hb dX1_destageStripes_11 rfl (lv_at hl 0 rfl) ?_
        refine lv_iload_n hx hb dX1_destageStripes_12 rfl (lv_at hl 2 rfl) ?_
        obtain ⟨y102, u103, h_y102, hf⟩ := bnd2 hf
        refine cl_iV C0 hH hl.1 (As := [.int x2]) (rest := [.int x1]) (mX1_destageStripe l D ca a wr u x2 h_y102) gX1_destageStripes_X1_destageStripe rfl rfl rfl hd_X1_destageStripe ⟨Nat.le_of_ble_eq_true rfl, Nat.le_of_ble_eq_true rfl⟩ ⟨Nat.zero_le _, Nat.zero_le _⟩ (vS_X1 C0 hH) rfl (Nat.le_of_ble_eq_true rfl) dX1_destageStripes_13 (fun H locs hH => ?_)
        refine lv_iadd hx hb dX1_destageStripes_16 ?_
        refine lv_istore_n (lv' := [(1, .int (x1 + y102)), (0, .ref (a 6)), (2, .int x2)]) hx hb dX1_destageStripes_17 rfl hl (by decide) rfl (fun ls hl => ?_)
        refine lv_iinc (v := (x2 + 1)) (lv' := [(2, .int (x2 + 1)), (1, .int (x1 + y102)), (0, .ref (a 6))]) hx hb dX1_destageStripes_18 hl (k := 2) rfl rfl (by decide) rfl (fun ls hl => ?_)
        refine lv_goto (tgt := 4) hx hb dX1_destageStripes_21 (by decide) ?_
        exact ih _ _ _ _ _ _ hf hH (lv_sub hl [2, 1, 0] rfl)
  unfold pX1_destageStripes at hf
  refine lv_iconst (v := 0) hx hb dX1_destageStripes_0 (by decide) ?_
  refine lv_istore_n (lv' := [(1, .int 0), (0, .ref (a 6))]) hx hb dX1_destageStripes_1 rfl hl (by decide) rfl (fun ls hl => ?_)
  refine lv_iconst (v := 0) hx hb dX1_destageStripes_2 (by decide) ?_
  refine lv_istore_n (lv' := [(2, .int 0), (1, .int 0), (0, .ref (a 6))]) hx hb dX1_destageStripes_3 rfl hl (by decide) rfl (fun ls hl => ?_)
  exact J4 FU _ _ _ _ _ _ hf hH (lv_sub hl [2, 1, 0] rfl)
def rmX1_letPass : Room := { frames := 3, cells := 0, slots := 0, locals := 63 }
theorem hd_X1_letPass : yX1_letPass.cls = RX1 ∧ yX1_letPass.cls ≠ "java/lang/invoke/MethodHandle" ∧ yX1_letPass.cls ≠ "java/lang/invoke/VarHandle" ∧ (parseMethodDescriptor yX1_letPass.desc).map (fun d => d.parameters.length) = some 1 := by decide +kernel
theorem inX1_letPass_X1 : ∀ w ∈ wsX10, w ∈ wsX1_letPass := by decide +kernel
set_option maxHeartbeats 4000000 in
set_option maxRecDepth 100000 in
theorem mX1_letPass (l : Launch) (D : va_G) (ca : Gp) (a : Nat → Nat) (wr : va_W) (u : Mem) (x1 : Int32) {u9 : Mem} (hf : pX1_letPass u x1 = some u9) : Mv l yX1_letPass wsX1_letPass rmX1_letPass D ca [.ref (a 6), .int x1] (sW a ca u ++ wr) (sW a ca u9 ++ wr) := by
  refine Mv_of (own := RX1) (cc := cX1_letPass) (nL := 3) (by decide) rfl rfl rfl rfl (Nat.le_of_ble_eq_true rfl) ?_
  intro p e s m args below meth c Q A ls C0 hH hl hend
  obtain ⟨hx, hb, hml, hown, hts⟩ := id C0.1
  have hl : lv_has ls 3 [(0, .ref (a 6)), (1, .int x1)] := hl
  have J2 : ∀ (x1 : Int32) (n : Nat) (x2 : Int32) (u : Mem) (H : Heap) (locs : List Loc) (ls : Array Slot), pX1_letPass_2 x1 n x2 u = some u9 → HS D A s (sW a ca u ++ wr) H locs → lv_has ls 3 [(0, .ref (a 6)), (1, .int x1), (2, .int x2)] → W p l e rmX1_letPass s m args below meth c H locs 0 0 Q (F0 m 2 ls []) := by
    intro x1 n
    induction n with
    | zero => intro x2 u H locs ls hf; cases hf
    | succ n ih =>
      intro x2 u H locs ls hf hH hl
      have hf : pX1_letPass_2b x1 (pX1_letPass_2 x1 n) x2 u = some u9 := hf
      have J41 : ∀ (x2 : Int32) (u : Mem) (H : Heap) (locs : List Loc) (ls : Array Slot), pX1_letPass_41 x1 (pX1_letPass_2 x1 n) x2 u = some u9 → HS D A s (sW a ca u ++ wr) H locs → lv_has ls 3 [(0, .ref (a 6)), (1, .int x1), (2, .int x2)] → W p l e rmX1_letPass s m args below meth c H locs 0 0 Q (F0 m 41 ls []) := by
        intro x2 u H locs ls hf hH hl
        unfold pX1_letPass_41 at hf
        refine lv_iinc (v := (x2 + 1)) (lv' := [(2, .int (x2 + 1)), (0, .ref (a 6)), (1, .int x1)]) hx hb dX1_letPass_41 hl (k := 2) rfl rfl (by decide) rfl (fun ls hl => ?_)
        refine lv_goto (tgt := 2) hx hb dX1_letPass_44 (by decide) ?_
        exact ih _ _ _ _ _ hf hH (lv_sub hl [1, 2, 0] rfl)
      unfold pX1_letPass_2b at hf
      refine lv_iload_n hx hb dX1_letPass_2 rfl (lv_at hl 2 rfl) ?_
      refine lv_iload_n hx hb dX1_letPass_3 rfl (lv_at hl 1 rfl) ?_
      refine lv_icmp_ge (tgt := 47) hx hb dX1_letPass_4 (by decide) (fun c101 => ?_) (fun c101 => ?_)
      · rw [if_pos c101] at hf
        cases hf
        exact hend _ _ _ _ hH dX1_letPass_47
      · rw [if_neg c101] at hf
        refine lv_aload_n hx hb dX1_letPass_7 rfl (lv_at hl 0 rfl) ?_
        obtain ⟨y102, h_y102, hf⟩ := bnd hf
        refine cl_iV C0 hH hl.1 (As := []) (rest := []) (mX1_canDestage l D ca a wr u h_y102) gX1_letPass_X1_canDestage rfl rfl rfl hd_X1_canDestage ⟨Nat.le_of_ble_eq_true rfl, Nat.le_of_ble_eq_true rfl⟩ ⟨Nat.zero_le _, Nat.zero_le _⟩ (vS_X1 C0 hH) rfl (Nat.le_of_ble_eq_true rfl) dX1_letPass_8 (fun H locs hH => ?_)
        refine lv_if_eq (tgt := 24) hx hb dX1_letPass_11 (by decide) (fun c103 => ?_) (fun c103 => ?_)
        · rw [if_pos c103] at hf
          refine lv_aload_n hx hb dX1_letPass_24 rfl (lv_at hl 0 rfl) ?_
          refine gS_X1_counts C0 hH inX1_letPass_X1 (by decide +kernel : Cond.fieldLink RX1 28 "GatheringCache$State" "counts" "[I" ∈ wsX1_letPass) dX1_letPass_25 ?_
          refine lv_bipush (v := 6) hx hb dX1_letPass_28 (by decide) ?_
          refine lv_dup2_11 hx hb dX1_letPass_30 rfl rfl ?_
          obtain ⟨y104, h_y104, hf⟩ := bnd hf
          refine lS_counts C0 hH h_y104 dX1_letPass_31 ?_
          refine lv_aload_n hx hb dX1_letPass_32 rfl (lv_at hl 0 rfl) ?_
          refine gS_X1_stick C0 hH inX1_letPass_X1 (by decide +kernel : Cond.fieldLink RX1 12 "GatheringCache$State" "stick" "LGatheringCache$Stick;" ∈ wsX1_letPass) dX1_letPass_33 ?_
          obtain ⟨y105, u106, h_y105, hf⟩ := bnd2 hf
          refine cl_iV C0 hH hl.1 (As := []) (rest := [.int y104, .int 6, .ref (a 10)]) (mX2_drain l D ca a wr u h_y105) gX1_letPass_X2_drain rfl rfl rfl hd_X2_drain ⟨Nat.le_of_ble_eq_true rfl, Nat.le_of_ble_eq_true rfl⟩ ⟨Nat.zero_le _, Nat.zero_le _⟩ (vS_X2 C0 hH) rfl (Nat.le_of_ble_eq_true rfl) dX1_letPass_36 (fun H locs hH => ?_)
          refine lv_iadd hx hb dX1_letPass_39 ?_
          obtain ⟨u107, h_u107, hf⟩ := bnd hf
          refine sS_counts C0 hH h_u107 dX1_letPass_40 (fun H locs hH => ?_)
          exact J41 _ _ _ _ _ hf hH (lv_sub hl [0, 1, 2] rfl)
        · rw [if_neg c103] at hf
          refine lv_aload_n hx hb dX1_letPass_14 rfl (lv_at hl 0 rfl) ?_
          refine gS_X1_stick C0 hH inX1_letPass_X1 (by decide +kernel : Cond.fieldLink RX1 12 "GatheringCache$State" "stick" "LGatheringCache$Stick;" ∈ wsX1_letPass) dX1_letPass_15 ?_
          obtain ⟨u108, h_u108, hf⟩ := bnd hf
          refine cl_vV C0 hH hl.1 (As := []) (rest := []) (mX2_load l D ca a wr u h_u108) gX1_letPass_X2_load rfl rfl rfl hd_X2_load ⟨Nat.le_of_ble_eq_true rfl, Nat.le_of_ble_eq_true rfl⟩ ⟨Nat.zero_le _, Nat.zero_le _⟩ (vS_X2 C0 hH) rfl (Nat.le_of_ble_eq_true rfl) dX1_letPass_18 (fun H locs hH => ?_)
          refine lv_goto (tgt := 41) hx hb dX1_letPass_21 (by decide) ?_
          exact J41 _ _ _ _ _ hf hH (lv_sub hl [0, 1, 2] rfl)
  unfold pX1_letPass at hf
  refine lv_iconst (v := 0) hx hb dX1_letPass_0 (by decide) ?_
  refine lv_istore_n (lv' := [(2, .int 0), (0, .ref (a 6)), (1, .int x1)]) hx hb dX1_letPass_1 rfl hl (by decide) rfl (fun ls hl => ?_)
  exact J2 _ FU _ _ _ _ _ hf hH (lv_sub hl [1, 2, 0] rfl)
def rmX1_switchPower : Room := { frames := 4, cells := 0, slots := 0, locals := 88 }
theorem hd_X1_switchPower : yX1_switchPower.cls = RX1 ∧ yX1_switchPower.cls ≠ "java/lang/invoke/MethodHandle" ∧ yX1_switchPower.cls ≠ "java/lang/invoke/VarHandle" ∧ (parseMethodDescriptor yX1_switchPower.desc).map (fun d => d.parameters.length) = some 1 := by decide +kernel
theorem inX1_switchPower_X1 : ∀ w ∈ wsX10, w ∈ wsX1_switchPower := by decide +kernel
theorem inX1_switchPower_X2 : ∀ w ∈ wsX20, w ∈ wsX1_switchPower := by decide +kernel
set_option maxHeartbeats 4000000 in
set_option maxRecDepth 100000 in
theorem mX1_switchPower (l : Launch) (D : va_G) (ca : Gp) (a : Nat → Nat) (wr : va_W) (u : Mem) (x1 : Int32) {r : Int32} {u9 : Mem} (hf : pX1_switchPower u x1 = some (r, u9)) : Mi l yX1_switchPower wsX1_switchPower rmX1_switchPower D ca [.ref (a 6), .int x1] (sW a ca u ++ wr) (sW a ca u9 ++ wr) r := by
  refine Mi_of (own := RX1) (cc := cX1_switchPower) (nL := 3) (ty := .int) (by decide) rfl rfl rfl rfl (Nat.le_of_ble_eq_true rfl) ?_
  intro p e s m args below meth c Q A ls C0 hH hl hend
  obtain ⟨hx, hb, hml, hown, hts⟩ := id C0.1
  have hl : lv_has ls 3 [(0, .ref (a 6)), (1, .int x1)] := hl
  have J53 : ∀ (u : Mem) (H : Heap) (locs : List Loc) (ls : Array Slot), pX1_switchPower_53 u = some (r, u9) → HS D A s (sW a ca u ++ wr) H locs → lv_has ls 3 [] → W p l e rmX1_switchPower s m args below meth c H locs 0 0 Q (F0 m 53 ls []) := by
    intro u H locs ls hf hH hl
    unfold pX1_switchPower_53 at hf
    refine lv_iconst (v := 0) hx hb dX1_switchPower_53 (by decide) ?_
    cases hf
    exact hend _ _ _ _ hH rfl dX1_switchPower_54
  have J16 : ∀ (x1 : Int32) (s0 : Int32) (u : Mem) (H : Heap) (locs : List Loc) (ls : Array Slot), pX1_switchPower_16 x1 s0 u = some (r, u9) → HS D A s (sW a ca u ++ wr) H locs → lv_has ls 3 [(0, .ref (a 6)), (1, .int x1)] → W p l e rmX1_switchPower s m args below meth c H locs 0 0 Q (F0 m 16 ls [.int s0]) := by
    intro x1 s0 u H locs ls hf hH hl
    unfold pX1_switchPower_16 at hf
    refine lv_istore_n (lv' := [(2, .int s0), (0, .ref (a 6)), (1, .int x1)]) hx hb dX1_switchPower_16 rfl hl (by decide) rfl (fun ls hl => ?_)
    refine lv_aload_n hx hb dX1_switchPower_17 rfl (lv_at hl 1 rfl) ?_
    refine lv_iload_n hx hb dX1_switchPower_18 rfl (lv_at hl 2 rfl) ?_
    obtain ⟨u201, h_u201, hf⟩ := bnd hf
    refine pS_X1_on C0 hH inX1_switchPower_X1 h_u201 (by decide +kernel : Cond.fieldLink RX1 31 "GatheringCache$State" "on" "Z" ∈ wsX1_switchPower) dX1_switchPower_19 (fun H locs hH => ?_)
    refine lv_iload_n hx hb dX1_switchPower_22 rfl (lv_at hl 0 rfl) ?_
    refine lv_if_eq (tgt := 53) hx hb dX1_switchPower_23 (by decide) (fun c202 => ?_) (fun c202 => ?_)
    · rw [if_pos c202] at hf
      exact J53 _ _ _ _ hf hH (lv_sub hl [] rfl)
    · rw [if_neg c202] at hf
      refine lv_aload_n hx hb dX1_switchPower_26 rfl (lv_at hl 1 rfl) ?_
      refine gS_X1_stick C0 hH inX1_switchPower_X1 (by decide +kernel : Cond.fieldLink RX1 12 "GatheringCache$State" "stick" "LGatheringCache$Stick;" ∈ wsX1_switchPower) dX1_switchPower_27 ?_
      refine gS_X2_in C0 hH inX1_switchPower_X2 (by decide +kernel : Cond.fieldLink RX1 49 "GatheringCache$Stick" "in" "Z" ∈ wsX1_switchPower) dX1_switchPower_30 ?_
      refine lv_if_eq (tgt := 53) hx hb dX1_switchPower_33 (by decide) (fun c203 => ?_) (fun c203 => ?_)
      · rw [if_pos c203] at hf
        exact J53 _ _ _ _ hf hH (lv_sub hl [] rfl)
      · rw [if_neg c203] at hf
        refine lv_aload_n hx hb dX1_switchPower_36 rfl (lv_at hl 1 rfl) ?_
        refine gS_X1_stick C0 hH inX1_switchPower_X1 (by decide +kernel : Cond.fieldLink RX1 12 "GatheringCache$State" "stick" "LGatheringCache$Stick;" ∈ wsX1_switchPower) dX1_switchPower_37 ?_
        refine gS_X2_charge C0 hH inX1_switchPower_X2 (by decide +kernel : Cond.fieldLink RX1 52 "GatheringCache$Stick" "charge" "I" ∈ wsX1_switchPower) dX1_switchPower_40 ?_
        refine lv_bipush (v := 20) hx hb dX1_switchPower_43 (by decide) ?_
        refine lv_icmp_ge (tgt := 53) hx hb dX1_switchPower_45 (by decide) (fun c204 => ?_) (fun c204 => ?_)
        · rw [if_pos c204] at hf
          exact J53 _ _ _ _ hf hH (lv_sub hl [] rfl)
        · rw [if_neg c204] at hf
          refine lv_aload_n hx hb dX1_switchPower_48 rfl (lv_at hl 1 rfl) ?_
          obtain ⟨y205, u206, h_y205, hf⟩ := bnd2 hf
          refine cl_iV C0 hH hl.1 (As := []) (rest := []) (mX1_destageStripes l D ca a wr u201 h_y205) gX1_switchPower_X1_destageStripes rfl rfl rfl hd_X1_destageStripes ⟨Nat.le_of_ble_eq_true rfl, Nat.le_of_ble_eq_true rfl⟩ ⟨Nat.zero_le _, Nat.zero_le _⟩ (vS_X1 C0 hH) rfl (Nat.le_of_ble_eq_true rfl) dX1_switchPower_49 (fun H locs hH => ?_)
          cases hf
          exact hend _ _ _ _ hH rfl dX1_switchPower_52
  have J15 : ∀ (x1 : Int32) (u : Mem) (H : Heap) (locs : List Loc) (ls : Array Slot), pX1_switchPower_15 x1 u = some (r, u9) → HS D A s (sW a ca u ++ wr) H locs → lv_has ls 3 [(0, .ref (a 6)), (1, .int x1)] → W p l e rmX1_switchPower s m args below meth c H locs 0 0 Q (F0 m 15 ls []) := by
    intro x1 u H locs ls hf hH hl
    unfold pX1_switchPower_15 at hf
    refine lv_iconst (v := 0) hx hb dX1_switchPower_15 (by decide) ?_
    exact J16 _ _ _ _ _ _ hf hH (lv_sub hl [0, 1] rfl)
  unfold pX1_switchPower at hf
  refine lv_iload_n hx hb dX1_switchPower_0 rfl (lv_at hl 1 rfl) ?_
  refine lv_if_eq (tgt := 15) hx hb dX1_switchPower_1 (by decide) (fun c1 => ?_) (fun c1 => ?_)
  · rw [if_pos c1] at hf
    exact J15 _ _ _ _ _ hf hH (lv_sub hl [0, 1] rfl)
  · rw [if_neg c1] at hf
    refine lv_aload_n hx hb dX1_switchPower_4 rfl (lv_at hl 0 rfl) ?_
    refine gS_X1_on C0 hH inX1_switchPower_X1 (by decide +kernel : Cond.fieldLink RX1 31 "GatheringCache$State" "on" "Z" ∈ wsX1_switchPower) dX1_switchPower_5 ?_
    refine lv_if_ne (tgt := 15) hx hb dX1_switchPower_8 (by decide) (fun c2 => ?_) (fun c2 => ?_)
    · rw [if_neg c2] at hf
      exact J15 _ _ _ _ _ hf hH (lv_sub hl [0, 1] rfl)
    · rw [if_pos c2] at hf
      refine lv_iconst (v := 1) hx hb dX1_switchPower_11 (by decide) ?_
      refine lv_goto (tgt := 16) hx hb dX1_switchPower_12 (by decide) ?_
      exact J16 _ _ _ _ _ _ hf hH (lv_sub hl [0, 1] rfl)
def rmX1_emptyOutdatedLines : Room := { frames := 2, cells := 0, slots := 0, locals := 41 }
theorem hd_X1_emptyOutdatedLines : yX1_emptyOutdatedLines.cls = RX1 ∧ yX1_emptyOutdatedLines.cls ≠ "java/lang/invoke/MethodHandle" ∧ yX1_emptyOutdatedLines.cls ≠ "java/lang/invoke/VarHandle" ∧ (parseMethodDescriptor yX1_emptyOutdatedLines.desc).map (fun d => d.parameters.length) = some 0 := by decide +kernel
theorem inX1_emptyOutdatedLines_X1 : ∀ w ∈ wsX10, w ∈ wsX1_emptyOutdatedLines := by decide +kernel
theorem inX1_emptyOutdatedLines_X2 : ∀ w ∈ wsX20, w ∈ wsX1_emptyOutdatedLines := by decide +kernel
set_option maxHeartbeats 4000000 in
set_option maxRecDepth 100000 in
theorem mX1_emptyOutdatedLines (l : Launch) (D : va_G) (ca : Gp) (a : Nat → Nat) (wr : va_W) (u : Mem) {r : Int32} {u9 : Mem} (hf : pX1_emptyOutdatedLines u = some (r, u9)) : Mi l yX1_emptyOutdatedLines wsX1_emptyOutdatedLines rmX1_emptyOutdatedLines D ca [.ref (a 6)] (sW a ca u ++ wr) (sW a ca u9 ++ wr) r := by
  refine Mi_of (own := RX1) (cc := cX1_emptyOutdatedLines) (nL := 4) (ty := .int) (by decide) rfl rfl rfl rfl (Nat.le_of_ble_eq_true rfl) ?_
  intro p e s m args below meth c Q A ls C0 hH hl hend
  obtain ⟨hx, hb, hml, hown, hts⟩ := id C0.1
  have hl : lv_has ls 4 [(0, .ref (a 6))] := hl
  have J4 : ∀ (n : Nat) (x1 : Int32) (x2 : Int32) (u : Mem) (H : Heap) (locs : List Loc) (ls : Array Slot), pX1_emptyOutdatedLines_4 n x1 x2 u = some (r, u9) → HS D A s (sW a ca u ++ wr) H locs → lv_has ls 4 [(0, .ref (a 6)), (1, .int x1), (2, .int x2)] → W p l e rmX1_emptyOutdatedLines s m args below meth c H locs 0 0 Q (F0 m 4 ls []) := by
    intro n
    induction n with
    | zero => intro x1 x2 u H locs ls hf; cases hf
    | succ n ih =>
      intro x1 x2 u H locs ls hf hH hl
      have hf : pX1_emptyOutdatedLines_4b (pX1_emptyOutdatedLines_4 n) x1 x2 u = some (r, u9) := hf
      have J56 : ∀ (x1 : Int32) (x2 : Int32) (u : Mem) (H : Heap) (locs : List Loc) (ls : Array Slot), pX1_emptyOutdatedLines_56 (pX1_emptyOutdatedLines_4 n) x1 x2 u = some (r, u9) → HS D A s (sW a ca u ++ wr) H locs → lv_has ls 4 [(0, .ref (a 6)), (1, .int x1), (2, .int x2)] → W p l e rmX1_emptyOutdatedLines s m args below meth c H locs 0 0 Q (F0 m 56 ls []) := by
        intro x1 x2 u H locs ls hf hH hl
        unfold pX1_emptyOutdatedLines_56 at hf
        refine lv_iinc (v := (x2 + 1)) (lv' := [(2, .int (x2 + 1)), (0, .ref (a 6)), (1, .int x1)]) hx hb dX1_emptyOutdatedLines_56 hl (k := 2) rfl rfl (by decide) rfl (fun ls hl => ?_)
        refine lv_goto (tgt := 4) hx hb dX1_emptyOutdatedLines_59 (by decide) ?_
        exact ih _ _ _ _ _ _ hf hH (lv_sub hl [1, 2, 0] rfl)
      unfold pX1_emptyOutdatedLines_4b at hf
      refine lv_iload_n hx hb dX1_emptyOutdatedLines_4 rfl (lv_at hl 2 rfl) ?_
      refine lv_bipush (v := 12) hx hb dX1_emptyOutdatedLines_5 (by decide) ?_
      refine lv_icmp_ge (tgt := 62) hx hb dX1_emptyOutdatedLines_7 (by decide) (fun c101 => ?_) (fun c101 => ?_)
      · rw [if_pos c101] at hf
        refine lv_iload_n hx hb dX1_emptyOutdatedLines_62 rfl (lv_at hl 1 rfl) ?_
        cases hf
        exact hend _ _ _ _ hH rfl dX1_emptyOutdatedLines_63
      · rw [if_neg c101] at hf
        refine lv_aload_n hx hb dX1_emptyOutdatedLines_10 rfl (lv_at hl 0 rfl) ?_
        refine gS_X1_stick C0 hH inX1_emptyOutdatedLines_X1 (by decide +kernel : Cond.fieldLink RX1 12 "GatheringCache$State" "stick" "LGatheringCache$Stick;" ∈ wsX1_emptyOutdatedLines) dX1_emptyOutdatedLines_11 ?_
        refine gS_X2_blocks C0 hH inX1_emptyOutdatedLines_X2 (by decide +kernel : Cond.fieldLink RX1 123 "GatheringCache$Stick" "blocks" "[I" ∈ wsX1_emptyOutdatedLines) dX1_emptyOutdatedLines_14 ?_
        refine lv_iload_n hx hb dX1_emptyOutdatedLines_17 rfl (lv_at hl 2 rfl) ?_
        obtain ⟨y102, h_y102, hf⟩ := bnd hf
        refine lS_blocks C0 hH h_y102 dX1_emptyOutdatedLines_18 ?_
        refine lv_istore_n (lv' := [(3, .int y102), (0, .ref (a 6)), (1, .int x1), (2, .int x2)]) hx hb dX1_emptyOutdatedLines_19 rfl hl (by decide) rfl (fun ls hl => ?_)
        refine lv_iload_n hx hb dX1_emptyOutdatedLines_20 rfl (lv_at hl 0 rfl) ?_
        obtain ⟨y103, h_y103, hf⟩ := bnd hf
        refine cl_iN C0 hH hl.1 (As := [.int y102]) (rest := []) (mX4_isBlock l D ca (sW a ca u ++ wr) y102 h_y103) gX1_emptyOutdatedLines_X4_isBlock_n55 (by decide +kernel) rfl rfl rfl (by decide +kernel) (by decide +kernel) hd_X4_isBlock ⟨Nat.le_of_ble_eq_true rfl, Nat.le_of_ble_eq_true rfl⟩ ⟨Nat.zero_le _, Nat.zero_le _⟩ rfl (Nat.le_of_ble_eq_true rfl) dX1_emptyOutdatedLines_21 (fun H locs hH => ?_)
        refine lv_if_eq (tgt := 56) hx hb dX1_emptyOutdatedLines_24 (by decide) (fun c104 => ?_) (fun c104 => ?_)
        · rw [if_pos c104] at hf
          exact J56 _ _ _ _ _ _ hf hH (lv_sub hl [1, 2, 3] rfl)
        · rw [if_neg c104] at hf
          refine lv_aload_n hx hb dX1_emptyOutdatedLines_27 rfl (lv_at hl 1 rfl) ?_
          refine gS_X1_stick C0 hH inX1_emptyOutdatedLines_X1 (by decide +kernel : Cond.fieldLink RX1 12 "GatheringCache$State" "stick" "LGatheringCache$Stick;" ∈ wsX1_emptyOutdatedLines) dX1_emptyOutdatedLines_28 ?_
          refine gS_X2_stamps C0 hH inX1_emptyOutdatedLines_X2 (by decide +kernel : Cond.fieldLink RX1 126 "GatheringCache$Stick" "stamps" "[I" ∈ wsX1_emptyOutdatedLines) dX1_emptyOutdatedLines_31 ?_
          refine lv_iload_n hx hb dX1_emptyOutdatedLines_34 rfl (lv_at hl 3 rfl) ?_
          obtain ⟨y105, h_y105, hf⟩ := bnd hf
          refine lS_stamps C0 hH h_y105 dX1_emptyOutdatedLines_35 ?_
          refine lv_aload_n hx hb dX1_emptyOutdatedLines_36 rfl (lv_at hl 1 rfl) ?_
          refine gS_X1_diskStamps C0 hH inX1_emptyOutdatedLines_X1 (by decide +kernel : Cond.fieldLink RX1 22 "GatheringCache$State" "diskStamps" "[I" ∈ wsX1_emptyOutdatedLines) dX1_emptyOutdatedLines_37 ?_
          refine lv_iload_n hx hb dX1_emptyOutdatedLines_40 rfl (lv_at hl 0 rfl) ?_
          obtain ⟨y106, h_y106, hf⟩ := bnd hf
          refine lS_diskStamps C0 hH h_y106 dX1_emptyOutdatedLines_41 ?_
          refine lv_icmp_ge (tgt := 56) hx hb dX1_emptyOutdatedLines_42 (by decide) (fun c107 => ?_) (fun c107 => ?_)
          · rw [if_pos c107] at hf
            exact J56 _ _ _ _ _ _ hf hH (lv_sub hl [1, 2, 3] rfl)
          · rw [if_neg c107] at hf
            refine lv_aload_n hx hb dX1_emptyOutdatedLines_45 rfl (lv_at hl 1 rfl) ?_
            refine gS_X1_stick C0 hH inX1_emptyOutdatedLines_X1 (by decide +kernel : Cond.fieldLink RX1 12 "GatheringCache$State" "stick" "LGatheringCache$Stick;" ∈ wsX1_emptyOutdatedLines) dX1_emptyOutdatedLines_46 ?_
            refine lv_iload_n hx hb dX1_emptyOutdatedLines_49 rfl (lv_at hl 3 rfl) ?_
            obtain ⟨u108, h_u108, hf⟩ := bnd hf
            refine cl_vV C0 hH hl.1 (As := [.int x2]) (rest := []) (mX2_empty l D ca a wr u x2 h_u108) gX1_emptyOutdatedLines_X2_empty rfl rfl rfl hd_X2_empty ⟨Nat.le_of_ble_eq_true rfl, Nat.le_of_ble_eq_true rfl⟩ ⟨Nat.zero_le _, Nat.zero_le _⟩ (vS_X2 C0 hH) rfl (Nat.le_of_ble_eq_true rfl) dX1_emptyOutdatedLines_50 (fun H locs hH => ?_)
            refine lv_iinc (v := (x1 + 1)) (lv' := [(1, .int (x1 + 1)), (3, .int y102), (0, .ref (a 6)), (2, .int x2)]) hx hb dX1_emptyOutdatedLines_53 hl (k := 2) rfl rfl (by decide) rfl (fun ls hl => ?_)
            exact J56 _ _ _ _ _ _ hf hH (lv_sub hl [2, 0, 3] rfl)
  unfold pX1_emptyOutdatedLines at hf
  refine lv_iconst (v := 0) hx hb dX1_emptyOutdatedLines_0 (by decide) ?_
  refine lv_istore_n (lv' := [(1, .int 0), (0, .ref (a 6))]) hx hb dX1_emptyOutdatedLines_1 rfl hl (by decide) rfl (fun ls hl => ?_)
  refine lv_iconst (v := 0) hx hb dX1_emptyOutdatedLines_2 (by decide) ?_
  refine lv_istore_n (lv' := [(2, .int 0), (1, .int 0), (0, .ref (a 6))]) hx hb dX1_emptyOutdatedLines_3 rfl hl (by decide) rfl (fun ls hl => ?_)
  exact J4 FU _ _ _ _ _ _ hf hH (lv_sub hl [2, 1, 0] rfl)
def rmX1_placeStick : Room := { frames := 3, cells := 0, slots := 0, locals := 64 }
theorem hd_X1_placeStick : yX1_placeStick.cls = RX1 ∧ yX1_placeStick.cls ≠ "java/lang/invoke/MethodHandle" ∧ yX1_placeStick.cls ≠ "java/lang/invoke/VarHandle" ∧ (parseMethodDescriptor yX1_placeStick.desc).map (fun d => d.parameters.length) = some 1 := by decide +kernel
theorem inX1_placeStick_X1 : ∀ w ∈ wsX10, w ∈ wsX1_placeStick := by decide +kernel
theorem inX1_placeStick_X2 : ∀ w ∈ wsX20, w ∈ wsX1_placeStick := by decide +kernel
set_option maxHeartbeats 4000000 in
set_option maxRecDepth 100000 in
theorem mX1_placeStick (l : Launch) (D : va_G) (ca : Gp) (a : Nat → Nat) (wr : va_W) (u : Mem) (x1 : Int32) {r : Int32} {u9 : Mem} (hf : pX1_placeStick u x1 = some (r, u9)) : Mi l yX1_placeStick wsX1_placeStick rmX1_placeStick D ca [.ref (a 6), .int x1] (sW a ca u ++ wr) (sW a ca u9 ++ wr) r := by
  refine Mi_of (own := RX1) (cc := cX1_placeStick) (nL := 3) (ty := .int) (by decide) rfl rfl rfl rfl (Nat.le_of_ble_eq_true rfl) ?_
  intro p e s m args below meth c Q A ls C0 hH hl hend
  obtain ⟨hx, hb, hml, hown, hts⟩ := id C0.1
  have hl : lv_has ls 3 [(0, .ref (a 6)), (1, .int x1)] := hl
  have J40 : ∀ (s0 : Int32) (u : Mem) (H : Heap) (locs : List Loc) (ls : Array Slot), pX1_placeStick_40 s0 u = some (r, u9) → HS D A s (sW a ca u ++ wr) H locs → lv_has ls 3 [] → W p l e rmX1_placeStick s m args below meth c H locs 0 0 Q (F0 m 40 ls [.int s0]) := by
    intro s0 u H locs ls hf hH hl
    unfold pX1_placeStick_40 at hf
    cases hf
    exact hend _ _ _ _ hH rfl dX1_placeStick_40
  have J19 : ∀ (x1 : Int32) (s0 : Int32) (u : Mem) (H : Heap) (locs : List Loc) (ls : Array Slot), pX1_placeStick_19 x1 s0 u = some (r, u9) → HS D A s (sW a ca u ++ wr) H locs → lv_has ls 3 [(0, .ref (a 6)), (1, .int x1)] → W p l e rmX1_placeStick s m args below meth c H locs 0 0 Q (F0 m 19 ls [.int s0]) := by
    intro x1 s0 u H locs ls hf hH hl
    unfold pX1_placeStick_19 at hf
    refine lv_istore_n (lv' := [(2, .int s0), (0, .ref (a 6)), (1, .int x1)]) hx hb dX1_placeStick_19 rfl hl (by decide) rfl (fun ls hl => ?_)
    refine lv_aload_n hx hb dX1_placeStick_20 rfl (lv_at hl 1 rfl) ?_
    refine gS_X1_stick C0 hH inX1_placeStick_X1 (by decide +kernel : Cond.fieldLink RX1 12 "GatheringCache$State" "stick" "LGatheringCache$Stick;" ∈ wsX1_placeStick) dX1_placeStick_21 ?_
    refine lv_iload_n hx hb dX1_placeStick_24 rfl (lv_at hl 2 rfl) ?_
    obtain ⟨u201, h_u201, hf⟩ := bnd hf
    refine pS_X2_in C0 hH inX1_placeStick_X2 h_u201 (by decide +kernel : Cond.fieldLink RX1 49 "GatheringCache$Stick" "in" "Z" ∈ wsX1_placeStick) dX1_placeStick_25 (fun H locs hH => ?_)
    refine lv_iload_n hx hb dX1_placeStick_28 rfl (lv_at hl 0 rfl) ?_
    refine lv_if_eq (tgt := 39) hx hb dX1_placeStick_29 (by decide) (fun c202 => ?_) (fun c202 => ?_)
    · rw [if_pos c202] at hf
      refine lv_iconst (v := 0) hx hb dX1_placeStick_39 (by decide) ?_
      exact J40 _ _ _ _ _ hf hH (lv_sub hl [] rfl)
    · rw [if_neg c202] at hf
      refine lv_aload_n hx hb dX1_placeStick_32 rfl (lv_at hl 1 rfl) ?_
      obtain ⟨y203, u204, h_y203, hf⟩ := bnd2 hf
      refine cl_iV C0 hH hl.1 (As := []) (rest := []) (mX1_emptyOutdatedLines l D ca a wr u201 h_y203) gX1_placeStick_X1_emptyOutdatedLines rfl rfl rfl hd_X1_emptyOutdatedLines ⟨Nat.le_of_ble_eq_true rfl, Nat.le_of_ble_eq_true rfl⟩ ⟨Nat.zero_le _, Nat.zero_le _⟩ (vS_X1 C0 hH) rfl (Nat.le_of_ble_eq_true rfl) dX1_placeStick_33 (fun H locs hH => ?_)
      refine lv_goto (tgt := 40) hx hb dX1_placeStick_36 (by decide) ?_
      exact J40 _ _ _ _ _ hf hH (lv_sub hl [] rfl)
  have J18 : ∀ (x1 : Int32) (u : Mem) (H : Heap) (locs : List Loc) (ls : Array Slot), pX1_placeStick_18 x1 u = some (r, u9) → HS D A s (sW a ca u ++ wr) H locs → lv_has ls 3 [(0, .ref (a 6)), (1, .int x1)] → W p l e rmX1_placeStick s m args below meth c H locs 0 0 Q (F0 m 18 ls []) := by
    intro x1 u H locs ls hf hH hl
    unfold pX1_placeStick_18 at hf
    refine lv_iconst (v := 0) hx hb dX1_placeStick_18 (by decide) ?_
    exact J19 _ _ _ _ _ _ hf hH (lv_sub hl [0, 1] rfl)
  unfold pX1_placeStick at hf
  refine lv_iload_n hx hb dX1_placeStick_0 rfl (lv_at hl 1 rfl) ?_
  refine lv_if_eq (tgt := 18) hx hb dX1_placeStick_1 (by decide) (fun c1 => ?_) (fun c1 => ?_)
  · rw [if_pos c1] at hf
    exact J18 _ _ _ _ _ hf hH (lv_sub hl [0, 1] rfl)
  · rw [if_neg c1] at hf
    refine lv_aload_n hx hb dX1_placeStick_4 rfl (lv_at hl 0 rfl) ?_
    refine gS_X1_stick C0 hH inX1_placeStick_X1 (by decide +kernel : Cond.fieldLink RX1 12 "GatheringCache$State" "stick" "LGatheringCache$Stick;" ∈ wsX1_placeStick) dX1_placeStick_5 ?_
    refine gS_X2_in C0 hH inX1_placeStick_X2 (by decide +kernel : Cond.fieldLink RX1 49 "GatheringCache$Stick" "in" "Z" ∈ wsX1_placeStick) dX1_placeStick_8 ?_
    refine lv_if_ne (tgt := 18) hx hb dX1_placeStick_11 (by decide) (fun c2 => ?_) (fun c2 => ?_)
    · rw [if_neg c2] at hf
      exact J18 _ _ _ _ _ hf hH (lv_sub hl [0, 1] rfl)
    · rw [if_pos c2] at hf
      refine lv_iconst (v := 1) hx hb dX1_placeStick_14 (by decide) ?_
      refine lv_goto (tgt := 19) hx hb dX1_placeStick_15 (by decide) ?_
      exact J19 _ _ _ _ _ _ hf hH (lv_sub hl [0, 1] rfl)
def rmX1_finds : Room := { frames := 2, cells := 0, slots := 0, locals := 43 }
theorem hd_X1_finds : yX1_finds.cls = RX1 ∧ yX1_finds.cls ≠ "java/lang/invoke/MethodHandle" ∧ yX1_finds.cls ≠ "java/lang/invoke/VarHandle" ∧ (parseMethodDescriptor yX1_finds.desc).map (fun d => d.parameters.length) = some 1 := by decide +kernel
theorem inX1_finds_X1 : ∀ w ∈ wsX10, w ∈ wsX1_finds := by decide +kernel
theorem inX1_finds_X2 : ∀ w ∈ wsX20, w ∈ wsX1_finds := by decide +kernel
set_option maxHeartbeats 4000000 in
set_option maxRecDepth 100000 in
theorem mX1_finds (l : Launch) (D : va_G) (ca : Gp) (a : Nat → Nat) (wr : va_W) (u : Mem) (x1 : Int32) {r : Int32} (hf : pX1_finds u x1 = some r) : Mi l yX1_finds wsX1_finds rmX1_finds D ca [.ref (a 6), .int x1] (sW a ca u ++ wr) (sW a ca u ++ wr) r := by
  refine Mi_of (own := RX1) (cc := cX1_finds) (nL := 3) (ty := .boolean) (by decide) rfl rfl rfl rfl (Nat.le_of_ble_eq_true rfl) ?_
  intro p e s m args below meth c Q A ls C0 hH hl hend
  obtain ⟨hx, hb, hml, hown, hts⟩ := id C0.1
  have hl : lv_has ls 3 [(0, .ref (a 6)), (1, .int x1)] := hl
  have J65 : ∀ (s0 : Int32) (H : Heap) (locs : List Loc) (ls : Array Slot), pX1_finds_65 u s0 = some r → HS D A s (sW a ca u ++ wr) H locs → lv_has ls 3 [] → W p l e rmX1_finds s m args below meth c H locs 0 0 Q (F0 m 65 ls [.int s0]) := by
    intro s0 H locs ls hf hH hl
    unfold pX1_finds_65 at hf
    obtain ⟨hz, hf⟩ := gd hf
    cases hf
    exact hend _ _ _ _ hH (isz_n hz) dX1_finds_65
  have J64 : ∀ (H : Heap) (locs : List Loc) (ls : Array Slot), pX1_finds_64 u  = some r → HS D A s (sW a ca u ++ wr) H locs → lv_has ls 3 [] → W p l e rmX1_finds s m args below meth c H locs 0 0 Q (F0 m 64 ls []) := by
    intro H locs ls hf hH hl
    unfold pX1_finds_64 at hf
    refine lv_iconst (v := 0) hx hb dX1_finds_64 (by decide) ?_
    exact J65 _ _ _ _ hf hH (lv_sub hl [] rfl)
  unfold pX1_finds at hf
  refine lv_iload_n hx hb dX1_finds_0 rfl (lv_at hl 1 rfl) ?_
  obtain ⟨y1, h_y1, hf⟩ := bnd hf
  refine cl_iN C0 hH hl.1 (As := [.int x1]) (rest := []) (mX4_isBlock l D ca (sW a ca u ++ wr) x1 h_y1) gX1_finds_X4_isBlock_n55 (by decide +kernel) rfl rfl rfl (by decide +kernel) (by decide +kernel) hd_X4_isBlock ⟨Nat.le_of_ble_eq_true rfl, Nat.le_of_ble_eq_true rfl⟩ ⟨Nat.zero_le _, Nat.zero_le _⟩ rfl (Nat.le_of_ble_eq_true rfl) dX1_finds_1 (fun H locs hH => ?_)
  refine lv_if_ne (tgt := 9) hx hb dX1_finds_4 (by decide) (fun c2 => ?_) (fun c2 => ?_)
  · rw [if_neg c2] at hf
    refine lv_aload_n hx hb dX1_finds_9 rfl (lv_at hl 0 rfl) ?_
    refine gS_X1_diskStamps C0 hH inX1_finds_X1 (by decide +kernel : Cond.fieldLink RX1 22 "GatheringCache$State" "diskStamps" "[I" ∈ wsX1_finds) dX1_finds_10 ?_
    refine lv_iload_n hx hb dX1_finds_13 rfl (lv_at hl 1 rfl) ?_
    obtain ⟨y3, h_y3, hf⟩ := bnd hf
    refine lS_diskStamps C0 hH h_y3 dX1_finds_14 ?_
    refine lv_aload_n hx hb dX1_finds_15 rfl (lv_at hl 0 rfl) ?_
    refine gS_X1_latestStamps C0 hH inX1_finds_X1 (by decide +kernel : Cond.fieldLink RX1 25 "GatheringCache$State" "latestStamps" "[I" ∈ wsX1_finds) dX1_finds_16 ?_
    refine lv_iload_n hx hb dX1_finds_19 rfl (lv_at hl 1 rfl) ?_
    obtain ⟨y4, h_y4, hf⟩ := bnd hf
    refine lS_latestStamps C0 hH h_y4 dX1_finds_20 ?_
    refine lv_icmp_ne (tgt := 26) hx hb dX1_finds_21 (by decide) (fun c5 => ?_) (fun c5 => ?_)
    · rw [if_neg c5] at hf
      refine lv_aload_n hx hb dX1_finds_26 rfl (lv_at hl 0 rfl) ?_
      refine gS_X1_stick C0 hH inX1_finds_X1 (by decide +kernel : Cond.fieldLink RX1 12 "GatheringCache$State" "stick" "LGatheringCache$Stick;" ∈ wsX1_finds) dX1_finds_27 ?_
      refine lv_iload_n hx hb dX1_finds_30 rfl (lv_at hl 1 rfl) ?_
      obtain ⟨y6, h_y6, hf⟩ := bnd hf
      refine cl_iV C0 hH hl.1 (As := [.int x1]) (rest := []) (mX2_lineInReach l D ca a wr u x1 h_y6) gX1_finds_X2_lineInReach rfl rfl rfl hd_X2_lineInReach ⟨Nat.le_of_ble_eq_true rfl, Nat.le_of_ble_eq_true rfl⟩ ⟨Nat.zero_le _, Nat.zero_le _⟩ (vS_X2 C0 hH) rfl (Nat.le_of_ble_eq_true rfl) dX1_finds_31 (fun H locs hH => ?_)
      refine lv_istore_n (lv' := [(2, .int y6), (0, .ref (a 6)), (1, .int x1)]) hx hb dX1_finds_34 rfl hl (by decide) rfl (fun ls hl => ?_)
      refine lv_iload_n hx hb dX1_finds_35 rfl (lv_at hl 0 rfl) ?_
      obtain ⟨y7, h_y7, hf⟩ := bnd hf
      refine cl_iN C0 hH hl.1 (As := [.int y6]) (rest := []) (mX4_isLine l D ca (sW a ca u ++ wr) y6 h_y7) gX1_finds_X4_isLine_n83 (by decide +kernel) rfl rfl rfl (by decide +kernel) (by decide +kernel) hd_X4_isLine ⟨Nat.le_of_ble_eq_true rfl, Nat.le_of_ble_eq_true rfl⟩ ⟨Nat.zero_le _, Nat.zero_le _⟩ rfl (Nat.le_of_ble_eq_true rfl) dX1_finds_36 (fun H locs hH => ?_)
      refine lv_if_eq (tgt := 64) hx hb dX1_finds_39 (by decide) (fun c8 => ?_) (fun c8 => ?_)
      · rw [if_pos c8] at hf
        exact J64 _ _ _ hf hH (lv_sub hl [] rfl)
      · rw [if_neg c8] at hf
        refine lv_aload_n hx hb dX1_finds_42 rfl (lv_at hl 1 rfl) ?_
        refine gS_X1_stick C0 hH inX1_finds_X1 (by decide +kernel : Cond.fieldLink RX1 12 "GatheringCache$State" "stick" "LGatheringCache$Stick;" ∈ wsX1_finds) dX1_finds_43 ?_
        refine gS_X2_stamps C0 hH inX1_finds_X2 (by decide +kernel : Cond.fieldLink RX1 126 "GatheringCache$Stick" "stamps" "[I" ∈ wsX1_finds) dX1_finds_46 ?_
        refine lv_iload_n hx hb dX1_finds_49 rfl (lv_at hl 0 rfl) ?_
        obtain ⟨y9, h_y9, hf⟩ := bnd hf
        refine lS_stamps C0 hH h_y9 dX1_finds_50 ?_
        refine lv_aload_n hx hb dX1_finds_51 rfl (lv_at hl 1 rfl) ?_
        refine gS_X1_latestStamps C0 hH inX1_finds_X1 (by decide +kernel : Cond.fieldLink RX1 25 "GatheringCache$State" "latestStamps" "[I" ∈ wsX1_finds) dX1_finds_52 ?_
        refine lv_iload_n hx hb dX1_finds_55 rfl (lv_at hl 2 rfl) ?_
        obtain ⟨y10, h_y10, hf⟩ := bnd hf
        refine lS_latestStamps C0 hH h_y10 dX1_finds_56 ?_
        refine lv_icmp_ne (tgt := 64) hx hb dX1_finds_57 (by decide) (fun c11 => ?_) (fun c11 => ?_)
        · rw [if_neg c11] at hf
          exact J64 _ _ _ hf hH (lv_sub hl [] rfl)
        · rw [if_pos c11] at hf
          refine lv_iconst (v := 1) hx hb dX1_finds_60 (by decide) ?_
          refine lv_goto (tgt := 65) hx hb dX1_finds_61 (by decide) ?_
          exact J65 _ _ _ _ hf hH (lv_sub hl [] rfl)
    · rw [if_pos c5] at hf
      refine lv_iconst (v := 1) hx hb dX1_finds_24 (by decide) ?_
      cases hf
      exact hend _ _ _ _ hH rfl dX1_finds_25
  · rw [if_pos c2] at hf
    refine lv_iconst (v := 0) hx hb dX1_finds_7 (by decide) ?_
    cases hf
    exact hend _ _ _ _ hH rfl dX1_finds_8
def rmX1_operationsIfWritten : Room := { frames := 4, cells := 0, slots := 0, locals := 89 }
theorem hd_X1_operationsIfWritten : yX1_operationsIfWritten.cls = RX1 ∧ yX1_operationsIfWritten.cls ≠ "java/lang/invoke/MethodHandle" ∧ yX1_operationsIfWritten.cls ≠ "java/lang/invoke/VarHandle" ∧ (parseMethodDescriptor yX1_operationsIfWritten.desc).map (fun d => d.parameters.length) = some 1 := by decide +kernel
theorem inX1_operationsIfWritten_X1 : ∀ w ∈ wsX10, w ∈ wsX1_operationsIfWritten := by decide +kernel
set_option maxHeartbeats 4000000 in
set_option maxRecDepth 100000 in
theorem mX1_operationsIfWritten (l : Launch) (D : va_G) (ca : Gp) (a : Nat → Nat) (wr : va_W) (u : Mem) (x1 : Int32) {r : Int32} (hf : pX1_operationsIfWritten u x1 = some r) : Mi l yX1_operationsIfWritten wsX1_operationsIfWritten rmX1_operationsIfWritten D ca [.ref (a 6), .int x1] (sW a ca u ++ wr) (sW a ca u ++ wr) r := by
  refine Mi_of (own := RX1) (cc := cX1_operationsIfWritten) (nL := 3) (ty := .int) (by decide) rfl rfl rfl rfl (Nat.le_of_ble_eq_true rfl) ?_
  intro p e s m args below meth c Q A ls C0 hH hl hend
  obtain ⟨hx, hb, hml, hown, hts⟩ := id C0.1
  have hl : lv_has ls 3 [(0, .ref (a 6)), (1, .int x1)] := hl
  have J47 : ∀ (H : Heap) (locs : List Loc) (ls : Array Slot), pX1_operationsIfWritten_47 u  = some r → HS D A s (sW a ca u ++ wr) H locs → lv_has ls 3 [] → W p l e rmX1_operationsIfWritten s m args below meth c H locs 0 0 Q (F0 m 47 ls []) := by
    intro H locs ls hf hH hl
    unfold pX1_operationsIfWritten_47 at hf
    refine lv_iconst (v := 0) hx hb dX1_operationsIfWritten_47 (by decide) ?_
    cases hf
    exact hend _ _ _ _ hH rfl dX1_operationsIfWritten_48
  unfold pX1_operationsIfWritten at hf
  refine lv_aload_n hx hb dX1_operationsIfWritten_0 rfl (lv_at hl 0 rfl) ?_
  obtain ⟨y1, h_y1, hf⟩ := bnd hf
  refine cl_iV C0 hH hl.1 (As := []) (rest := []) (mX1_gathers l D ca a wr u h_y1) gX1_operationsIfWritten_X1_gathers rfl rfl rfl hd_X1_gathers ⟨Nat.le_of_ble_eq_true rfl, Nat.le_of_ble_eq_true rfl⟩ ⟨Nat.zero_le _, Nat.zero_le _⟩ (vS_X1 C0 hH) rfl (Nat.le_of_ble_eq_true rfl) dX1_operationsIfWritten_1 (fun H locs hH => ?_)
  refine lv_if_ne (tgt := 12) hx hb dX1_operationsIfWritten_4 (by decide) (fun c2 => ?_) (fun c2 => ?_)
  · rw [if_neg c2] at hf
    refine lv_iload_n hx hb dX1_operationsIfWritten_12 rfl (lv_at hl 1 rfl) ?_
    obtain ⟨y3, h_y3, hf⟩ := bnd hf
    refine cl_iN C0 hH hl.1 (As := [.int x1]) (rest := []) (mX4_stripeOf l D ca (sW a ca u ++ wr) x1 h_y3) gX1_operationsIfWritten_X4_stripeOf_n77 (by decide +kernel) rfl rfl rfl (by decide +kernel) (by decide +kernel) hd_X4_stripeOf ⟨Nat.le_of_ble_eq_true rfl, Nat.le_of_ble_eq_true rfl⟩ ⟨Nat.zero_le _, Nat.zero_le _⟩ rfl (Nat.le_of_ble_eq_true rfl) dX1_operationsIfWritten_13 (fun H locs hH => ?_)
    refine lv_iconst (v := 4) hx hb dX1_operationsIfWritten_16 (by decide) ?_
    refine lv_irem hx hb dX1_operationsIfWritten_17 (by decide) ?_
    refine lv_istore_n (lv' := [(2, .int (y3 - y3 / 4 * 4)), (0, .ref (a 6)), (1, .int x1)]) hx hb dX1_operationsIfWritten_18 rfl hl (by decide) rfl (fun ls hl => ?_)
    refine lv_aload_n hx hb dX1_operationsIfWritten_19 rfl (lv_at hl 1 rfl) ?_
    refine gS_X1_stick C0 hH inX1_operationsIfWritten_X1 (by decide +kernel : Cond.fieldLink RX1 12 "GatheringCache$State" "stick" "LGatheringCache$Stick;" ∈ wsX1_operationsIfWritten) dX1_operationsIfWritten_20 ?_
    refine lv_iload_n hx hb dX1_operationsIfWritten_23 rfl (lv_at hl 2 rfl) ?_
    obtain ⟨y4, h_y4, hf⟩ := bnd hf
    refine cl_iV C0 hH hl.1 (As := [.int x1]) (rest := []) (mX2_lineOf l D ca a wr u x1 h_y4) gX1_operationsIfWritten_X2_lineOf rfl rfl rfl hd_X2_lineOf ⟨Nat.le_of_ble_eq_true rfl, Nat.le_of_ble_eq_true rfl⟩ ⟨Nat.zero_le _, Nat.zero_le _⟩ (vS_X2 C0 hH) rfl (Nat.le_of_ble_eq_true rfl) dX1_operationsIfWritten_24 (fun H locs hH => ?_)
    obtain ⟨y5, h_y5, hf⟩ := bnd hf
    refine cl_iN C0 hH hl.1 (As := [.int y4]) (rest := []) (mX4_isLine l D ca (sW a ca u ++ wr) y4 h_y5) gX1_operationsIfWritten_X4_isLine_n83 (by decide +kernel) rfl rfl rfl (by decide +kernel) (by decide +kernel) hd_X4_isLine ⟨Nat.le_of_ble_eq_true rfl, Nat.le_of_ble_eq_true rfl⟩ ⟨Nat.zero_le _, Nat.zero_le _⟩ rfl (Nat.le_of_ble_eq_true rfl) dX1_operationsIfWritten_27 (fun H locs hH => ?_)
    refine lv_if_ne (tgt := 47) hx hb dX1_operationsIfWritten_30 (by decide) (fun c6 => ?_) (fun c6 => ?_)
    · rw [if_neg c6] at hf
      exact J47 _ _ _ hf hH (lv_sub hl [] rfl)
    · rw [if_pos c6] at hf
      refine lv_aload_n hx hb dX1_operationsIfWritten_33 rfl (lv_at hl 1 rfl) ?_
      refine gS_X1_stick C0 hH inX1_operationsIfWritten_X1 (by decide +kernel : Cond.fieldLink RX1 12 "GatheringCache$State" "stick" "LGatheringCache$Stick;" ∈ wsX1_operationsIfWritten) dX1_operationsIfWritten_34 ?_
      refine lv_iload_n hx hb dX1_operationsIfWritten_37 rfl (lv_at hl 0 rfl) ?_
      obtain ⟨y7, h_y7, hf⟩ := bnd hf
      refine cl_iV C0 hH hl.1 (As := [.int (y3 - y3 / 4 * 4)]) (rest := []) (mX2_freeLine l D ca a wr u (y3 - y3 / 4 * 4) h_y7) gX1_operationsIfWritten_X2_freeLine rfl rfl rfl hd_X2_freeLine ⟨Nat.le_of_ble_eq_true rfl, Nat.le_of_ble_eq_true rfl⟩ ⟨Nat.zero_le _, Nat.zero_le _⟩ (vS_X2 C0 hH) rfl (Nat.le_of_ble_eq_true rfl) dX1_operationsIfWritten_38 (fun H locs hH => ?_)
      obtain ⟨y8, h_y8, hf⟩ := bnd hf
      refine cl_iN C0 hH hl.1 (As := [.int y7]) (rest := []) (mX4_isLine l D ca (sW a ca u ++ wr) y7 h_y8) gX1_operationsIfWritten_X4_isLine_n83 (by decide +kernel) rfl rfl rfl (by decide +kernel) (by decide +kernel) hd_X4_isLine ⟨Nat.le_of_ble_eq_true rfl, Nat.le_of_ble_eq_true rfl⟩ ⟨Nat.zero_le _, Nat.zero_le _⟩ rfl (Nat.le_of_ble_eq_true rfl) dX1_operationsIfWritten_41 (fun H locs hH => ?_)
      refine lv_if_eq (tgt := 49) hx hb dX1_operationsIfWritten_44 (by decide) (fun c9 => ?_) (fun c9 => ?_)
      · rw [if_pos c9] at hf
        refine lv_aload_n hx hb dX1_operationsIfWritten_49 rfl (lv_at hl 1 rfl) ?_
        refine gS_X1_stick C0 hH inX1_operationsIfWritten_X1 (by decide +kernel : Cond.fieldLink RX1 12 "GatheringCache$State" "stick" "LGatheringCache$Stick;" ∈ wsX1_operationsIfWritten) dX1_operationsIfWritten_50 ?_
        refine lv_aload_n hx hb dX1_operationsIfWritten_53 rfl (lv_at hl 1 rfl) ?_
        refine gS_X1_stick C0 hH inX1_operationsIfWritten_X1 (by decide +kernel : Cond.fieldLink RX1 12 "GatheringCache$State" "stick" "LGatheringCache$Stick;" ∈ wsX1_operationsIfWritten) dX1_operationsIfWritten_54 ?_
        refine lv_iload_n hx hb dX1_operationsIfWritten_57 rfl (lv_at hl 0 rfl) ?_
        obtain ⟨y10, h_y10, hf⟩ := bnd hf
        refine cl_iV C0 hH hl.1 (As := [.int (y3 - y3 / 4 * 4)]) (rest := [.ref (a 0)]) (mX2_fullestStripe l D ca a wr u (y3 - y3 / 4 * 4) h_y10) gX1_operationsIfWritten_X2_fullestStripe rfl rfl rfl hd_X2_fullestStripe ⟨Nat.le_of_ble_eq_true rfl, Nat.le_of_ble_eq_true rfl⟩ ⟨Nat.zero_le _, Nat.zero_le _⟩ (vS_X2 C0 hH) rfl (Nat.le_of_ble_eq_true rfl) dX1_operationsIfWritten_58 (fun H locs hH => ?_)
        obtain ⟨y11, h_y11, hf⟩ := bnd hf
        refine cl_iV C0 hH hl.1 (As := [.int y10]) (rest := []) (mX2_dirtyLinesOf l D ca a wr u y10 h_y11) gX1_operationsIfWritten_X2_dirtyLinesOf rfl rfl rfl hd_X2_dirtyLinesOf ⟨Nat.le_of_ble_eq_true rfl, Nat.le_of_ble_eq_true rfl⟩ ⟨Nat.zero_le _, Nat.zero_le _⟩ (vS_X2 C0 hH) rfl (Nat.le_of_ble_eq_true rfl) dX1_operationsIfWritten_61 (fun H locs hH => ?_)
        obtain ⟨y12, h_y12, hf⟩ := bnd hf
        refine cl_iN C0 hH hl.1 (As := [.int y11]) (rest := []) (mX4_operationsToWrite l D ca (sW a ca u ++ wr) y11 h_y12) gX1_operationsIfWritten_X4_operationsToWrite_n152 (by decide +kernel) rfl rfl rfl (by decide +kernel) (by decide +kernel) hd_X4_operationsToWrite ⟨Nat.le_of_ble_eq_true rfl, Nat.le_of_ble_eq_true rfl⟩ ⟨Nat.zero_le _, Nat.zero_le _⟩ rfl (Nat.le_of_ble_eq_true rfl) dX1_operationsIfWritten_64 (fun H locs hH => ?_)
        cases hf
        exact hend _ _ _ _ hH rfl dX1_operationsIfWritten_67
      · rw [if_neg c9] at hf
        exact J47 _ _ _ hf hH (lv_sub hl [] rfl)
  · rw [if_pos c2] at hf
    refine lv_iconst (v := 1) hx hb dX1_operationsIfWritten_7 (by decide) ?_
    obtain ⟨y13, h_y13, hf⟩ := bnd hf
    refine cl_iN C0 hH hl.1 (As := [.int 1]) (rest := []) (mX4_operationsToWrite l D ca (sW a ca u ++ wr) 1 h_y13) gX1_operationsIfWritten_X4_operationsToWrite_n152 (by decide +kernel) rfl rfl rfl (by decide +kernel) (by decide +kernel) hd_X4_operationsToWrite ⟨Nat.le_of_ble_eq_true rfl, Nat.le_of_ble_eq_true rfl⟩ ⟨Nat.zero_le _, Nat.zero_le _⟩ rfl (Nat.le_of_ble_eq_true rfl) dX1_operationsIfWritten_8 (fun H locs hH => ?_)
    cases hf
    exact hend _ _ _ _ hH rfl dX1_operationsIfWritten_11
def rmX1_operationsIfDestaged : Room := { frames := 3, cells := 0, slots := 0, locals := 65 }
theorem hd_X1_operationsIfDestaged : yX1_operationsIfDestaged.cls = RX1 ∧ yX1_operationsIfDestaged.cls ≠ "java/lang/invoke/MethodHandle" ∧ yX1_operationsIfDestaged.cls ≠ "java/lang/invoke/VarHandle" ∧ (parseMethodDescriptor yX1_operationsIfDestaged.desc).map (fun d => d.parameters.length) = some 0 := by decide +kernel
theorem inX1_operationsIfDestaged_X1 : ∀ w ∈ wsX10, w ∈ wsX1_operationsIfDestaged := by decide +kernel
set_option maxHeartbeats 4000000 in
set_option maxRecDepth 100000 in
theorem mX1_operationsIfDestaged (l : Launch) (D : va_G) (ca : Gp) (a : Nat → Nat) (wr : va_W) (u : Mem) {r : Int32} (hf : pX1_operationsIfDestaged u = some r) : Mi l yX1_operationsIfDestaged wsX1_operationsIfDestaged rmX1_operationsIfDestaged D ca [.ref (a 6)] (sW a ca u ++ wr) (sW a ca u ++ wr) r := by
  refine Mi_of (own := RX1) (cc := cX1_operationsIfDestaged) (nL := 3) (ty := .int) (by decide) rfl rfl rfl rfl (Nat.le_of_ble_eq_true rfl) ?_
  intro p e s m args below meth c Q A ls C0 hH hl hend
  obtain ⟨hx, hb, hml, hown, hts⟩ := id C0.1
  have hl : lv_has ls 3 [(0, .ref (a 6))] := hl
  have J4 : ∀ (n : Nat) (x1 : Int32) (x2 : Int32) (H : Heap) (locs : List Loc) (ls : Array Slot), pX1_operationsIfDestaged_4 u n x1 x2 = some r → HS D A s (sW a ca u ++ wr) H locs → lv_has ls 3 [(0, .ref (a 6)), (1, .int x1), (2, .int x2)] → W p l e rmX1_operationsIfDestaged s m args below meth c H locs 0 0 Q (F0 m 4 ls []) := by
    intro n
    induction n with
    | zero => intro x1 x2 H locs ls hf; cases hf
    | succ n ih =>
      intro x1 x2 H locs ls hf hH hl
      have hf : pX1_operationsIfDestaged_4b u (pX1_operationsIfDestaged_4 u n) x1 x2 = some r := hf
      unfold pX1_operationsIfDestaged_4b at hf
      refine lv_iload_n hx hb dX1_operationsIfDestaged_4 rfl (lv_at hl 2 rfl) ?_
      refine lv_bipush (v := 16) hx hb dX1_operationsIfDestaged_5 (by decide) ?_
      refine lv_icmp_ge (tgt := 30) hx hb dX1_operationsIfDestaged_7 (by decide) (fun c101 => ?_) (fun c101 => ?_)
      · rw [if_pos c101] at hf
        refine lv_iload_n hx hb dX1_operationsIfDestaged_30 rfl (lv_at hl 1 rfl) ?_
        cases hf
        exact hend _ _ _ _ hH rfl dX1_operationsIfDestaged_31
      · rw [if_neg c101] at hf
        refine lv_iload_n hx hb dX1_operationsIfDestaged_10 rfl (lv_at hl 1 rfl) ?_
        refine lv_aload_n hx hb dX1_operationsIfDestaged_11 rfl (lv_at hl 0 rfl) ?_
        refine gS_X1_stick C0 hH inX1_operationsIfDestaged_X1 (by decide +kernel : Cond.fieldLink RX1 12 "GatheringCache$State" "stick" "LGatheringCache$Stick;" ∈ wsX1_operationsIfDestaged) dX1_operationsIfDestaged_12 ?_
        refine lv_iload_n hx hb dX1_operationsIfDestaged_15 rfl (lv_at hl 2 rfl) ?_
        obtain ⟨y102, h_y102, hf⟩ := bnd hf
        refine cl_iV C0 hH hl.1 (As := [.int x2]) (rest := [.int x1]) (mX2_dirtyLinesOf l D ca a wr u x2 h_y102) gX1_operationsIfDestaged_X2_dirtyLinesOf rfl rfl rfl hd_X2_dirtyLinesOf ⟨Nat.le_of_ble_eq_true rfl, Nat.le_of_ble_eq_true rfl⟩ ⟨Nat.zero_le _, Nat.zero_le _⟩ (vS_X2 C0 hH) rfl (Nat.le_of_ble_eq_true rfl) dX1_operationsIfDestaged_16 (fun H locs hH => ?_)
        obtain ⟨y103, h_y103, hf⟩ := bnd hf
        refine cl_iN C0 hH hl.1 (As := [.int y102]) (rest := [.int x1]) (mX4_operationsToWrite l D ca (sW a ca u ++ wr) y102 h_y103) gX1_operationsIfDestaged_X4_operationsToWrite_n152 (by decide +kernel) rfl rfl rfl (by decide +kernel) (by decide +kernel) hd_X4_operationsToWrite ⟨Nat.le_of_ble_eq_true rfl, Nat.le_of_ble_eq_true rfl⟩ ⟨Nat.zero_le _, Nat.zero_le _⟩ rfl (Nat.le_of_ble_eq_true rfl) dX1_operationsIfDestaged_19 (fun H locs hH => ?_)
        refine lv_iadd hx hb dX1_operationsIfDestaged_22 ?_
        refine lv_istore_n (lv' := [(1, .int (x1 + y103)), (0, .ref (a 6)), (2, .int x2)]) hx hb dX1_operationsIfDestaged_23 rfl hl (by decide) rfl (fun ls hl => ?_)
        refine lv_iinc (v := (x2 + 1)) (lv' := [(2, .int (x2 + 1)), (1, .int (x1 + y103)), (0, .ref (a 6))]) hx hb dX1_operationsIfDestaged_24 hl (k := 2) rfl rfl (by decide) rfl (fun ls hl => ?_)
        refine lv_goto (tgt := 4) hx hb dX1_operationsIfDestaged_27 (by decide) ?_
        exact ih _ _ _ _ _ hf hH (lv_sub hl [2, 1, 0] rfl)
  unfold pX1_operationsIfDestaged at hf
  refine lv_iconst (v := 0) hx hb dX1_operationsIfDestaged_0 (by decide) ?_
  refine lv_istore_n (lv' := [(1, .int 0), (0, .ref (a 6))]) hx hb dX1_operationsIfDestaged_1 rfl hl (by decide) rfl (fun ls hl => ?_)
  refine lv_iconst (v := 0) hx hb dX1_operationsIfDestaged_2 (by decide) ?_
  refine lv_istore_n (lv' := [(2, .int 0), (1, .int 0), (0, .ref (a 6))]) hx hb dX1_operationsIfDestaged_3 rfl hl (by decide) rfl (fun ls hl => ?_)
  exact J4 FU _ _ _ _ _ hf hH (lv_sub hl [2, 1, 0] rfl)
