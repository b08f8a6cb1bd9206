/-! THE PUBLIC METHODS, where they return: functions and contracts, by program. -/
def pX4_requireBlock (x0 : Int32) : Option Unit :=
  (pX4_isBlock x0).bind fun y1 =>
  if y1 = 0 then
    none
  else
    some ()
def rmX4_requireBlock : Room := { frames := 1, cells := 0, slots := 0, locals := 20 }
theorem hd_X4_requireBlock : yX4_requireBlock.cls ≠ "java/lang/invoke/MethodHandle" ∧ yX4_requireBlock.cls ≠ "java/lang/invoke/VarHandle" ∧ (parseMethodDescriptor yX4_requireBlock.desc).map (fun d => d.parameters.length) = some 1 := by decide +kernel
set_option maxHeartbeats 4000000 in
set_option maxRecDepth 100000 in
theorem mX4_requireBlock (l : Launch) (D : va_G) (ca : Gp) (w : va_W) (x0 : Int32) (hf : pX4_requireBlock x0 = some ()) : Mv l yX4_requireBlock wsX4_requireBlock rmX4_requireBlock D ca [.int x0] (w) (w) := by
  refine Mv_of (own := RX4) (cc := cX4_requireBlock) (nL := 1) (by decide) rfl rfl rfl rfl (Nat.le_of_ble_eq_true rfl) ?_
  intro p e s m args below meth c Q A ls C0 hH hl hend
  obtain ⟨hx, hb, hml, hown, hts⟩ := id C0.1
  have hl : lv_has ls 1 [(0, .int x0)] := hl
  unfold pX4_requireBlock at hf
  refine lv_iload_n hx hb dX4_requireBlock_0 rfl (lv_at hl 0 rfl) ?_
  obtain ⟨y1, h_y1, hf⟩ := bnd hf
  refine cl_iS C0 hH hl.1 (As := [.int x0]) (rest := []) (mX4_isBlock l D ca (w) x0 h_y1) gX4_requireBlock_X4_isBlock rfl rfl rfl hd_X4_isBlock ⟨Nat.le_of_ble_eq_true rfl, Nat.le_of_ble_eq_true rfl⟩ ⟨Nat.zero_le _, Nat.zero_le _⟩ rfl (Nat.le_of_ble_eq_true rfl) dX4_requireBlock_1 (fun H locs hH => ?_)
  refine lv_if_ne (tgt := 17) hx hb dX4_requireBlock_4 (by decide) (fun c2 => ?_) (fun c2 => ?_)
  · rw [if_neg c2] at hf
    cases hf
    exact hend _ _ _ _ hH dX4_requireBlock_17
  · rw [if_pos c2] at hf
    cases hf
def pX4_requirePower (t : Mem) (u : Mem) (hh : Mem) (S : Nat → Mem) : Option Unit :=
  if (u 6 1) = 0 then
    none
  else
    some ()
def rmX4_requirePower : Room := { frames := 0, cells := 0, slots := 0, locals := 0 }
theorem hd_X4_requirePower : yX4_requirePower.cls = RX4 ∧ yX4_requirePower.cls ≠ "java/lang/invoke/MethodHandle" ∧ yX4_requirePower.cls ≠ "java/lang/invoke/VarHandle" ∧ (parseMethodDescriptor yX4_requirePower.desc).map (fun d => d.parameters.length) = some 0 := by decide +kernel
theorem inX4_requirePower_X1 : ∀ w ∈ wsX10, w ∈ wsX4_requirePower := by decide +kernel
theorem inX4_requirePower_X4 : ∀ w ∈ wsX40, w ∈ wsX4_requirePower := by decide +kernel
set_option maxHeartbeats 4000000 in
set_option maxRecDepth 100000 in
theorem mX4_requirePower (l : Launch) (D : va_G) (ca : Gp) (a b h : Nat → Nat) (f : Nat → Nat → Nat) (wr : va_W) (t u hh : Mem) (S : Nat → Mem) (hf : pX4_requirePower t u hh S = some ()) : Mv l yX4_requirePower wsX4_requirePower rmX4_requirePower D ca [.ref (h 2)] (gW a b h f ca t u hh S wr) (gW a b h f ca t u hh S wr) := by
  refine Mv_of (own := RX4) (cc := cX4_requirePower) (nL := 1) (by decide) rfl rfl rfl rfl (Nat.le_of_ble_eq_true rfl) ?_
  intro p e s m args below meth c Q A ls C0 hH hl hend
  obtain ⟨hx, hb, hml, hown, hts⟩ := id C0.1
  have hl : lv_has ls 1 [(0, .ref (h 2))] := hl
  unfold pX4_requirePower at hf
  refine lv_aload_n hx hb dX4_requirePower_0 rfl (lv_at hl 0 rfl) ?_
  refine gG_X4_now C0 hH inX4_requirePower_X4 (by decide +kernel : Cond.fieldLink RX4 10 "GatheringCache" "now" "LGatheringCache$State;" ∈ wsX4_requirePower) dX4_requirePower_1 ?_
  refine gS_X1_on C0 hH.swap inX4_requirePower_X1 (by decide +kernel : Cond.fieldLink RX4 93 "GatheringCache$State" "on" "Z" ∈ wsX4_requirePower) dX4_requirePower_4 ?_
  refine lv_if_ne (tgt := 20) hx hb dX4_requirePower_7 (by decide) (fun c1 => ?_) (fun c1 => ?_)
  · rw [if_neg c1] at hf
    cases hf
    exact hend _ _ _ _ hH dX4_requirePower_20
  · rw [if_pos c1] at hf
    cases hf
def pX4_write (t : Mem) (u : Mem) (hh : Mem) (S : Nat → Mem) (x1 : Int32) (x2 : Int32) : Option (Int32 × GM) :=
  (pX4_requireBlock x1).bind fun q1 =>
  if x2 < 0 then
    none
  else
    if x2 ≤ 999 then
      (pX4_requirePower t u hh S).bind fun q4 =>
      bdH (pX0_save u hh S) fun h5 S6 =>
      bd2 (pX1_writeBlock u x1 x2) fun y7 u8 =>
      some (y7, (t, u8, h5, S6))
    else
      none
def rmX4_write : Room := { frames := 6, cells := 0, slots := 0, locals := 142 }
theorem hd_X4_write : yX4_write.cls = RX4 ∧ yX4_write.cls ≠ "java/lang/invoke/MethodHandle" ∧ yX4_write.cls ≠ "java/lang/invoke/VarHandle" ∧ (parseMethodDescriptor yX4_write.desc).map (fun d => d.parameters.length) = some 2 := by decide +kernel
theorem inX4_write_X4 : ∀ w ∈ wsX40, w ∈ wsX4_write := by decide +kernel
set_option maxHeartbeats 4000000 in
set_option maxRecDepth 100000 in
theorem mX4_write (l : Launch) (D : va_G) (ca : Gp) (a b h : Nat → Nat) (f : Nat → Nat → Nat) (wr : va_W) (t u hh : Mem) (S : Nat → Mem) (x1 : Int32) (x2 : Int32) {r : Int32} {t9 : Mem} {u9 : Mem} {h9 : Mem} {S9 : Nat → Mem} (hf : pX4_write t u hh S x1 x2 = some (r, (t9, u9, h9, S9))) : Mi l yX4_write wsX4_write rmX4_write D ca [.ref (h 2), .int x1, .int x2] (gW a b h f ca t u hh S wr) (gW a b h f ca t9 u9 h9 S9 wr) r := by
  refine Mi_of (own := RX4) (cc := cX4_write) (nL := 3) (ty := .int) (by decide) rfl rfl rfl rfl (Nat.le_of_ble_eq_true rfl) ?_
  intro p e s m args below meth c Q A ls C0 hH hl hend
  obtain ⟨hx, hb, hml, hown, hts⟩ := id C0.1
  have hl : lv_has ls 3 [(0, .ref (h 2)), (1, .int x1), (2, .int x2)] := hl
  unfold pX4_write at hf
  refine lv_iload_n hx hb dX4_write_0 rfl (lv_at hl 1 rfl) ?_
  obtain ⟨q1, h_q1, hf⟩ := bnd hf
  refine cl_vS C0 hH hl.1 (As := [.int x1]) (rest := []) (mX4_requireBlock l D ca _ x1 h_q1) gX4_write_X4_requireBlock rfl rfl rfl hd_X4_requireBlock ⟨Nat.le_of_ble_eq_true rfl, Nat.le_of_ble_eq_true rfl⟩ ⟨Nat.zero_le _, Nat.zero_le _⟩ rfl (Nat.le_of_ble_eq_true rfl) dX4_write_1 (fun H locs hH => ?_)
  refine lv_iload_n hx hb dX4_write_4 rfl (lv_at hl 2 rfl) ?_
  refine lv_if_lt (tgt := 15) hx hb dX4_write_5 (by decide) (fun c2 => ?_) (fun c2 => ?_)
  · rw [if_pos c2] at hf
    cases hf
  · rw [if_neg c2] at hf
    refine lv_iload_n hx hb dX4_write_8 rfl (lv_at hl 2 rfl) ?_
    refine lv_sipush (v := 999) hx hb dX4_write_9 (by decide) ?_
    refine lv_icmp_le (tgt := 25) hx hb dX4_write_12 (by decide) (fun c3 => ?_) (fun c3 => ?_)
    · rw [if_pos c3] at hf
      refine lv_aload_n hx hb dX4_write_25 rfl (lv_at hl 0 rfl) ?_
      obtain ⟨q4, h_q4, hf⟩ := bnd hf
      refine cl_vV C0 hH hl.1 (As := []) (rest := []) (mX4_requirePower l D ca a b h f wr t u hh S h_q4) gX4_write_X4_requirePower rfl rfl rfl hd_X4_requirePower ⟨Nat.le_of_ble_eq_true rfl, Nat.le_of_ble_eq_true rfl⟩ ⟨Nat.zero_le _, Nat.zero_le _⟩ (vG_X4 C0 hH) rfl (Nat.le_of_ble_eq_true rfl) dX4_write_26 (fun H locs hH => ?_)
      refine lv_aload_n hx hb dX4_write_29 rfl (lv_at hl 0 rfl) ?_
      refine gG_X4_history C0 hH inX4_write_X4 (by decide +kernel : Cond.fieldLink RX4 19 "GatheringCache" "history" "LGatheringCache$History;" ∈ wsX4_write) dX4_write_30 ?_
      refine lv_aload_n hx hb dX4_write_33 rfl (lv_at hl 0 rfl) ?_
      refine gG_X4_now C0 hH inX4_write_X4 (by decide +kernel : Cond.fieldLink RX4 10 "GatheringCache" "now" "LGatheringCache$State;" ∈ wsX4_write) dX4_write_34 ?_
      obtain ⟨h5, S6, h_h5, hf⟩ := bndH hf
      refine cl_vV C0 hH hl.1 (As := [.ref (a 6)]) (rest := []) (mX0_save l D ca a b h f wr t u hh S h_h5) gX4_write_X0_save rfl rfl rfl hd_X0_save ⟨Nat.le_of_ble_eq_true rfl, Nat.le_of_ble_eq_true rfl⟩ ⟨Nat.zero_le _, Nat.zero_le _⟩ (vG_X0 C0 hH) rfl (Nat.le_of_ble_eq_true rfl) dX4_write_37 (fun H locs hH => ?_)
      refine lv_aload_n hx hb dX4_write_40 rfl (lv_at hl 0 rfl) ?_
      refine gG_X4_now C0 hH inX4_write_X4 (by decide +kernel : Cond.fieldLink RX4 10 "GatheringCache" "now" "LGatheringCache$State;" ∈ wsX4_write) dX4_write_41 ?_
      refine lv_iload_n hx hb dX4_write_44 rfl (lv_at hl 1 rfl) ?_
      refine lv_iload_n hx hb dX4_write_45 rfl (lv_at hl 2 rfl) ?_
      obtain ⟨y7, u8, h_y7, hf⟩ := bnd2 hf
      refine cl_iV C0 hH.swap hl.1 (As := [.int x1, .int x2]) (rest := []) (mX1_writeBlock l D ca a (tW b ca t ++ hW a b h f ca h5 S6 wr) u x1 x2 h_y7) gX4_write_X1_writeBlock rfl rfl rfl hd_X1_writeBlock ⟨Nat.le_of_ble_eq_true rfl, Nat.le_of_ble_eq_true rfl⟩ ⟨Nat.zero_le _, Nat.zero_le _⟩ (vS_X1 C0 hH.swap) rfl (Nat.le_of_ble_eq_true rfl) dX4_write_46 (fun H locs hH => ?_)
      have hH := hH.swap
      cases hf
      exact hend _ _ _ _ hH rfl dX4_write_49
    · rw [if_neg c3] at hf
      cases hf
def pX4_read (t : Mem) (u : Mem) (hh : Mem) (S : Nat → Mem) (x1 : Int32) : Option (Int32 × GM) :=
  (pX4_requireBlock x1).bind fun q1 =>
  (pX4_requirePower t u hh S).bind fun q2 =>
  bdH (pX0_save u hh S) fun h3 S4 =>
  bd2 (pX1_readBlock u x1) fun y5 u6 =>
  some (y5, (t, u6, h3, S4))
def rmX4_read : Room := { frames := 4, cells := 0, slots := 0, locals := 142 }
theorem hd_X4_read : yX4_read.cls = RX4 ∧ yX4_read.cls ≠ "java/lang/invoke/MethodHandle" ∧ yX4_read.cls ≠ "java/lang/invoke/VarHandle" ∧ (parseMethodDescriptor yX4_read.desc).map (fun d => d.parameters.length) = some 1 := by decide +kernel
theorem inX4_read_X4 : ∀ w ∈ wsX40, w ∈ wsX4_read := by decide +kernel
set_option maxHeartbeats 4000000 in
set_option maxRecDepth 100000 in
theorem mX4_read (l : Launch) (D : va_G) (ca : Gp) (a b h : Nat → Nat) (f : Nat → Nat → Nat) (wr : va_W) (t u hh : Mem) (S : Nat → Mem) (x1 : Int32) {r : Int32} {t9 : Mem} {u9 : Mem} {h9 : Mem} {S9 : Nat → Mem} (hf : pX4_read t u hh S x1 = some (r, (t9, u9, h9, S9))) : Mi l yX4_read wsX4_read rmX4_read D ca [.ref (h 2), .int x1] (gW a b h f ca t u hh S wr) (gW a b h f ca t9 u9 h9 S9 wr) r := by
  refine Mi_of (own := RX4) (cc := cX4_read) (nL := 2) (ty := .int) (by decide) rfl rfl rfl rfl (Nat.le_of_ble_eq_true rfl) ?_
  intro p e s m args below meth c Q A ls C0 hH hl hend
  obtain ⟨hx, hb, hml, hown, hts⟩ := id C0.1
  have hl : lv_has ls 2 [(0, .ref (h 2)), (1, .int x1)] := hl
  unfold pX4_read at hf
  refine lv_iload_n hx hb dX4_read_0 rfl (lv_at hl 1 rfl) ?_
  obtain ⟨q1, h_q1, hf⟩ := bnd hf
  refine cl_vS C0 hH hl.1 (As := [.int x1]) (rest := []) (mX4_requireBlock l D ca _ x1 h_q1) gX4_read_X4_requireBlock rfl rfl rfl hd_X4_requireBlock ⟨Nat.le_of_ble_eq_true rfl, Nat.le_of_ble_eq_true rfl⟩ ⟨Nat.zero_le _, Nat.zero_le _⟩ rfl (Nat.le_of_ble_eq_true rfl) dX4_read_1 (fun H locs hH => ?_)
  refine lv_aload_n hx hb dX4_read_4 rfl (lv_at hl 0 rfl) ?_
  obtain ⟨q2, h_q2, hf⟩ := bnd hf
  refine cl_vV C0 hH hl.1 (As := []) (rest := []) (mX4_requirePower l D ca a b h f wr t u hh S h_q2) gX4_read_X4_requirePower rfl rfl rfl hd_X4_requirePower ⟨Nat.le_of_ble_eq_true rfl, Nat.le_of_ble_eq_true rfl⟩ ⟨Nat.zero_le _, Nat.zero_le _⟩ (vG_X4 C0 hH) rfl (Nat.le_of_ble_eq_true rfl) dX4_read_5 (fun H locs hH => ?_)
  refine lv_aload_n hx hb dX4_read_8 rfl (lv_at hl 0 rfl) ?_
  refine gG_X4_history C0 hH inX4_read_X4 (by decide +kernel : Cond.fieldLink RX4 19 "GatheringCache" "history" "LGatheringCache$History;" ∈ wsX4_read) dX4_read_9 ?_
  refine lv_aload_n hx hb dX4_read_12 rfl (lv_at hl 0 rfl) ?_
  refine gG_X4_now C0 hH inX4_read_X4 (by decide +kernel : Cond.fieldLink RX4 10 "GatheringCache" "now" "LGatheringCache$State;" ∈ wsX4_read) dX4_read_13 ?_
  obtain ⟨h3, S4, h_h3, hf⟩ := bndH hf
  refine cl_vV C0 hH hl.1 (As := [.ref (a 6)]) (rest := []) (mX0_save l D ca a b h f wr t u hh S h_h3) gX4_read_X0_save rfl rfl rfl hd_X0_save ⟨Nat.le_of_ble_eq_true rfl, Nat.le_of_ble_eq_true rfl⟩ ⟨Nat.zero_le _, Nat.zero_le _⟩ (vG_X0 C0 hH) rfl (Nat.le_of_ble_eq_true rfl) dX4_read_16 (fun H locs hH => ?_)
  refine lv_aload_n hx hb dX4_read_19 rfl (lv_at hl 0 rfl) ?_
  refine gG_X4_now C0 hH inX4_read_X4 (by decide +kernel : Cond.fieldLink RX4 10 "GatheringCache" "now" "LGatheringCache$State;" ∈ wsX4_read) dX4_read_20 ?_
  refine lv_iload_n hx hb dX4_read_23 rfl (lv_at hl 1 rfl) ?_
  obtain ⟨y5, u6, h_y5, hf⟩ := bnd2 hf
  refine cl_iV C0 hH.swap hl.1 (As := [.int x1]) (rest := []) (mX1_readBlock l D ca a (tW b ca t ++ hW a b h f ca h3 S4 wr) u x1 h_y5) gX4_read_X1_readBlock rfl rfl rfl hd_X1_readBlock ⟨Nat.le_of_ble_eq_true rfl, Nat.le_of_ble_eq_true rfl⟩ ⟨Nat.zero_le _, Nat.zero_le _⟩ (vS_X1 C0 hH.swap) rfl (Nat.le_of_ble_eq_true rfl) dX4_read_24 (fun H locs hH => ?_)
  have hH := hH.swap
  cases hf
  exact hend _ _ _ _ hH rfl dX4_read_27
def pX4_requireStripe (x0 : Int32) : Option Unit :=
  if x0 < 0 then
    none
  else
    if x0 < 16 then
      some ()
    else
      none
def rmX4_requireStripe : Room := { frames := 0, cells := 0, slots := 0, locals := 0 }
theorem hd_X4_requireStripe : yX4_requireStripe.cls ≠ "java/lang/invoke/MethodHandle" ∧ yX4_requireStripe.cls ≠ "java/lang/invoke/VarHandle" ∧ (parseMethodDescriptor yX4_requireStripe.desc).map (fun d => d.parameters.length) = some 1 := by decide +kernel
set_option maxHeartbeats 4000000 in
set_option maxRecDepth 100000 in
theorem mX4_requireStripe (l : Launch) (D : va_G) (ca : Gp) (w : va_W) (x0 : Int32) (hf : pX4_requireStripe x0 = some ()) : Mv l yX4_requireStripe wsX4_requireStripe rmX4_requireStripe D ca [.int x0] (w) (w) := by
  refine Mv_of (own := RX4) (cc := cX4_requireStripe) (nL := 1) (by decide) rfl rfl rfl rfl (Nat.le_of_ble_eq_true rfl) ?_
  intro p e s m args below meth c Q A ls C0 hH hl hend
  obtain ⟨hx, hb, hml, hown, hts⟩ := id C0.1
  have hl : lv_has ls 1 [(0, .int x0)] := hl
  unfold pX4_requireStripe at hf
  refine lv_iload_n hx hb dX4_requireStripe_0 rfl (lv_at hl 0 rfl) ?_
  refine lv_if_lt (tgt := 10) hx hb dX4_requireStripe_1 (by decide) (fun c1 => ?_) (fun c1 => ?_)
  · rw [if_pos c1] at hf
    cases hf
  · rw [if_neg c1] at hf
    refine lv_iload_n hx hb dX4_requireStripe_4 rfl (lv_at hl 0 rfl) ?_
    refine lv_bipush (v := 16) hx hb dX4_requireStripe_5 (by decide) ?_
    refine lv_icmp_lt (tgt := 20) hx hb dX4_requireStripe_7 (by decide) (fun c2 => ?_) (fun c2 => ?_)
    · rw [if_pos c2] at hf
      cases hf
      exact hend _ _ _ _ hH dX4_requireStripe_20
    · rw [if_neg c2] at hf
      cases hf
def pX4_requireDestaging (t : Mem) (u : Mem) (hh : Mem) (S : Nat → Mem) : Option Unit :=
  (pX1_canDestage u).bind fun y1 =>
  if y1 = 0 then
    none
  else
    some ()
def rmX4_requireDestaging : Room := { frames := 1, cells := 0, slots := 0, locals := 20 }
theorem hd_X4_requireDestaging : yX4_requireDestaging.cls = RX4 ∧ yX4_requireDestaging.cls ≠ "java/lang/invoke/MethodHandle" ∧ yX4_requireDestaging.cls ≠ "java/lang/invoke/VarHandle" ∧ (parseMethodDescriptor yX4_requireDestaging.desc).map (fun d => d.parameters.length) = some 0 := by decide +kernel
theorem inX4_requireDestaging_X4 : ∀ w ∈ wsX40, w ∈ wsX4_requireDestaging := by decide +kernel
set_option maxHeartbeats 4000000 in
set_option maxRecDepth 100000 in
theorem mX4_requireDestaging (l : Launch) (D : va_G) (ca : Gp) (a b h : Nat → Nat) (f : Nat → Nat → Nat) (wr : va_W) (t u hh : Mem) (S : Nat → Mem) (hf : pX4_requireDestaging t u hh S = some ()) : Mv l yX4_requireDestaging wsX4_requireDestaging rmX4_requireDestaging D ca [.ref (h 2)] (gW a b h f ca t u hh S wr) (gW a b h f ca t u hh S wr) := by
  refine Mv_of (own := RX4) (cc := cX4_requireDestaging) (nL := 1) (by decide) rfl rfl rfl rfl (Nat.le_of_ble_eq_true rfl) ?_
  intro p e s m args below meth c Q A ls C0 hH hl hend
  obtain ⟨hx, hb, hml, hown, hts⟩ := id C0.1
  have hl : lv_has ls 1 [(0, .ref (h 2))] := hl
  unfold pX4_requireDestaging at hf
  refine lv_aload_n hx hb dX4_requireDestaging_0 rfl (lv_at hl 0 rfl) ?_
  refine gG_X4_now C0 hH inX4_requireDestaging_X4 (by decide +kernel : Cond.fieldLink RX4 10 "GatheringCache" "now" "LGatheringCache$State;" ∈ wsX4_requireDestaging) dX4_requireDestaging_1 ?_
  obtain ⟨y1, h_y1, hf⟩ := bnd hf
  refine cl_iV C0 hH.swap hl.1 (As := []) (rest := []) (mX1_canDestage l D ca a (tW b ca t ++ hW a b h f ca hh S wr) u h_y1) gX4_requireDestaging_X1_canDestage rfl rfl rfl hd_X1_canDestage ⟨Nat.le_of_ble_eq_true rfl, Nat.le_of_ble_eq_true rfl⟩ ⟨Nat.zero_le _, Nat.zero_le _⟩ (vS_X1 C0 hH.swap) rfl (Nat.le_of_ble_eq_true rfl) dX4_requireDestaging_4 (fun H locs hH => ?_)
  have hH := hH.swap
  refine lv_if_ne (tgt := 20) hx hb dX4_requireDestaging_7 (by decide) (fun c2 => ?_) (fun c2 => ?_)
  · rw [if_neg c2] at hf
    cases hf
    exact hend _ _ _ _ hH dX4_requireDestaging_20
  · rw [if_pos c2] at hf
    cases hf
def pX4_destage (t : Mem) (u : Mem) (hh : Mem) (S : Nat → Mem) (x1 : Int32) : Option (Int32 × GM) :=
  (pX4_requireStripe x1).bind fun q1 =>
  (pX4_requireDestaging t u hh S).bind fun q2 =>
  bdH (pX0_save u hh S) fun h3 S4 =>
  bd2 (pX1_destageStripe u x1) fun y5 u6 =>
  some (y5, (t, u6, h3, S4))
def rmX4_destage : Room := { frames := 4, cells := 0, slots := 0, locals := 142 }
theorem hd_X4_destage : yX4_destage.cls = RX4 ∧ yX4_destage.cls ≠ "java/lang/invoke/MethodHandle" ∧ yX4_destage.cls ≠ "java/lang/invoke/VarHandle" ∧ (parseMethodDescriptor yX4_destage.desc).map (fun d => d.parameters.length) = some 1 := by decide +kernel
theorem inX4_destage_X4 : ∀ w ∈ wsX40, w ∈ wsX4_destage := by decide +kernel
set_option maxHeartbeats 4000000 in
set_option maxRecDepth 100000 in
theorem mX4_destage (l : Launch) (D : va_G) (ca : Gp) (a b h : Nat → Nat) (f : Nat → Nat → Nat) (wr : va_W) (t u hh : Mem) (S : Nat → Mem) (x1 : Int32) {r : Int32} {t9 : Mem} {u9 : Mem} {h9 : Mem} {S9 : Nat → Mem} (hf : pX4_destage t u hh S x1 = some (r, (t9, u9, h9, S9))) : Mi l yX4_destage wsX4_destage rmX4_destage D ca [.ref (h 2), .int x1] (gW a b h f ca t u hh S wr) (gW a b h f ca t9 u9 h9 S9 wr) r := by
  refine Mi_of (own := RX4) (cc := cX4_destage) (nL := 2) (ty := .int) (by decide) rfl rfl rfl rfl (Nat.le_of_ble_eq_true rfl) ?_
  intro p e s m args below meth c Q A ls C0 hH hl hend
  obtain ⟨hx, hb, hml, hown, hts⟩ := id C0.1
  have hl : lv_has ls 2 [(0, .ref (h 2)), (1, .int x1)] := hl
  unfold pX4_destage at hf
  refine lv_iload_n hx hb dX4_destage_0 rfl (lv_at hl 1 rfl) ?_
  obtain ⟨q1, h_q1, hf⟩ := bnd hf
  refine cl_vS C0 hH hl.1 (As := [.int x1]) (rest := []) (mX4_requireStripe l D ca _ x1 h_q1) gX4_destage_X4_requireStripe rfl rfl rfl hd_X4_requireStripe ⟨Nat.le_of_ble_eq_true rfl, Nat.le_of_ble_eq_true rfl⟩ ⟨Nat.zero_le _, Nat.zero_le _⟩ rfl (Nat.le_of_ble_eq_true rfl) dX4_destage_1 (fun H locs hH => ?_)
  refine lv_aload_n hx hb dX4_destage_4 rfl (lv_at hl 0 rfl) ?_
  obtain ⟨q2, h_q2, hf⟩ := bnd hf
  refine cl_vV C0 hH hl.1 (As := []) (rest := []) (mX4_requireDestaging l D ca a b h f wr t u hh S h_q2) gX4_destage_X4_requireDestaging rfl rfl rfl hd_X4_requireDestaging ⟨Nat.le_of_ble_eq_true rfl, Nat.le_of_ble_eq_true rfl⟩ ⟨Nat.zero_le _, Nat.zero_le _⟩ (vG_X4 C0 hH) rfl (Nat.le_of_ble_eq_true rfl) dX4_destage_5 (fun H locs hH => ?_)
  refine lv_aload_n hx hb dX4_destage_8 rfl (lv_at hl 0 rfl) ?_
  refine gG_X4_history C0 hH inX4_destage_X4 (by decide +kernel : Cond.fieldLink RX4 19 "GatheringCache" "history" "LGatheringCache$History;" ∈ wsX4_destage) dX4_destage_9 ?_
  refine lv_aload_n hx hb dX4_destage_12 rfl (lv_at hl 0 rfl) ?_
  refine gG_X4_now C0 hH inX4_destage_X4 (by decide +kernel : Cond.fieldLink RX4 10 "GatheringCache" "now" "LGatheringCache$State;" ∈ wsX4_destage) dX4_destage_13 ?_
  obtain ⟨h3, S4, h_h3, hf⟩ := bndH hf
  refine cl_vV C0 hH hl.1 (As := [.ref (a 6)]) (rest := []) (mX0_save l D ca a b h f wr t u hh S h_h3) gX4_destage_X0_save rfl rfl rfl hd_X0_save ⟨Nat.le_of_ble_eq_true rfl, Nat.le_of_ble_eq_true rfl⟩ ⟨Nat.zero_le _, Nat.zero_le _⟩ (vG_X0 C0 hH) rfl (Nat.le_of_ble_eq_true rfl) dX4_destage_16 (fun H locs hH => ?_)
  refine lv_aload_n hx hb dX4_destage_19 rfl (lv_at hl 0 rfl) ?_
  refine gG_X4_now C0 hH inX4_destage_X4 (by decide +kernel : Cond.fieldLink RX4 10 "GatheringCache" "now" "LGatheringCache$State;" ∈ wsX4_destage) dX4_destage_20 ?_
  refine lv_iload_n hx hb dX4_destage_23 rfl (lv_at hl 1 rfl) ?_
  obtain ⟨y5, u6, h_y5, hf⟩ := bnd2 hf
  refine cl_iV C0 hH.swap hl.1 (As := [.int x1]) (rest := []) (mX1_destageStripe l D ca a (tW b ca t ++ hW a b h f ca h3 S4 wr) u x1 h_y5) gX4_destage_X1_destageStripe rfl rfl rfl hd_X1_destageStripe ⟨Nat.le_of_ble_eq_true rfl, Nat.le_of_ble_eq_true rfl⟩ ⟨Nat.zero_le _, Nat.zero_le _⟩ (vS_X1 C0 hH.swap) rfl (Nat.le_of_ble_eq_true rfl) dX4_destage_24 (fun H locs hH => ?_)
  have hH := hH.swap
  cases hf
  exact hend _ _ _ _ hH rfl dX4_destage_27
def pX4_destageAll (t : Mem) (u : Mem) (hh : Mem) (S : Nat → Mem) : Option (Int32 × GM) :=
  (pX4_requireDestaging t u hh S).bind fun q1 =>
  bdH (pX0_save u hh S) fun h2 S3 =>
  bd2 (pX1_destageStripes u) fun y4 u5 =>
  some (y4, (t, u5, h2, S3))
def rmX4_destageAll : Room := { frames := 4, cells := 0, slots := 0, locals := 142 }
theorem hd_X4_destageAll : yX4_destageAll.cls = RX4 ∧ yX4_destageAll.cls ≠ "java/lang/invoke/MethodHandle" ∧ yX4_destageAll.cls ≠ "java/lang/invoke/VarHandle" ∧ (parseMethodDescriptor yX4_destageAll.desc).map (fun d => d.parameters.length) = some 0 := by decide +kernel
theorem inX4_destageAll_X4 : ∀ w ∈ wsX40, w ∈ wsX4_destageAll := by decide +kernel
set_option maxHeartbeats 4000000 in
set_option maxRecDepth 100000 in
theorem mX4_destageAll (l : Launch) (D : va_G) (ca : Gp) (a b h : Nat → Nat) (f : Nat → Nat → Nat) (wr : va_W) (t u hh : Mem) (S : Nat → Mem) {r : Int32} {t9 : Mem} {u9 : Mem} {h9 : Mem} {S9 : Nat → Mem} (hf : pX4_destageAll t u hh S = some (r, (t9, u9, h9, S9))) : Mi l yX4_destageAll wsX4_destageAll rmX4_destageAll D ca [.ref (h 2)] (gW a b h f ca t u hh S wr) (gW a b h f ca t9 u9 h9 S9 wr) r := by
  refine Mi_of (own := RX4) (cc := cX4_destageAll) (nL := 1) (ty := .int) (by decide) rfl rfl rfl rfl (Nat.le_of_ble_eq_true rfl) ?_
  intro p e s m args below meth c Q A ls C0 hH hl hend
  obtain ⟨hx, hb, hml, hown, hts⟩ := id C0.1
  have hl : lv_has ls 1 [(0, .ref (h 2))] := hl
  unfold pX4_destageAll at hf
  refine lv_aload_n hx hb dX4_destageAll_0 rfl (lv_at hl 0 rfl) ?_
  obtain ⟨q1, h_q1, hf⟩ := bnd hf
  refine cl_vV C0 hH hl.1 (As := []) (rest := []) (mX4_requireDestaging l D ca a b h f wr t u hh S h_q1) gX4_destageAll_X4_requireDestaging rfl rfl rfl hd_X4_requireDestaging ⟨Nat.le_of_ble_eq_true rfl, Nat.le_of_ble_eq_true rfl⟩ ⟨Nat.zero_le _, Nat.zero_le _⟩ (vG_X4 C0 hH) rfl (Nat.le_of_ble_eq_true rfl) dX4_destageAll_1 (fun H locs hH => ?_)
  refine lv_aload_n hx hb dX4_destageAll_4 rfl (lv_at hl 0 rfl) ?_
  refine gG_X4_history C0 hH inX4_destageAll_X4 (by decide +kernel : Cond.fieldLink RX4 19 "GatheringCache" "history" "LGatheringCache$History;" ∈ wsX4_destageAll) dX4_destageAll_5 ?_
  refine lv_aload_n hx hb dX4_destageAll_8 rfl (lv_at hl 0 rfl) ?_
  refine gG_X4_now C0 hH inX4_destageAll_X4 (by decide +kernel : Cond.fieldLink RX4 10 "GatheringCache" "now" "LGatheringCache$State;" ∈ wsX4_destageAll) dX4_destageAll_9 ?_
  obtain ⟨h2, S3, h_h2, hf⟩ := bndH hf
  refine cl_vV C0 hH hl.1 (As := [.ref (a 6)]) (rest := []) (mX0_save l D ca a b h f wr t u hh S h_h2) gX4_destageAll_X0_save rfl rfl rfl hd_X0_save ⟨Nat.le_of_ble_eq_true rfl, Nat.le_of_ble_eq_true rfl⟩ ⟨Nat.zero_le _, Nat.zero_le _⟩ (vG_X0 C0 hH) rfl (Nat.le_of_ble_eq_true rfl) dX4_destageAll_12 (fun H locs hH => ?_)
  refine lv_aload_n hx hb dX4_destageAll_15 rfl (lv_at hl 0 rfl) ?_
  refine gG_X4_now C0 hH inX4_destageAll_X4 (by decide +kernel : Cond.fieldLink RX4 10 "GatheringCache" "now" "LGatheringCache$State;" ∈ wsX4_destageAll) dX4_destageAll_16 ?_
  obtain ⟨y4, u5, h_y4, hf⟩ := bnd2 hf
  refine cl_iV C0 hH.swap hl.1 (As := []) (rest := []) (mX1_destageStripes l D ca a (tW b ca t ++ hW a b h f ca h2 S3 wr) u h_y4) gX4_destageAll_X1_destageStripes rfl rfl rfl hd_X1_destageStripes ⟨Nat.le_of_ble_eq_true rfl, Nat.le_of_ble_eq_true rfl⟩ ⟨Nat.zero_le _, Nat.zero_le _⟩ (vS_X1 C0 hH.swap) rfl (Nat.le_of_ble_eq_true rfl) dX4_destageAll_19 (fun H locs hH => ?_)
  have hH := hH.swap
  cases hf
  exact hend _ _ _ _ hH rfl dX4_destageAll_22
def pX4_pass (t : Mem) (u : Mem) (hh : Mem) (S : Nat → Mem) (x1 : Int32) : Option (Int32 × GM) :=
  if x1 < 1 then
    none
  else
    if x1 ≤ 99 then
      bdH (pX0_save u hh S) fun h3 S4 =>
      (pX1_letPass u x1).bind fun u5 =>
      some ((u5 0 2), (t, u5, h3, S4))
    else
      none
def rmX4_pass : Room := { frames := 4, cells := 0, slots := 0, locals := 142 }
theorem hd_X4_pass : yX4_pass.cls = RX4 ∧ yX4_pass.cls ≠ "java/lang/invoke/MethodHandle" ∧ yX4_pass.cls ≠ "java/lang/invoke/VarHandle" ∧ (parseMethodDescriptor yX4_pass.desc).map (fun d => d.parameters.length) = some 1 := by decide +kernel
theorem inX4_pass_X1 : ∀ w ∈ wsX10, w ∈ wsX4_pass := by decide +kernel
theorem inX4_pass_X2 : ∀ w ∈ wsX20, w ∈ wsX4_pass := by decide +kernel
theorem inX4_pass_X4 : ∀ w ∈ wsX40, w ∈ wsX4_pass := by decide +kernel
set_option maxHeartbeats 4000000 in
set_option maxRecDepth 100000 in
theorem mX4_pass (l : Launch) (D : va_G) (ca : Gp) (a b h : Nat → Nat) (f : Nat → Nat → Nat) (wr : va_W) (t u hh : Mem) (S : Nat → Mem) (x1 : Int32) {r : Int32} {t9 : Mem} {u9 : Mem} {h9 : Mem} {S9 : Nat → Mem} (hf : pX4_pass t u hh S x1 = some (r, (t9, u9, h9, S9))) : Mi l yX4_pass wsX4_pass rmX4_pass D ca [.ref (h 2), .int x1] (gW a b h f ca t u hh S wr) (gW a b h f ca t9 u9 h9 S9 wr) r := by
  refine Mi_of (own := RX4) (cc := cX4_pass) (nL := 2) (ty := .int) (by decide) rfl rfl rfl rfl (Nat.le_of_ble_eq_true rfl) ?_
  intro p e s m args below meth c Q A ls C0 hH hl hend
  obtain ⟨hx, hb, hml, hown, hts⟩ := id C0.1
  have hl : lv_has ls 2 [(0, .ref (h 2)), (1, .int x1)] := hl
  unfold pX4_pass at hf
  refine lv_iload_n hx hb dX4_pass_0 rfl (lv_at hl 1 rfl) ?_
  refine lv_iconst (v := 1) hx hb dX4_pass_1 (by decide) ?_
  refine lv_icmp_lt (tgt := 11) hx hb dX4_pass_2 (by decide) (fun c1 => ?_) (fun c1 => ?_)
  · rw [if_pos c1] at hf
    cases hf
  · rw [if_neg c1] at hf
    refine lv_iload_n hx hb dX4_pass_5 rfl (lv_at hl 1 rfl) ?_
    refine lv_bipush (v := 99) hx hb dX4_pass_6 (by decide) ?_
    refine lv_icmp_le (tgt := 21) hx hb dX4_pass_8 (by decide) (fun c2 => ?_) (fun c2 => ?_)
    · rw [if_pos c2] at hf
      refine lv_aload_n hx hb dX4_pass_21 rfl (lv_at hl 0 rfl) ?_
      refine gG_X4_history C0 hH inX4_pass_X4 (by decide +kernel : Cond.fieldLink RX4 19 "GatheringCache" "history" "LGatheringCache$History;" ∈ wsX4_pass) dX4_pass_22 ?_
      refine lv_aload_n hx hb dX4_pass_25 rfl (lv_at hl 0 rfl) ?_
      refine gG_X4_now C0 hH inX4_pass_X4 (by decide +kernel : Cond.fieldLink RX4 10 "GatheringCache" "now" "LGatheringCache$State;" ∈ wsX4_pass) dX4_pass_26 ?_
      obtain ⟨h3, S4, h_h3, hf⟩ := bndH hf
      refine cl_vV C0 hH hl.1 (As := [.ref (a 6)]) (rest := []) (mX0_save l D ca a b h f wr t u hh S h_h3) gX4_pass_X0_save rfl rfl rfl hd_X0_save ⟨Nat.le_of_ble_eq_true rfl, Nat.le_of_ble_eq_true rfl⟩ ⟨Nat.zero_le _, Nat.zero_le _⟩ (vG_X0 C0 hH) rfl (Nat.le_of_ble_eq_true rfl) dX4_pass_29 (fun H locs hH => ?_)
      refine lv_aload_n hx hb dX4_pass_32 rfl (lv_at hl 0 rfl) ?_
      refine gG_X4_now C0 hH inX4_pass_X4 (by decide +kernel : Cond.fieldLink RX4 10 "GatheringCache" "now" "LGatheringCache$State;" ∈ wsX4_pass) dX4_pass_33 ?_
      refine lv_iload_n hx hb dX4_pass_36 rfl (lv_at hl 1 rfl) ?_
      obtain ⟨u5, h_u5, hf⟩ := bnd hf
      refine cl_vV C0 hH.swap hl.1 (As := [.int x1]) (rest := []) (mX1_letPass l D ca a (tW b ca t ++ hW a b h f ca h3 S4 wr) u x1 h_u5) gX4_pass_X1_letPass rfl rfl rfl hd_X1_letPass ⟨Nat.le_of_ble_eq_true rfl, Nat.le_of_ble_eq_true rfl⟩ ⟨Nat.zero_le _, Nat.zero_le _⟩ (vS_X1 C0 hH.swap) rfl (Nat.le_of_ble_eq_true rfl) dX4_pass_37 (fun H locs hH => ?_)
      have hH := hH.swap
      refine lv_aload_n hx hb dX4_pass_40 rfl (lv_at hl 0 rfl) ?_
      refine gG_X4_now C0 hH inX4_pass_X4 (by decide +kernel : Cond.fieldLink RX4 10 "GatheringCache" "now" "LGatheringCache$State;" ∈ wsX4_pass) dX4_pass_41 ?_
      refine gS_X1_stick C0 hH.swap inX4_pass_X1 (by decide +kernel : Cond.fieldLink RX4 74 "GatheringCache$State" "stick" "LGatheringCache$Stick;" ∈ wsX4_pass) dX4_pass_44 ?_
      refine gS_X2_charge C0 hH.swap inX4_pass_X2 (by decide +kernel : Cond.fieldLink RX4 78 "GatheringCache$Stick" "charge" "I" ∈ wsX4_pass) dX4_pass_47 ?_
      cases hf
      exact hend _ _ _ _ hH rfl dX4_pass_50
    · rw [if_neg c2] at hf
      cases hf
def pX4_setLimit (t : Mem) (u : Mem) (hh : Mem) (S : Nat → Mem) (x1 : Int32) : Option (Int32 × GM) :=
  if x1 < 1 then
    none
  else
    if x1 ≤ 100 then
      bdH (pX0_save u hh S) fun h3 S4 =>
      (pX2_limitTo u x1).bind fun u5 =>
      some ((u5 0 2), (t, u5, h3, S4))
    else
      none
def rmX4_setLimit : Room := { frames := 4, cells := 0, slots := 0, locals := 142 }
theorem hd_X4_setLimit : yX4_setLimit.cls = RX4 ∧ yX4_setLimit.cls ≠ "java/lang/invoke/MethodHandle" ∧ yX4_setLimit.cls ≠ "java/lang/invoke/VarHandle" ∧ (parseMethodDescriptor yX4_setLimit.desc).map (fun d => d.parameters.length) = some 1 := by decide +kernel
theorem inX4_setLimit_X1 : ∀ w ∈ wsX10, w ∈ wsX4_setLimit := by decide +kernel
theorem inX4_setLimit_X2 : ∀ w ∈ wsX20, w ∈ wsX4_setLimit := by decide +kernel
theorem inX4_setLimit_X4 : ∀ w ∈ wsX40, w ∈ wsX4_setLimit := by decide +kernel
set_option maxHeartbeats 4000000 in
set_option maxRecDepth 100000 in
theorem mX4_setLimit (l : Launch) (D : va_G) (ca : Gp) (a b h : Nat → Nat) (f : Nat → Nat → Nat) (wr : va_W) (t u hh : Mem) (S : Nat → Mem) (x1 : Int32) {r : Int32} {t9 : Mem} {u9 : Mem} {h9 : Mem} {S9 : Nat → Mem} (hf : pX4_setLimit t u hh S x1 = some (r, (t9, u9, h9, S9))) : Mi l yX4_setLimit wsX4_setLimit rmX4_setLimit D ca [.ref (h 2), .int x1] (gW a b h f ca t u hh S wr) (gW a b h f ca t9 u9 h9 S9 wr) r := by
  refine Mi_of (own := RX4) (cc := cX4_setLimit) (nL := 2) (ty := .int) (by decide) rfl rfl rfl rfl (Nat.le_of_ble_eq_true rfl) ?_
  intro p e s m args below meth c Q A ls C0 hH hl hend
  obtain ⟨hx, hb, hml, hown, hts⟩ := id C0.1
  have hl : lv_has ls 2 [(0, .ref (h 2)), (1, .int x1)] := hl
  unfold pX4_setLimit at hf
  refine lv_iload_n hx hb dX4_setLimit_0 rfl (lv_at hl 1 rfl) ?_
  refine lv_iconst (v := 1) hx hb dX4_setLimit_1 (by decide) ?_
  refine lv_icmp_lt (tgt := 11) hx hb dX4_setLimit_2 (by decide) (fun c1 => ?_) (fun c1 => ?_)
  · rw [if_pos c1] at hf
    cases hf
  · rw [if_neg c1] at hf
    refine lv_iload_n hx hb dX4_setLimit_5 rfl (lv_at hl 1 rfl) ?_
    refine lv_bipush (v := 100) hx hb dX4_setLimit_6 (by decide) ?_
    refine lv_icmp_le (tgt := 21) hx hb dX4_setLimit_8 (by decide) (fun c2 => ?_) (fun c2 => ?_)
    · rw [if_pos c2] at hf
      refine lv_aload_n hx hb dX4_setLimit_21 rfl (lv_at hl 0 rfl) ?_
      refine gG_X4_history C0 hH inX4_setLimit_X4 (by decide +kernel : Cond.fieldLink RX4 19 "GatheringCache" "history" "LGatheringCache$History;" ∈ wsX4_setLimit) dX4_setLimit_22 ?_
      refine lv_aload_n hx hb dX4_setLimit_25 rfl (lv_at hl 0 rfl) ?_
      refine gG_X4_now C0 hH inX4_setLimit_X4 (by decide +kernel : Cond.fieldLink RX4 10 "GatheringCache" "now" "LGatheringCache$State;" ∈ wsX4_setLimit) dX4_setLimit_26 ?_
      obtain ⟨h3, S4, h_h3, hf⟩ := bndH hf
      refine cl_vV C0 hH hl.1 (As := [.ref (a 6)]) (rest := []) (mX0_save l D ca a b h f wr t u hh S h_h3) gX4_setLimit_X0_save rfl rfl rfl hd_X0_save ⟨Nat.le_of_ble_eq_true rfl, Nat.le_of_ble_eq_true rfl⟩ ⟨Nat.zero_le _, Nat.zero_le _⟩ (vG_X0 C0 hH) rfl (Nat.le_of_ble_eq_true rfl) dX4_setLimit_29 (fun H locs hH => ?_)
      refine lv_aload_n hx hb dX4_setLimit_32 rfl (lv_at hl 0 rfl) ?_
      refine gG_X4_now C0 hH inX4_setLimit_X4 (by decide +kernel : Cond.fieldLink RX4 10 "GatheringCache" "now" "LGatheringCache$State;" ∈ wsX4_setLimit) dX4_setLimit_33 ?_
      refine gS_X1_stick C0 hH.swap inX4_setLimit_X1 (by decide +kernel : Cond.fieldLink RX4 74 "GatheringCache$State" "stick" "LGatheringCache$Stick;" ∈ wsX4_setLimit) dX4_setLimit_36 ?_
      refine lv_iload_n hx hb dX4_setLimit_39 rfl (lv_at hl 1 rfl) ?_
      obtain ⟨u5, h_u5, hf⟩ := bnd hf
      refine cl_vV C0 hH.swap hl.1 (As := [.int x1]) (rest := []) (mX2_limitTo l D ca a (tW b ca t ++ hW a b h f ca h3 S4 wr) u x1 h_u5) gX4_setLimit_X2_limitTo rfl rfl rfl hd_X2_limitTo ⟨Nat.le_of_ble_eq_true rfl, Nat.le_of_ble_eq_true rfl⟩ ⟨Nat.zero_le _, Nat.zero_le _⟩ (vS_X2 C0 hH.swap) rfl (Nat.le_of_ble_eq_true rfl) dX4_setLimit_40 (fun H locs hH => ?_)
      have hH := hH.swap
      refine lv_aload_n hx hb dX4_setLimit_43 rfl (lv_at hl 0 rfl) ?_
      refine gG_X4_now C0 hH inX4_setLimit_X4 (by decide +kernel : Cond.fieldLink RX4 10 "GatheringCache" "now" "LGatheringCache$State;" ∈ wsX4_setLimit) dX4_setLimit_44 ?_
      refine gS_X1_stick C0 hH.swap inX4_setLimit_X1 (by decide +kernel : Cond.fieldLink RX4 74 "GatheringCache$State" "stick" "LGatheringCache$Stick;" ∈ wsX4_setLimit) dX4_setLimit_47 ?_
      refine gS_X2_charge C0 hH.swap inX4_setLimit_X2 (by decide +kernel : Cond.fieldLink RX4 78 "GatheringCache$Stick" "charge" "I" ∈ wsX4_setLimit) dX4_setLimit_50 ?_
      cases hf
      exact hend _ _ _ _ hH rfl dX4_setLimit_53
    · rw [if_neg c2] at hf
      cases hf
def pX4_power (t : Mem) (u : Mem) (hh : Mem) (S : Nat → Mem) (x1 : Int32) : Option (Int32 × GM) :=
  bdH (pX0_save u hh S) fun h1 S2 =>
  bd2 (pX1_switchPower u x1) fun y3 u4 =>
  some (y3, (t, u4, h1, S2))
def rmX4_power : Room := { frames := 5, cells := 0, slots := 0, locals := 142 }
theorem hd_X4_power : yX4_power.cls = RX4 ∧ yX4_power.cls ≠ "java/lang/invoke/MethodHandle" ∧ yX4_power.cls ≠ "java/lang/invoke/VarHandle" ∧ (parseMethodDescriptor yX4_power.desc).map (fun d => d.parameters.length) = some 1 := by decide +kernel
theorem inX4_power_X4 : ∀ w ∈ wsX40, w ∈ wsX4_power := by decide +kernel
set_option maxHeartbeats 4000000 in
set_option maxRecDepth 100000 in
theorem mX4_power (l : Launch) (D : va_G) (ca : Gp) (a b h : Nat → Nat) (f : Nat → Nat → Nat) (wr : va_W) (t u hh : Mem) (S : Nat → Mem) (x1 : Int32) {r : Int32} {t9 : Mem} {u9 : Mem} {h9 : Mem} {S9 : Nat → Mem} (hf : pX4_power t u hh S x1 = some (r, (t9, u9, h9, S9))) : Mi l yX4_power wsX4_power rmX4_power D ca [.ref (h 2), .int x1] (gW a b h f ca t u hh S wr) (gW a b h f ca t9 u9 h9 S9 wr) r := by
  refine Mi_of (own := RX4) (cc := cX4_power) (nL := 2) (ty := .int) (by decide) rfl rfl rfl rfl (Nat.le_of_ble_eq_true rfl) ?_
  intro p e s m args below meth c Q A ls C0 hH hl hend
  obtain ⟨hx, hb, hml, hown, hts⟩ := id C0.1
  have hl : lv_has ls 2 [(0, .ref (h 2)), (1, .int x1)] := hl
  unfold pX4_power at hf
  refine lv_aload_n hx hb dX4_power_0 rfl (lv_at hl 0 rfl) ?_
  refine gG_X4_history C0 hH inX4_power_X4 (by decide +kernel : Cond.fieldLink RX4 19 "GatheringCache" "history" "LGatheringCache$History;" ∈ wsX4_power) dX4_power_1 ?_
  refine lv_aload_n hx hb dX4_power_4 rfl (lv_at hl 0 rfl) ?_
  refine gG_X4_now C0 hH inX4_power_X4 (by decide +kernel : Cond.fieldLink RX4 10 "GatheringCache" "now" "LGatheringCache$State;" ∈ wsX4_power) dX4_power_5 ?_
  obtain ⟨h1, S2, h_h1, hf⟩ := bndH hf
  refine cl_vV C0 hH hl.1 (As := [.ref (a 6)]) (rest := []) (mX0_save l D ca a b h f wr t u hh S h_h1) gX4_power_X0_save rfl rfl rfl hd_X0_save ⟨Nat.le_of_ble_eq_true rfl, Nat.le_of_ble_eq_true rfl⟩ ⟨Nat.zero_le _, Nat.zero_le _⟩ (vG_X0 C0 hH) rfl (Nat.le_of_ble_eq_true rfl) dX4_power_8 (fun H locs hH => ?_)
  refine lv_aload_n hx hb dX4_power_11 rfl (lv_at hl 0 rfl) ?_
  refine gG_X4_now C0 hH inX4_power_X4 (by decide +kernel : Cond.fieldLink RX4 10 "GatheringCache" "now" "LGatheringCache$State;" ∈ wsX4_power) dX4_power_12 ?_
  refine lv_iload_n hx hb dX4_power_15 rfl (lv_at hl 1 rfl) ?_
  obtain ⟨y3, u4, h_y3, hf⟩ := bnd2 hf
  refine cl_iV C0 hH.swap hl.1 (As := [.int x1]) (rest := []) (mX1_switchPower l D ca a (tW b ca t ++ hW a b h f ca h1 S2 wr) u x1 h_y3) gX4_power_X1_switchPower rfl rfl rfl hd_X1_switchPower ⟨Nat.le_of_ble_eq_true rfl, Nat.le_of_ble_eq_true rfl⟩ ⟨Nat.zero_le _, Nat.zero_le _⟩ (vS_X1 C0 hH.swap) rfl (Nat.le_of_ble_eq_true rfl) dX4_power_16 (fun H locs hH => ?_)
  have hH := hH.swap
  cases hf
  exact hend _ _ _ _ hH rfl dX4_power_19
def pX4_moveStick (t : Mem) (u : Mem) (hh : Mem) (S : Nat → Mem) (x1 : Int32) : Option (Int32 × GM) :=
  if (u 6 1) = 0 then
    bdH (pX0_save u hh S) fun h2 S3 =>
    bd2 (pX1_placeStick u x1) fun y4 u5 =>
    some (y4, (t, u5, h2, S3))
  else
    none
def rmX4_moveStick : Room := { frames := 4, cells := 0, slots := 0, locals := 142 }
theorem hd_X4_moveStick : yX4_moveStick.cls = RX4 ∧ yX4_moveStick.cls ≠ "java/lang/invoke/MethodHandle" ∧ yX4_moveStick.cls ≠ "java/lang/invoke/VarHandle" ∧ (parseMethodDescriptor yX4_moveStick.desc).map (fun d => d.parameters.length) = some 1 := by decide +kernel
theorem inX4_moveStick_X1 : ∀ w ∈ wsX10, w ∈ wsX4_moveStick := by decide +kernel
theorem inX4_moveStick_X4 : ∀ w ∈ wsX40, w ∈ wsX4_moveStick := by decide +kernel
set_option maxHeartbeats 4000000 in
set_option maxRecDepth 100000 in
theorem mX4_moveStick (l : Launch) (D : va_G) (ca : Gp) (a b h : Nat → Nat) (f : Nat → Nat → Nat) (wr : va_W) (t u hh : Mem) (S : Nat → Mem) (x1 : Int32) {r : Int32} {t9 : Mem} {u9 : Mem} {h9 : Mem} {S9 : Nat → Mem} (hf : pX4_moveStick t u hh S x1 = some (r, (t9, u9, h9, S9))) : Mi l yX4_moveStick wsX4_moveStick rmX4_moveStick D ca [.ref (h 2), .int x1] (gW a b h f ca t u hh S wr) (gW a b h f ca t9 u9 h9 S9 wr) r := by
  refine Mi_of (own := RX4) (cc := cX4_moveStick) (nL := 2) (ty := .int) (by decide) rfl rfl rfl rfl (Nat.le_of_ble_eq_true rfl) ?_
  intro p e s m args below meth c Q A ls C0 hH hl hend
  obtain ⟨hx, hb, hml, hown, hts⟩ := id C0.1
  have hl : lv_has ls 2 [(0, .ref (h 2)), (1, .int x1)] := hl
  unfold pX4_moveStick at hf
  refine lv_aload_n hx hb dX4_moveStick_0 rfl (lv_at hl 0 rfl) ?_
  refine gG_X4_now C0 hH inX4_moveStick_X4 (by decide +kernel : Cond.fieldLink RX4 10 "GatheringCache" "now" "LGatheringCache$State;" ∈ wsX4_moveStick) dX4_moveStick_1 ?_
  refine gS_X1_on C0 hH.swap inX4_moveStick_X1 (by decide +kernel : Cond.fieldLink RX4 93 "GatheringCache$State" "on" "Z" ∈ wsX4_moveStick) dX4_moveStick_4 ?_
  refine lv_if_eq (tgt := 20) hx hb dX4_moveStick_7 (by decide) (fun c1 => ?_) (fun c1 => ?_)
  · rw [if_pos c1] at hf
    refine lv_aload_n hx hb dX4_moveStick_20 rfl (lv_at hl 0 rfl) ?_
    refine gG_X4_history C0 hH inX4_moveStick_X4 (by decide +kernel : Cond.fieldLink RX4 19 "GatheringCache" "history" "LGatheringCache$History;" ∈ wsX4_moveStick) dX4_moveStick_21 ?_
    refine lv_aload_n hx hb dX4_moveStick_24 rfl (lv_at hl 0 rfl) ?_
    refine gG_X4_now C0 hH inX4_moveStick_X4 (by decide +kernel : Cond.fieldLink RX4 10 "GatheringCache" "now" "LGatheringCache$State;" ∈ wsX4_moveStick) dX4_moveStick_25 ?_
    obtain ⟨h2, S3, h_h2, hf⟩ := bndH hf
    refine cl_vV C0 hH hl.1 (As := [.ref (a 6)]) (rest := []) (mX0_save l D ca a b h f wr t u hh S h_h2) gX4_moveStick_X0_save rfl rfl rfl hd_X0_save ⟨Nat.le_of_ble_eq_true rfl, Nat.le_of_ble_eq_true rfl⟩ ⟨Nat.zero_le _, Nat.zero_le _⟩ (vG_X0 C0 hH) rfl (Nat.le_of_ble_eq_true rfl) dX4_moveStick_28 (fun H locs hH => ?_)
    refine lv_aload_n hx hb dX4_moveStick_31 rfl (lv_at hl 0 rfl) ?_
    refine gG_X4_now C0 hH inX4_moveStick_X4 (by decide +kernel : Cond.fieldLink RX4 10 "GatheringCache" "now" "LGatheringCache$State;" ∈ wsX4_moveStick) dX4_moveStick_32 ?_
    refine lv_iload_n hx hb dX4_moveStick_35 rfl (lv_at hl 1 rfl) ?_
    obtain ⟨y4, u5, h_y4, hf⟩ := bnd2 hf
    refine cl_iV C0 hH.swap hl.1 (As := [.int x1]) (rest := []) (mX1_placeStick l D ca a (tW b ca t ++ hW a b h f ca h2 S3 wr) u x1 h_y4) gX4_moveStick_X1_placeStick rfl rfl rfl hd_X1_placeStick ⟨Nat.le_of_ble_eq_true rfl, Nat.le_of_ble_eq_true rfl⟩ ⟨Nat.zero_le _, Nat.zero_le _⟩ (vS_X1 C0 hH.swap) rfl (Nat.le_of_ble_eq_true rfl) dX4_moveStick_36 (fun H locs hH => ?_)
    have hH := hH.swap
    cases hf
    exact hend _ _ _ _ hH rfl dX4_moveStick_39
  · rw [if_neg c1] at hf
    cases hf
def pX4_undo (t : Mem) (u : Mem) (hh : Mem) (S : Nat → Mem) : Option (Int32 × GM) :=
  if (hh 0 0) = 0 then
    none
  else
    bdM (pX0_restore u hh S) fun u2 h3 =>
    some ((h3 0 0), (t, u2, h3, S))
def rmX4_undo : Room := { frames := 4, cells := 0, slots := 0, locals := 142 }
theorem hd_X4_undo : yX4_undo.cls = RX4 ∧ yX4_undo.cls ≠ "java/lang/invoke/MethodHandle" ∧ yX4_undo.cls ≠ "java/lang/invoke/VarHandle" ∧ (parseMethodDescriptor yX4_undo.desc).map (fun d => d.parameters.length) = some 0 := by decide +kernel
theorem inX4_undo_X0 : ∀ w ∈ wsX00, w ∈ wsX4_undo := by decide +kernel
theorem inX4_undo_X4 : ∀ w ∈ wsX40, w ∈ wsX4_undo := by decide +kernel
set_option maxHeartbeats 4000000 in
set_option maxRecDepth 100000 in
theorem mX4_undo (l : Launch) (D : va_G) (ca : Gp) (a b h : Nat → Nat) (f : Nat → Nat → Nat) (wr : va_W) (t u hh : Mem) (S : Nat → Mem) {r : Int32} {t9 : Mem} {u9 : Mem} {h9 : Mem} {S9 : Nat → Mem} (hf : pX4_undo t u hh S = some (r, (t9, u9, h9, S9))) : Mi l yX4_undo wsX4_undo rmX4_undo D ca [.ref (h 2)] (gW a b h f ca t u hh S wr) (gW a b h f ca t9 u9 h9 S9 wr) r := by
  refine Mi_of (own := RX4) (cc := cX4_undo) (nL := 1) (ty := .int) (by decide) rfl rfl rfl rfl (Nat.le_of_ble_eq_true rfl) ?_
  intro p e s m args below meth c Q A ls C0 hH hl hend
  obtain ⟨hx, hb, hml, hown, hts⟩ := id C0.1
  have hl : lv_has ls 1 [(0, .ref (h 2))] := hl
  unfold pX4_undo at hf
  refine lv_aload_n hx hb dX4_undo_0 rfl (lv_at hl 0 rfl) ?_
  refine gG_X4_history C0 hH inX4_undo_X4 (by decide +kernel : Cond.fieldLink RX4 19 "GatheringCache" "history" "LGatheringCache$History;" ∈ wsX4_undo) dX4_undo_1 ?_
  refine gG_X0_size C0 hH inX4_undo_X0 (by decide +kernel : Cond.fieldLink RX4 135 "GatheringCache$History" "size" "I" ∈ wsX4_undo) dX4_undo_4 ?_
  refine lv_if_ne (tgt := 20) hx hb dX4_undo_7 (by decide) (fun c1 => ?_) (fun c1 => ?_)
  · rw [if_neg c1] at hf
    refine lv_aload_n hx hb dX4_undo_20 rfl (lv_at hl 0 rfl) ?_
    refine gG_X4_history C0 hH inX4_undo_X4 (by decide +kernel : Cond.fieldLink RX4 19 "GatheringCache" "history" "LGatheringCache$History;" ∈ wsX4_undo) dX4_undo_21 ?_
    refine lv_aload_n hx hb dX4_undo_24 rfl (lv_at hl 0 rfl) ?_
    refine gG_X4_now C0 hH inX4_undo_X4 (by decide +kernel : Cond.fieldLink RX4 10 "GatheringCache" "now" "LGatheringCache$State;" ∈ wsX4_undo) dX4_undo_25 ?_
    obtain ⟨u2, h3, h_u2, hf⟩ := bndM hf
    refine cl_vV C0 hH hl.1 (As := [.ref (a 6)]) (rest := []) (mX0_restore l D ca a b h f wr t u hh S h_u2) gX4_undo_X0_restore rfl rfl rfl hd_X0_restore ⟨Nat.le_of_ble_eq_true rfl, Nat.le_of_ble_eq_true rfl⟩ ⟨Nat.zero_le _, Nat.zero_le _⟩ (vG_X0 C0 hH) rfl (Nat.le_of_ble_eq_true rfl) dX4_undo_28 (fun H locs hH => ?_)
    refine lv_aload_n hx hb dX4_undo_31 rfl (lv_at hl 0 rfl) ?_
    refine gG_X4_history C0 hH inX4_undo_X4 (by decide +kernel : Cond.fieldLink RX4 19 "GatheringCache" "history" "LGatheringCache$History;" ∈ wsX4_undo) dX4_undo_32 ?_
    refine gG_X0_size C0 hH inX4_undo_X0 (by decide +kernel : Cond.fieldLink RX4 135 "GatheringCache$History" "size" "I" ∈ wsX4_undo) dX4_undo_35 ?_
    cases hf
    exact hend _ _ _ _ hH rfl dX4_undo_38
  · rw [if_pos c1] at hf
    cases hf
def pX4_isOn (t : Mem) (u : Mem) (hh : Mem) (S : Nat → Mem) : Option Int32 :=
  if isz (u 6 1) = true then some (u 6 1) else none
def rmX4_isOn : Room := { frames := 0, cells := 0, slots := 0, locals := 0 }
theorem hd_X4_isOn : yX4_isOn.cls = RX4 ∧ yX4_isOn.cls ≠ "java/lang/invoke/MethodHandle" ∧ yX4_isOn.cls ≠ "java/lang/invoke/VarHandle" ∧ (parseMethodDescriptor yX4_isOn.desc).map (fun d => d.parameters.length) = some 0 := by decide +kernel
theorem inX4_isOn_X1 : ∀ w ∈ wsX10, w ∈ wsX4_isOn := by decide +kernel
theorem inX4_isOn_X4 : ∀ w ∈ wsX40, w ∈ wsX4_isOn := by decide +kernel
set_option maxHeartbeats 4000000 in
set_option maxRecDepth 100000 in
theorem mX4_isOn (l : Launch) (D : va_G) (ca : Gp) (a b h : Nat → Nat) (f : Nat → Nat → Nat) (wr : va_W) (t u hh : Mem) (S : Nat → Mem) {r : Int32} (hf : pX4_isOn t u hh S = some r) : Mi l yX4_isOn wsX4_isOn rmX4_isOn D ca [.ref (h 2)] (gW a b h f ca t u hh S wr) (gW a b h f ca t u hh S wr) r := by
  refine Mi_of (own := RX4) (cc := cX4_isOn) (nL := 1) (ty := .boolean) (by decide) rfl rfl rfl rfl (Nat.le_of_ble_eq_true rfl) ?_
  intro p e s m args below meth c Q A ls C0 hH hl hend
  obtain ⟨hx, hb, hml, hown, hts⟩ := id C0.1
  have hl : lv_has ls 1 [(0, .ref (h 2))] := hl
  unfold pX4_isOn at hf
  refine lv_aload_n hx hb dX4_isOn_0 rfl (lv_at hl 0 rfl) ?_
  refine gG_X4_now C0 hH inX4_isOn_X4 (by decide +kernel : Cond.fieldLink RX4 10 "GatheringCache" "now" "LGatheringCache$State;" ∈ wsX4_isOn) dX4_isOn_1 ?_
  refine gS_X1_on C0 hH.swap inX4_isOn_X1 (by decide +kernel : Cond.fieldLink RX4 93 "GatheringCache$State" "on" "Z" ∈ wsX4_isOn) dX4_isOn_4 ?_
  obtain ⟨hz, hf⟩ := gd hf
  cases hf
  exact hend _ _ _ _ hH (isz_n hz) dX4_isOn_7
def pX4_isIn (t : Mem) (u : Mem) (hh : Mem) (S : Nat → Mem) : Option Int32 :=
  if isz (u 0 3) = true then some (u 0 3) else none
def rmX4_isIn : Room := { frames := 0, cells := 0, slots := 0, locals := 0 }
theorem hd_X4_isIn : yX4_isIn.cls = RX4 ∧ yX4_isIn.cls ≠ "java/lang/invoke/MethodHandle" ∧ yX4_isIn.cls ≠ "java/lang/invoke/VarHandle" ∧ (parseMethodDescriptor yX4_isIn.desc).map (fun d => d.parameters.length) = some 0 := by decide +kernel
theorem inX4_isIn_X1 : ∀ w ∈ wsX10, w ∈ wsX4_isIn := by decide +kernel
theorem inX4_isIn_X2 : ∀ w ∈ wsX20, w ∈ wsX4_isIn := by decide +kernel
theorem inX4_isIn_X4 : ∀ w ∈ wsX40, w ∈ wsX4_isIn := by decide +kernel
set_option maxHeartbeats 4000000 in
set_option maxRecDepth 100000 in
theorem mX4_isIn (l : Launch) (D : va_G) (ca : Gp) (a b h : Nat → Nat) (f : Nat → Nat → Nat) (wr : va_W) (t u hh : Mem) (S : Nat → Mem) {r : Int32} (hf : pX4_isIn t u hh S = some r) : Mi l yX4_isIn wsX4_isIn rmX4_isIn D ca [.ref (h 2)] (gW a b h f ca t u hh S wr) (gW a b h f ca t u hh S wr) r := by
  refine Mi_of (own := RX4) (cc := cX4_isIn) (nL := 1) (ty := .boolean) (by decide) rfl rfl rfl rfl (Nat.le_of_ble_eq_true rfl) ?_
  intro p e s m args below meth c Q A ls C0 hH hl hend
  obtain ⟨hx, hb, hml, hown, hts⟩ := id C0.1
  have hl : lv_has ls 1 [(0, .ref (h 2))] := hl
  unfold pX4_isIn at hf
  refine lv_aload_n hx hb dX4_isIn_0 rfl (lv_at hl 0 rfl) ?_
  refine gG_X4_now C0 hH inX4_isIn_X4 (by decide +kernel : Cond.fieldLink RX4 10 "GatheringCache" "now" "LGatheringCache$State;" ∈ wsX4_isIn) dX4_isIn_1 ?_
  refine gS_X1_stick C0 hH.swap inX4_isIn_X1 (by decide +kernel : Cond.fieldLink RX4 74 "GatheringCache$State" "stick" "LGatheringCache$Stick;" ∈ wsX4_isIn) dX4_isIn_4 ?_
  refine gS_X2_in C0 hH.swap inX4_isIn_X2 (by decide +kernel : Cond.fieldLink RX4 143 "GatheringCache$Stick" "in" "Z" ∈ wsX4_isIn) dX4_isIn_7 ?_
  obtain ⟨hz, hf⟩ := gd hf
  cases hf
  exact hend _ _ _ _ hH (isz_n hz) dX4_isIn_10
def pX4_charge (t : Mem) (u : Mem) (hh : Mem) (S : Nat → Mem) : Option Int32 :=
  some (u 0 2)
def rmX4_charge : Room := { frames := 0, cells := 0, slots := 0, locals := 0 }
theorem hd_X4_charge : yX4_charge.cls = RX4 ∧ yX4_charge.cls ≠ "java/lang/invoke/MethodHandle" ∧ yX4_charge.cls ≠ "java/lang/invoke/VarHandle" ∧ (parseMethodDescriptor yX4_charge.desc).map (fun d => d.parameters.length) = some 0 := by decide +kernel
theorem inX4_charge_X1 : ∀ w ∈ wsX10, w ∈ wsX4_charge := by decide +kernel
theorem inX4_charge_X2 : ∀ w ∈ wsX20, w ∈ wsX4_charge := by decide +kernel
theorem inX4_charge_X4 : ∀ w ∈ wsX40, w ∈ wsX4_charge := by decide +kernel
set_option maxHeartbeats 4000000 in
set_option maxRecDepth 100000 in
theorem mX4_charge (l : Launch) (D : va_G) (ca : Gp) (a b h : Nat → Nat) (f : Nat → Nat → Nat) (wr : va_W) (t u hh : Mem) (S : Nat → Mem) {r : Int32} (hf : pX4_charge t u hh S = some r) : Mi l yX4_charge wsX4_charge rmX4_charge D ca [.ref (h 2)] (gW a b h f ca t u hh S wr) (gW a b h f ca t u hh S wr) r := by
  refine Mi_of (own := RX4) (cc := cX4_charge) (nL := 1) (ty := .int) (by decide) rfl rfl rfl rfl (Nat.le_of_ble_eq_true rfl) ?_
  intro p e s m args below meth c Q A ls C0 hH hl hend
  obtain ⟨hx, hb, hml, hown, hts⟩ := id C0.1
  have hl : lv_has ls 1 [(0, .ref (h 2))] := hl
  unfold pX4_charge at hf
  refine lv_aload_n hx hb dX4_charge_0 rfl (lv_at hl 0 rfl) ?_
  refine gG_X4_now C0 hH inX4_charge_X4 (by decide +kernel : Cond.fieldLink RX4 10 "GatheringCache" "now" "LGatheringCache$State;" ∈ wsX4_charge) dX4_charge_1 ?_
  refine gS_X1_stick C0 hH.swap inX4_charge_X1 (by decide +kernel : Cond.fieldLink RX4 74 "GatheringCache$State" "stick" "LGatheringCache$Stick;" ∈ wsX4_charge) dX4_charge_4 ?_
  refine gS_X2_charge C0 hH.swap inX4_charge_X2 (by decide +kernel : Cond.fieldLink RX4 78 "GatheringCache$Stick" "charge" "I" ∈ wsX4_charge) dX4_charge_7 ?_
  cases hf
  exact hend _ _ _ _ hH rfl dX4_charge_10
def pX4_line (t : Mem) (u : Mem) (hh : Mem) (S : Nat → Mem) (x1 : Int32) (x2 : Int32) (x3 : Int32) : Option Int32 :=
  if x1 < 0 then
    none
  else
    if 4 ≤ x1 then
      none
    else
      if x2 < 0 then
        none
      else
        if x2 < 3 then
          if x3 < 0 then
            none
          else
            if x3 ≤ 4 then
              (pX2_partOf u ((x1 * 3) + x2) x3).bind fun y7 =>
              some y7
            else
              none
        else
          none
def rmX4_line : Room := { frames := 2, cells := 0, slots := 0, locals := 42 }
theorem hd_X4_line : yX4_line.cls = RX4 ∧ yX4_line.cls ≠ "java/lang/invoke/MethodHandle" ∧ yX4_line.cls ≠ "java/lang/invoke/VarHandle" ∧ (parseMethodDescriptor yX4_line.desc).map (fun d => d.parameters.length) = some 3 := by decide +kernel
theorem inX4_line_X1 : ∀ w ∈ wsX10, w ∈ wsX4_line := by decide +kernel
theorem inX4_line_X4 : ∀ w ∈ wsX40, w ∈ wsX4_line := by decide +kernel
set_option maxHeartbeats 4000000 in
set_option maxRecDepth 100000 in
theorem mX4_line (l : Launch) (D : va_G) (ca : Gp) (a b h : Nat → Nat) (f : Nat → Nat → Nat) (wr : va_W) (t u hh : Mem) (S : Nat → Mem) (x1 : Int32) (x2 : Int32) (x3 : Int32) {r : Int32} (hf : pX4_line t u hh S x1 x2 x3 = some r) : Mi l yX4_line wsX4_line rmX4_line D ca [.ref (h 2), .int x1, .int x2, .int x3] (gW a b h f ca t u hh S wr) (gW a b h f ca t u hh S wr) r := by
  refine Mi_of (own := RX4) (cc := cX4_line) (nL := 4) (ty := .int) (by decide) rfl rfl rfl rfl (Nat.le_of_ble_eq_true rfl) ?_
  intro p e s m args below meth c Q A ls C0 hH hl hend
  obtain ⟨hx, hb, hml, hown, hts⟩ := id C0.1
  have hl : lv_has ls 4 [(0, .ref (h 2)), (1, .int x1), (2, .int x2), (3, .int x3)] := hl
  unfold pX4_line at hf
  refine lv_iload_n hx hb dX4_line_0 rfl (lv_at hl 1 rfl) ?_
  refine lv_if_lt (tgt := 18) hx hb dX4_line_1 (by decide) (fun c1 => ?_) (fun c1 => ?_)
  · rw [if_pos c1] at hf
    cases hf
  · rw [if_neg c1] at hf
    refine lv_iload_n hx hb dX4_line_4 rfl (lv_at hl 1 rfl) ?_
    refine lv_iconst (v := 4) hx hb dX4_line_5 (by decide) ?_
    refine lv_icmp_ge (tgt := 18) hx hb dX4_line_6 (by decide) (fun c2 => ?_) (fun c2 => ?_)
    · rw [if_pos c2] at hf
      cases hf
    · rw [if_neg c2] at hf
      refine lv_iload_n hx hb dX4_line_9 rfl (lv_at hl 2 rfl) ?_
      refine lv_if_lt (tgt := 18) hx hb dX4_line_10 (by decide) (fun c3 => ?_) (fun c3 => ?_)
      · rw [if_pos c3] at hf
        cases hf
      · rw [if_neg c3] at hf
        refine lv_iload_n hx hb dX4_line_13 rfl (lv_at hl 2 rfl) ?_
        refine lv_iconst (v := 3) hx hb dX4_line_14 (by decide) ?_
        refine lv_icmp_lt (tgt := 28) hx hb dX4_line_15 (by decide) (fun c4 => ?_) (fun c4 => ?_)
        · rw [if_pos c4] at hf
          refine lv_iload_n hx hb dX4_line_28 rfl (lv_at hl 3 rfl) ?_
          refine lv_if_lt (tgt := 37) hx hb dX4_line_29 (by decide) (fun c5 => ?_) (fun c5 => ?_)
          · rw [if_pos c5] at hf
            cases hf
          · rw [if_neg c5] at hf
            refine lv_iload_n hx hb dX4_line_32 rfl (lv_at hl 3 rfl) ?_
            refine lv_iconst (v := 4) hx hb dX4_line_33 (by decide) ?_
            refine lv_icmp_le (tgt := 47) hx hb dX4_line_34 (by decide) (fun c6 => ?_) (fun c6 => ?_)
            · rw [if_pos c6] at hf
              refine lv_aload_n hx hb dX4_line_47 rfl (lv_at hl 0 rfl) ?_
              refine gG_X4_now C0 hH inX4_line_X4 (by decide +kernel : Cond.fieldLink RX4 10 "GatheringCache" "now" "LGatheringCache$State;" ∈ wsX4_line) dX4_line_48 ?_
              refine gS_X1_stick C0 hH.swap inX4_line_X1 (by decide +kernel : Cond.fieldLink RX4 74 "GatheringCache$State" "stick" "LGatheringCache$Stick;" ∈ wsX4_line) dX4_line_51 ?_
              refine lv_iload_n hx hb dX4_line_54 rfl (lv_at hl 1 rfl) ?_
              refine lv_iconst (v := 3) hx hb dX4_line_55 (by decide) ?_
              refine lv_imul hx hb dX4_line_56 ?_
              refine lv_iload_n hx hb dX4_line_57 rfl (lv_at hl 2 rfl) ?_
              refine lv_iadd hx hb dX4_line_58 ?_
              refine lv_iload_n hx hb dX4_line_59 rfl (lv_at hl 3 rfl) ?_
              obtain ⟨y7, h_y7, hf⟩ := bnd hf
              refine cl_iV C0 hH.swap hl.1 (As := [.int ((x1 * 3) + x2), .int x3]) (rest := []) (mX2_partOf l D ca a (tW b ca t ++ hW a b h f ca hh S wr) u ((x1 * 3) + x2) x3 h_y7) gX4_line_X2_partOf rfl rfl rfl hd_X2_partOf ⟨Nat.le_of_ble_eq_true rfl, Nat.le_of_ble_eq_true rfl⟩ ⟨Nat.zero_le _, Nat.zero_le _⟩ (vS_X2 C0 hH.swap) rfl (Nat.le_of_ble_eq_true rfl) dX4_line_60 (fun H locs hH => ?_)
              have hH := hH.swap
              cases hf
              exact hend _ _ _ _ hH rfl dX4_line_63
            · rw [if_neg c6] at hf
              cases hf
        · rw [if_neg c4] at hf
          cases hf
def pX4_dirtyOf (t : Mem) (u : Mem) (hh : Mem) (S : Nat → Mem) (x1 : Int32) : Option Int32 :=
  (pX4_requireStripe x1).bind fun q1 =>
  (pX2_dirtyLinesOf u x1).bind fun y2 =>
  some y2
def rmX4_dirtyOf : Room := { frames := 3, cells := 0, slots := 0, locals := 65 }
theorem hd_X4_dirtyOf : yX4_dirtyOf.cls = RX4 ∧ yX4_dirtyOf.cls ≠ "java/lang/invoke/MethodHandle" ∧ yX4_dirtyOf.cls ≠ "java/lang/invoke/VarHandle" ∧ (parseMethodDescriptor yX4_dirtyOf.desc).map (fun d => d.parameters.length) = some 1 := by decide +kernel
theorem inX4_dirtyOf_X1 : ∀ w ∈ wsX10, w ∈ wsX4_dirtyOf := by decide +kernel
theorem inX4_dirtyOf_X4 : ∀ w ∈ wsX40, w ∈ wsX4_dirtyOf := by decide +kernel
set_option maxHeartbeats 4000000 in
set_option maxRecDepth 100000 in
theorem mX4_dirtyOf (l : Launch) (D : va_G) (ca : Gp) (a b h : Nat → Nat) (f : Nat → Nat → Nat) (wr : va_W) (t u hh : Mem) (S : Nat → Mem) (x1 : Int32) {r : Int32} (hf : pX4_dirtyOf t u hh S x1 = some r) : Mi l yX4_dirtyOf wsX4_dirtyOf rmX4_dirtyOf D ca [.ref (h 2), .int x1] (gW a b h f ca t u hh S wr) (gW a b h f ca t u hh S wr) r := by
  refine Mi_of (own := RX4) (cc := cX4_dirtyOf) (nL := 2) (ty := .int) (by decide) rfl rfl rfl rfl (Nat.le_of_ble_eq_true rfl) ?_
  intro p e s m args below meth c Q A ls C0 hH hl hend
  obtain ⟨hx, hb, hml, hown, hts⟩ := id C0.1
  have hl : lv_has ls 2 [(0, .ref (h 2)), (1, .int x1)] := hl
  unfold pX4_dirtyOf at hf
  refine lv_iload_n hx hb dX4_dirtyOf_0 rfl (lv_at hl 1 rfl) ?_
  obtain ⟨q1, h_q1, hf⟩ := bnd hf
  refine cl_vS C0 hH hl.1 (As := [.int x1]) (rest := []) (mX4_requireStripe l D ca _ x1 h_q1) gX4_dirtyOf_X4_requireStripe rfl rfl rfl hd_X4_requireStripe ⟨Nat.le_of_ble_eq_true rfl, Nat.le_of_ble_eq_true rfl⟩ ⟨Nat.zero_le _, Nat.zero_le _⟩ rfl (Nat.le_of_ble_eq_true rfl) dX4_dirtyOf_1 (fun H locs hH => ?_)
  refine lv_aload_n hx hb dX4_dirtyOf_4 rfl (lv_at hl 0 rfl) ?_
  refine gG_X4_now C0 hH inX4_dirtyOf_X4 (by decide +kernel : Cond.fieldLink RX4 10 "GatheringCache" "now" "LGatheringCache$State;" ∈ wsX4_dirtyOf) dX4_dirtyOf_5 ?_
  refine gS_X1_stick C0 hH.swap inX4_dirtyOf_X1 (by decide +kernel : Cond.fieldLink RX4 74 "GatheringCache$State" "stick" "LGatheringCache$Stick;" ∈ wsX4_dirtyOf) dX4_dirtyOf_8 ?_
  refine lv_iload_n hx hb dX4_dirtyOf_11 rfl (lv_at hl 1 rfl) ?_
  obtain ⟨y2, h_y2, hf⟩ := bnd hf
  refine cl_iV C0 hH.swap hl.1 (As := [.int x1]) (rest := []) (mX2_dirtyLinesOf l D ca a (tW b ca t ++ hW a b h f ca hh S wr) u x1 h_y2) gX4_dirtyOf_X2_dirtyLinesOf rfl rfl rfl hd_X2_dirtyLinesOf ⟨Nat.le_of_ble_eq_true rfl, Nat.le_of_ble_eq_true rfl⟩ ⟨Nat.zero_le _, Nat.zero_le _⟩ (vS_X2 C0 hH.swap) rfl (Nat.le_of_ble_eq_true rfl) dX4_dirtyOf_12 (fun H locs hH => ?_)
  have hH := hH.swap
  cases hf
  exact hend _ _ _ _ hH rfl dX4_dirtyOf_15
def pX4_dirty (t : Mem) (u : Mem) (hh : Mem) (S : Nat → Mem) : Option Int32 :=
  (pX2_dirtyLines u).bind fun y1 =>
  some y1
def rmX4_dirty : Room := { frames := 1, cells := 0, slots := 0, locals := 22 }
theorem hd_X4_dirty : yX4_dirty.cls = RX4 ∧ yX4_dirty.cls ≠ "java/lang/invoke/MethodHandle" ∧ yX4_dirty.cls ≠ "java/lang/invoke/VarHandle" ∧ (parseMethodDescriptor yX4_dirty.desc).map (fun d => d.parameters.length) = some 0 := by decide +kernel
theorem inX4_dirty_X1 : ∀ w ∈ wsX10, w ∈ wsX4_dirty := by decide +kernel
theorem inX4_dirty_X4 : ∀ w ∈ wsX40, w ∈ wsX4_dirty := by decide +kernel
set_option maxHeartbeats 4000000 in
set_option maxRecDepth 100000 in
theorem mX4_dirty (l : Launch) (D : va_G) (ca : Gp) (a b h : Nat → Nat) (f : Nat → Nat → Nat) (wr : va_W) (t u hh : Mem) (S : Nat → Mem) {r : Int32} (hf : pX4_dirty t u hh S = some r) : Mi l yX4_dirty wsX4_dirty rmX4_dirty D ca [.ref (h 2)] (gW a b h f ca t u hh S wr) (gW a b h f ca t u hh S wr) r := by
  refine Mi_of (own := RX4) (cc := cX4_dirty) (nL := 1) (ty := .int) (by decide) rfl rfl rfl rfl (Nat.le_of_ble_eq_true rfl) ?_
  intro p e s m args below meth c Q A ls C0 hH hl hend
  obtain ⟨hx, hb, hml, hown, hts⟩ := id C0.1
  have hl : lv_has ls 1 [(0, .ref (h 2))] := hl
  unfold pX4_dirty at hf
  refine lv_aload_n hx hb dX4_dirty_0 rfl (lv_at hl 0 rfl) ?_
  refine gG_X4_now C0 hH inX4_dirty_X4 (by decide +kernel : Cond.fieldLink RX4 10 "GatheringCache" "now" "LGatheringCache$State;" ∈ wsX4_dirty) dX4_dirty_1 ?_
  refine gS_X1_stick C0 hH.swap inX4_dirty_X1 (by decide +kernel : Cond.fieldLink RX4 74 "GatheringCache$State" "stick" "LGatheringCache$Stick;" ∈ wsX4_dirty) dX4_dirty_4 ?_
  obtain ⟨y1, h_y1, hf⟩ := bnd hf
  refine cl_iV C0 hH.swap hl.1 (As := []) (rest := []) (mX2_dirtyLines l D ca a (tW b ca t ++ hW a b h f ca hh S wr) u h_y1) gX4_dirty_X2_dirtyLines rfl rfl rfl hd_X2_dirtyLines ⟨Nat.le_of_ble_eq_true rfl, Nat.le_of_ble_eq_true rfl⟩ ⟨Nat.zero_le _, Nat.zero_le _⟩ (vS_X2 C0 hH.swap) rfl (Nat.le_of_ble_eq_true rfl) dX4_dirty_7 (fun H locs hH => ?_)
  have hH := hH.swap
  cases hf
  exact hend _ _ _ _ hH rfl dX4_dirty_10
def pX4_used (t : Mem) (u : Mem) (hh : Mem) (S : Nat → Mem) : Option Int32 :=
  (pX2_usedLines u).bind fun y1 =>
  some y1
def rmX4_used : Room := { frames := 1, cells := 0, slots := 0, locals := 22 }
theorem hd_X4_used : yX4_used.cls = RX4 ∧ yX4_used.cls ≠ "java/lang/invoke/MethodHandle" ∧ yX4_used.cls ≠ "java/lang/invoke/VarHandle" ∧ (parseMethodDescriptor yX4_used.desc).map (fun d => d.parameters.length) = some 0 := by decide +kernel
theorem inX4_used_X1 : ∀ w ∈ wsX10, w ∈ wsX4_used := by decide +kernel
theorem inX4_used_X4 : ∀ w ∈ wsX40, w ∈ wsX4_used := by decide +kernel
set_option maxHeartbeats 4000000 in
set_option maxRecDepth 100000 in
theorem mX4_used (l : Launch) (D : va_G) (ca : Gp) (a b h : Nat → Nat) (f : Nat → Nat → Nat) (wr : va_W) (t u hh : Mem) (S : Nat → Mem) {r : Int32} (hf : pX4_used t u hh S = some r) : Mi l yX4_used wsX4_used rmX4_used D ca [.ref (h 2)] (gW a b h f ca t u hh S wr) (gW a b h f ca t u hh S wr) r := by
  refine Mi_of (own := RX4) (cc := cX4_used) (nL := 1) (ty := .int) (by decide) rfl rfl rfl rfl (Nat.le_of_ble_eq_true rfl) ?_
  intro p e s m args below meth c Q A ls C0 hH hl hend
  obtain ⟨hx, hb, hml, hown, hts⟩ := id C0.1
  have hl : lv_has ls 1 [(0, .ref (h 2))] := hl
  unfold pX4_used at hf
  refine lv_aload_n hx hb dX4_used_0 rfl (lv_at hl 0 rfl) ?_
  refine gG_X4_now C0 hH inX4_used_X4 (by decide +kernel : Cond.fieldLink RX4 10 "GatheringCache" "now" "LGatheringCache$State;" ∈ wsX4_used) dX4_used_1 ?_
  refine gS_X1_stick C0 hH.swap inX4_used_X1 (by decide +kernel : Cond.fieldLink RX4 74 "GatheringCache$State" "stick" "LGatheringCache$Stick;" ∈ wsX4_used) dX4_used_4 ?_
  obtain ⟨y1, h_y1, hf⟩ := bnd hf
  refine cl_iV C0 hH.swap hl.1 (As := []) (rest := []) (mX2_usedLines l D ca a (tW b ca t ++ hW a b h f ca hh S wr) u h_y1) gX4_used_X2_usedLines rfl rfl rfl hd_X2_usedLines ⟨Nat.le_of_ble_eq_true rfl, Nat.le_of_ble_eq_true rfl⟩ ⟨Nat.zero_le _, Nat.zero_le _⟩ (vS_X2 C0 hH.swap) rfl (Nat.le_of_ble_eq_true rfl) dX4_used_7 (fun H locs hH => ?_)
  have hH := hH.swap
  cases hf
  exact hend _ _ _ _ hH rfl dX4_used_10
def pX4_onDisk (t : Mem) (u : Mem) (hh : Mem) (S : Nat → Mem) (x1 : Int32) : Option Int32 :=
  (pX4_requireBlock x1).bind fun q1 =>
  (pX1_diskValueOf u x1).bind fun y2 =>
  some y2
def rmX4_onDisk : Room := { frames := 2, cells := 0, slots := 0, locals := 41 }
theorem hd_X4_onDisk : yX4_onDisk.cls = RX4 ∧ yX4_onDisk.cls ≠ "java/lang/invoke/MethodHandle" ∧ yX4_onDisk.cls ≠ "java/lang/invoke/VarHandle" ∧ (parseMethodDescriptor yX4_onDisk.desc).map (fun d => d.parameters.length) = some 1 := by decide +kernel
theorem inX4_onDisk_X4 : ∀ w ∈ wsX40, w ∈ wsX4_onDisk := by decide +kernel
set_option maxHeartbeats 4000000 in
set_option maxRecDepth 100000 in
theorem mX4_onDisk (l : Launch) (D : va_G) (ca : Gp) (a b h : Nat → Nat) (f : Nat → Nat → Nat) (wr : va_W) (t u hh : Mem) (S : Nat → Mem) (x1 : Int32) {r : Int32} (hf : pX4_onDisk t u hh S x1 = some r) : Mi l yX4_onDisk wsX4_onDisk rmX4_onDisk D ca [.ref (h 2), .int x1] (gW a b h f ca t u hh S wr) (gW a b h f ca t u hh S wr) r := by
  refine Mi_of (own := RX4) (cc := cX4_onDisk) (nL := 2) (ty := .int) (by decide) rfl rfl rfl rfl (Nat.le_of_ble_eq_true rfl) ?_
  intro p e s m args below meth c Q A ls C0 hH hl hend
  obtain ⟨hx, hb, hml, hown, hts⟩ := id C0.1
  have hl : lv_has ls 2 [(0, .ref (h 2)), (1, .int x1)] := hl
  unfold pX4_onDisk at hf
  refine lv_iload_n hx hb dX4_onDisk_0 rfl (lv_at hl 1 rfl) ?_
  obtain ⟨q1, h_q1, hf⟩ := bnd hf
  refine cl_vS C0 hH hl.1 (As := [.int x1]) (rest := []) (mX4_requireBlock l D ca _ x1 h_q1) gX4_onDisk_X4_requireBlock rfl rfl rfl hd_X4_requireBlock ⟨Nat.le_of_ble_eq_true rfl, Nat.le_of_ble_eq_true rfl⟩ ⟨Nat.zero_le _, Nat.zero_le _⟩ rfl (Nat.le_of_ble_eq_true rfl) dX4_onDisk_1 (fun H locs hH => ?_)
  refine lv_aload_n hx hb dX4_onDisk_4 rfl (lv_at hl 0 rfl) ?_
  refine gG_X4_now C0 hH inX4_onDisk_X4 (by decide +kernel : Cond.fieldLink RX4 10 "GatheringCache" "now" "LGatheringCache$State;" ∈ wsX4_onDisk) dX4_onDisk_5 ?_
  refine lv_iload_n hx hb dX4_onDisk_8 rfl (lv_at hl 1 rfl) ?_
  obtain ⟨y2, h_y2, hf⟩ := bnd hf
  refine cl_iV C0 hH.swap hl.1 (As := [.int x1]) (rest := []) (mX1_diskValueOf l D ca a (tW b ca t ++ hW a b h f ca hh S wr) u x1 h_y2) gX4_onDisk_X1_diskValueOf rfl rfl rfl hd_X1_diskValueOf ⟨Nat.le_of_ble_eq_true rfl, Nat.le_of_ble_eq_true rfl⟩ ⟨Nat.zero_le _, Nat.zero_le _⟩ (vS_X1 C0 hH.swap) rfl (Nat.le_of_ble_eq_true rfl) dX4_onDisk_9 (fun H locs hH => ?_)
  have hH := hH.swap
  cases hf
  exact hend _ _ _ _ hH rfl dX4_onDisk_12
def pX4_isFound (t : Mem) (u : Mem) (hh : Mem) (S : Nat → Mem) (x1 : Int32) : Option Int32 :=
  (pX4_requireBlock x1).bind fun q1 =>
  (pX1_finds u x1).bind fun y2 =>
  if isz y2 = true then some y2 else none
def rmX4_isFound : Room := { frames := 3, cells := 0, slots := 0, locals := 65 }
theorem hd_X4_isFound : yX4_isFound.cls = RX4 ∧ yX4_isFound.cls ≠ "java/lang/invoke/MethodHandle" ∧ yX4_isFound.cls ≠ "java/lang/invoke/VarHandle" ∧ (parseMethodDescriptor yX4_isFound.desc).map (fun d => d.parameters.length) = some 1 := by decide +kernel
theorem inX4_isFound_X4 : ∀ w ∈ wsX40, w ∈ wsX4_isFound := by decide +kernel
set_option maxHeartbeats 4000000 in
set_option maxRecDepth 100000 in
theorem mX4_isFound (l : Launch) (D : va_G) (ca : Gp) (a b h : Nat → Nat) (f : Nat → Nat → Nat) (wr : va_W) (t u hh : Mem) (S : Nat → Mem) (x1 : Int32) {r : Int32} (hf : pX4_isFound t u hh S x1 = some r) : Mi l yX4_isFound wsX4_isFound rmX4_isFound D ca [.ref (h 2), .int x1] (gW a b h f ca t u hh S wr) (gW a b h f ca t u hh S wr) r := by
  refine Mi_of (own := RX4) (cc := cX4_isFound) (nL := 2) (ty := .boolean) (by decide) rfl rfl rfl rfl (Nat.le_of_ble_eq_true rfl) ?_
  intro p e s m args below meth c Q A ls C0 hH hl hend
  obtain ⟨hx, hb, hml, hown, hts⟩ := id C0.1
  have hl : lv_has ls 2 [(0, .ref (h 2)), (1, .int x1)] := hl
  unfold pX4_isFound at hf
  refine lv_iload_n hx hb dX4_isFound_0 rfl (lv_at hl 1 rfl) ?_
  obtain ⟨q1, h_q1, hf⟩ := bnd hf
  refine cl_vS C0 hH hl.1 (As := [.int x1]) (rest := []) (mX4_requireBlock l D ca _ x1 h_q1) gX4_isFound_X4_requireBlock rfl rfl rfl hd_X4_requireBlock ⟨Nat.le_of_ble_eq_true rfl, Nat.le_of_ble_eq_true rfl⟩ ⟨Nat.zero_le _, Nat.zero_le _⟩ rfl (Nat.le_of_ble_eq_true rfl) dX4_isFound_1 (fun H locs hH => ?_)
  refine lv_aload_n hx hb dX4_isFound_4 rfl (lv_at hl 0 rfl) ?_
  refine gG_X4_now C0 hH inX4_isFound_X4 (by decide +kernel : Cond.fieldLink RX4 10 "GatheringCache" "now" "LGatheringCache$State;" ∈ wsX4_isFound) dX4_isFound_5 ?_
  refine lv_iload_n hx hb dX4_isFound_8 rfl (lv_at hl 1 rfl) ?_
  obtain ⟨y2, h_y2, hf⟩ := bnd hf
  refine cl_iV C0 hH.swap hl.1 (As := [.int x1]) (rest := []) (mX1_finds l D ca a (tW b ca t ++ hW a b h f ca hh S wr) u x1 h_y2) gX4_isFound_X1_finds rfl rfl rfl hd_X1_finds ⟨Nat.le_of_ble_eq_true rfl, Nat.le_of_ble_eq_true rfl⟩ ⟨Nat.zero_le _, Nat.zero_le _⟩ (vS_X1 C0 hH.swap) rfl (Nat.le_of_ble_eq_true rfl) dX4_isFound_9 (fun H locs hH => ?_)
  have hH := hH.swap
  obtain ⟨hz, hf⟩ := gd hf
  cases hf
  exact hend _ _ _ _ hH (isz_n hz) dX4_isFound_12
def pX4_missing_24 (t : Mem) (u : Mem) (hh : Mem) (S : Nat → Mem) (k : Int32 → Int32 → Option Int32) (x1 : Int32) (x2 : Int32) : Option Int32 :=
  k x1 (x2 + 1)
def pX4_missing_4b (t : Mem) (u : Mem) (hh : Mem) (S : Nat → Mem) (k : Int32 → Int32 → Option Int32) (x1 : Int32) (x2 : Int32) : Option Int32 :=
  if 64 ≤ x2 then
    some x1
  else
    (pX1_finds u x2).bind fun y102 =>
    if y102 = 0 then
      pX4_missing_24 t u hh S k (x1 + 1) x2
    else
      pX4_missing_24 t u hh S k x1 x2
def pX4_missing_4 (t : Mem) (u : Mem) (hh : Mem) (S : Nat → Mem) : Nat → Int32 → Int32 → Option Int32
  | 0, _, _ => none
  | n + 1, x1, x2 => pX4_missing_4b t u hh S (pX4_missing_4 t u hh S n) x1 x2
def pX4_missing (t : Mem) (u : Mem) (hh : Mem) (S : Nat → Mem) : Option Int32 :=
  pX4_missing_4 t u hh S FU 0 0
def rmX4_missing : Room := { frames := 3, cells := 0, slots := 0, locals := 65 }
theorem hd_X4_missing : yX4_missing.cls = RX4 ∧ yX4_missing.cls ≠ "java/lang/invoke/MethodHandle" ∧ yX4_missing.cls ≠ "java/lang/invoke/VarHandle" ∧ (parseMethodDescriptor yX4_missing.desc).map (fun d => d.parameters.length) = some 0 := by decide +kernel
theorem inX4_missing_X4 : ∀ w ∈ wsX40, w ∈ wsX4_missing := by decide +kernel
set_option maxHeartbeats 4000000 in
set_option maxRecDepth 100000 in
theorem mX4_missing (l : Launch) (D : va_G) (ca : Gp) (a b h : Nat → Nat) (f : Nat → Nat → Nat) (wr : va_W) (t u hh : Mem) (S : Nat → Mem) {r : Int32} (hf : pX4_missing t u hh S = some r) : Mi l yX4_missing wsX4_missing rmX4_missing D ca [.ref (h 2)] (gW a b h f ca t u hh S wr) (gW a b h f ca t u hh S wr) r := by
  refine Mi_of (own := RX4) (cc := cX4_missing) (nL := 3) (ty := .int) (by decide) rfl rfl rfl rfl (Nat.le_of_ble_eq_true rfl) ?_
  intro p e s m args below meth c Q A ls C0 hH hl hend
  obtain ⟨hx, hb, hml, hown, hts⟩ := id C0.1
  have hl : lv_has ls 3 [(0, .ref (h 2))] := hl
  have J4 : ∀ (n : Nat) (x1 : Int32) (x2 : Int32) (H : Heap) (locs : List Loc) (ls : Array Slot), pX4_missing_4 t u hh S n x1 x2 = some r → HS D A s (gW a b h f ca t u hh S wr) H locs → lv_has ls 3 [(0, .ref (h 2)), (1, .int x1), (2, .int x2)] → W p l e rmX4_missing s m args below meth c H locs 0 0 Q (F0 m 4 ls []) := by
    intro n
    induction n with
    | zero => intro x1 x2 H locs ls hf; cases hf
    | succ n ih =>
      intro x1 x2 H locs ls hf hH hl
      have hf : pX4_missing_4b t u hh S (pX4_missing_4 t u hh S n) x1 x2 = some r := hf
      have J24 : ∀ (x1 : Int32) (x2 : Int32) (H : Heap) (locs : List Loc) (ls : Array Slot), pX4_missing_24 t u hh S (pX4_missing_4 t u hh S n) x1 x2 = some r → HS D A s (gW a b h f ca t u hh S wr) H locs → lv_has ls 3 [(0, .ref (h 2)), (1, .int x1), (2, .int x2)] → W p l e rmX4_missing s m args below meth c H locs 0 0 Q (F0 m 24 ls []) := by
        intro x1 x2 H locs ls hf hH hl
        unfold pX4_missing_24 at hf
        refine lv_iinc (v := (x2 + 1)) (lv' := [(2, .int (x2 + 1)), (0, .ref (h 2)), (1, .int x1)]) hx hb dX4_missing_24 hl (k := 2) rfl rfl (by decide) rfl (fun ls hl => ?_)
        refine lv_goto (tgt := 4) hx hb dX4_missing_27 (by decide) ?_
        exact ih _ _ _ _ _ hf hH (lv_sub hl [1, 2, 0] rfl)
      unfold pX4_missing_4b at hf
      refine lv_iload_n hx hb dX4_missing_4 rfl (lv_at hl 2 rfl) ?_
      refine lv_bipush (v := 64) hx hb dX4_missing_5 (by decide) ?_
      refine lv_icmp_ge (tgt := 30) hx hb dX4_missing_7 (by decide) (fun c101 => ?_) (fun c101 => ?_)
      · rw [if_pos c101] at hf
        refine lv_iload_n hx hb dX4_missing_30 rfl (lv_at hl 1 rfl) ?_
        cases hf
        exact hend _ _ _ _ hH rfl dX4_missing_31
      · rw [if_neg c101] at hf
        refine lv_aload_n hx hb dX4_missing_10 rfl (lv_at hl 0 rfl) ?_
        refine gG_X4_now C0 hH inX4_missing_X4 (by decide +kernel : Cond.fieldLink RX4 10 "GatheringCache" "now" "LGatheringCache$State;" ∈ wsX4_missing) dX4_missing_11 ?_
        refine lv_iload_n hx hb dX4_missing_14 rfl (lv_at hl 2 rfl) ?_
        obtain ⟨y102, h_y102, hf⟩ := bnd hf
        refine cl_iV C0 hH.swap hl.1 (As := [.int x2]) (rest := []) (mX1_finds l D ca a (tW b ca t ++ hW a b h f ca hh S wr) u x2 h_y102) gX4_missing_X1_finds rfl rfl rfl hd_X1_finds ⟨Nat.le_of_ble_eq_true rfl, Nat.le_of_ble_eq_true rfl⟩ ⟨Nat.zero_le _, Nat.zero_le _⟩ (vS_X1 C0 hH.swap) rfl (Nat.le_of_ble_eq_true rfl) dX4_missing_15 (fun H locs hH => ?_)
        have hH := hH.swap
        refine lv_if_ne (tgt := 24) hx hb dX4_missing_18 (by decide) (fun c103 => ?_) (fun c103 => ?_)
        · rw [if_neg c103] at hf
          exact J24 _ _ _ _ _ hf hH (lv_sub hl [0, 1, 2] rfl)
        · rw [if_pos c103] at hf
          refine lv_iinc (v := (x1 + 1)) (lv' := [(1, .int (x1 + 1)), (0, .ref (h 2)), (2, .int x2)]) hx hb dX4_missing_21 hl (k := 1) rfl rfl (by decide) rfl (fun ls hl => ?_)
          exact J24 _ _ _ _ _ hf hH (lv_sub hl [1, 0, 2] rfl)
  unfold pX4_missing at hf
  refine lv_iconst (v := 0) hx hb dX4_missing_0 (by decide) ?_
  refine lv_istore_n (lv' := [(1, .int 0), (0, .ref (h 2))]) hx hb dX4_missing_1 rfl hl (by decide) rfl (fun ls hl => ?_)
  refine lv_iconst (v := 0) hx hb dX4_missing_2 (by decide) ?_
  refine lv_istore_n (lv' := [(2, .int 0), (1, .int 0), (0, .ref (h 2))]) hx hb dX4_missing_3 rfl hl (by decide) rfl (fun ls hl => ?_)
  exact J4 FU _ _ _ _ _ hf hH (lv_sub hl [2, 1, 0] rfl)
def pX4_ifWritten_26 (t : Mem) (u : Mem) (hh : Mem) (S : Nat → Mem) (s0 : Int32) : Option Int32 :=
  some s0
def pX4_ifWritten (t : Mem) (u : Mem) (hh : Mem) (S : Nat → Mem) (x1 : Int32) : Option Int32 :=
  (pX4_requireBlock x1).bind fun q1 =>
  if (u 6 1) = 0 then
    pX4_ifWritten_26 t u hh S (-1)
  else
    (pX1_operationsIfWritten u x1).bind fun y3 =>
    pX4_ifWritten_26 t u hh S y3
def rmX4_ifWritten : Room := { frames := 5, cells := 0, slots := 0, locals := 111 }
theorem hd_X4_ifWritten : yX4_ifWritten.cls = RX4 ∧ yX4_ifWritten.cls ≠ "java/lang/invoke/MethodHandle" ∧ yX4_ifWritten.cls ≠ "java/lang/invoke/VarHandle" ∧ (parseMethodDescriptor yX4_ifWritten.desc).map (fun d => d.parameters.length) = some 1 := by decide +kernel
theorem inX4_ifWritten_X1 : ∀ w ∈ wsX10, w ∈ wsX4_ifWritten := by decide +kernel
theorem inX4_ifWritten_X4 : ∀ w ∈ wsX40, w ∈ wsX4_ifWritten := by decide +kernel
set_option maxHeartbeats 4000000 in
set_option maxRecDepth 100000 in
theorem mX4_ifWritten (l : Launch) (D : va_G) (ca : Gp) (a b h : Nat → Nat) (f : Nat → Nat → Nat) (wr : va_W) (t u hh : Mem) (S : Nat → Mem) (x1 : Int32) {r : Int32} (hf : pX4_ifWritten t u hh S x1 = some r) : Mi l yX4_ifWritten wsX4_ifWritten rmX4_ifWritten D ca [.ref (h 2), .int x1] (gW a b h f ca t u hh S wr) (gW a b h f ca t u hh S wr) r := by
  refine Mi_of (own := RX4) (cc := cX4_ifWritten) (nL := 2) (ty := .int) (by decide) rfl rfl rfl rfl (Nat.le_of_ble_eq_true rfl) ?_
  intro p e s m args below meth c Q A ls C0 hH hl hend
  obtain ⟨hx, hb, hml, hown, hts⟩ := id C0.1
  have hl : lv_has ls 2 [(0, .ref (h 2)), (1, .int x1)] := hl
  have J26 : ∀ (s0 : Int32) (H : Heap) (locs : List Loc) (ls : Array Slot), pX4_ifWritten_26 t u hh S s0 = some r → HS D A s (gW a b h f ca t u hh S wr) H locs → lv_has ls 2 [] → W p l e rmX4_ifWritten s m args below meth c H locs 0 0 Q (F0 m 26 ls [.int s0]) := by
    intro s0 H locs ls hf hH hl
    unfold pX4_ifWritten_26 at hf
    cases hf
    exact hend _ _ _ _ hH rfl dX4_ifWritten_26
  unfold pX4_ifWritten at hf
  refine lv_iload_n hx hb dX4_ifWritten_0 rfl (lv_at hl 1 rfl) ?_
  obtain ⟨q1, h_q1, hf⟩ := bnd hf
  refine cl_vS C0 hH hl.1 (As := [.int x1]) (rest := []) (mX4_requireBlock l D ca _ x1 h_q1) gX4_ifWritten_X4_requireBlock rfl rfl rfl hd_X4_requireBlock ⟨Nat.le_of_ble_eq_true rfl, Nat.le_of_ble_eq_true rfl⟩ ⟨Nat.zero_le _, Nat.zero_le _⟩ rfl (Nat.le_of_ble_eq_true rfl) dX4_ifWritten_1 (fun H locs hH => ?_)
  refine lv_aload_n hx hb dX4_ifWritten_4 rfl (lv_at hl 0 rfl) ?_
  refine gG_X4_now C0 hH inX4_ifWritten_X4 (by decide +kernel : Cond.fieldLink RX4 10 "GatheringCache" "now" "LGatheringCache$State;" ∈ wsX4_ifWritten) dX4_ifWritten_5 ?_
  refine gS_X1_on C0 hH.swap inX4_ifWritten_X1 (by decide +kernel : Cond.fieldLink RX4 93 "GatheringCache$State" "on" "Z" ∈ wsX4_ifWritten) dX4_ifWritten_8 ?_
  refine lv_if_eq (tgt := 25) hx hb dX4_ifWritten_11 (by decide) (fun c2 => ?_) (fun c2 => ?_)
  · rw [if_pos c2] at hf
    refine lv_iconst (v := (-1)) hx hb dX4_ifWritten_25 (by decide) ?_
    exact J26 _ _ _ _ hf hH (lv_sub hl [] rfl)
  · rw [if_neg c2] at hf
    refine lv_aload_n hx hb dX4_ifWritten_14 rfl (lv_at hl 0 rfl) ?_
    refine gG_X4_now C0 hH inX4_ifWritten_X4 (by decide +kernel : Cond.fieldLink RX4 10 "GatheringCache" "now" "LGatheringCache$State;" ∈ wsX4_ifWritten) dX4_ifWritten_15 ?_
    refine lv_iload_n hx hb dX4_ifWritten_18 rfl (lv_at hl 1 rfl) ?_
    obtain ⟨y3, h_y3, hf⟩ := bnd hf
    refine cl_iV C0 hH.swap hl.1 (As := [.int x1]) (rest := []) (mX1_operationsIfWritten l D ca a (tW b ca t ++ hW a b h f ca hh S wr) u x1 h_y3) gX4_ifWritten_X1_operationsIfWritten rfl rfl rfl hd_X1_operationsIfWritten ⟨Nat.le_of_ble_eq_true rfl, Nat.le_of_ble_eq_true rfl⟩ ⟨Nat.zero_le _, Nat.zero_le _⟩ (vS_X1 C0 hH.swap) rfl (Nat.le_of_ble_eq_true rfl) dX4_ifWritten_19 (fun H locs hH => ?_)
    have hH := hH.swap
    refine lv_goto (tgt := 26) hx hb dX4_ifWritten_22 (by decide) ?_
    exact J26 _ _ _ _ hf hH (lv_sub hl [] rfl)
def pX4_ifDestaged_21 (t : Mem) (u : Mem) (hh : Mem) (S : Nat → Mem) (s0 : Int32) : Option Int32 :=
  some s0
def pX4_ifDestaged (t : Mem) (u : Mem) (hh : Mem) (S : Nat → Mem) : Option Int32 :=
  (pX1_canDestage u).bind fun y1 =>
  if y1 = 0 then
    pX4_ifDestaged_21 t u hh S (-1)
  else
    (pX1_operationsIfDestaged u).bind fun y3 =>
    pX4_ifDestaged_21 t u hh S y3
def rmX4_ifDestaged : Room := { frames := 4, cells := 0, slots := 0, locals := 87 }
theorem hd_X4_ifDestaged : yX4_ifDestaged.cls = RX4 ∧ yX4_ifDestaged.cls ≠ "java/lang/invoke/MethodHandle" ∧ yX4_ifDestaged.cls ≠ "java/lang/invoke/VarHandle" ∧ (parseMethodDescriptor yX4_ifDestaged.desc).map (fun d => d.parameters.length) = some 0 := by decide +kernel
theorem inX4_ifDestaged_X4 : ∀ w ∈ wsX40, w ∈ wsX4_ifDestaged := by decide +kernel
set_option maxHeartbeats 4000000 in
set_option maxRecDepth 100000 in
theorem mX4_ifDestaged (l : Launch) (D : va_G) (ca : Gp) (a b h : Nat → Nat) (f : Nat → Nat → Nat) (wr : va_W) (t u hh : Mem) (S : Nat → Mem) {r : Int32} (hf : pX4_ifDestaged t u hh S = some r) : Mi l yX4_ifDestaged wsX4_ifDestaged rmX4_ifDestaged D ca [.ref (h 2)] (gW a b h f ca t u hh S wr) (gW a b h f ca t u hh S wr) r := by
  refine Mi_of (own := RX4) (cc := cX4_ifDestaged) (nL := 1) (ty := .int) (by decide) rfl rfl rfl rfl (Nat.le_of_ble_eq_true rfl) ?_
  intro p e s m args below meth c Q A ls C0 hH hl hend
  obtain ⟨hx, hb, hml, hown, hts⟩ := id C0.1
  have hl : lv_has ls 1 [(0, .ref (h 2))] := hl
  have J21 : ∀ (s0 : Int32) (H : Heap) (locs : List Loc) (ls : Array Slot), pX4_ifDestaged_21 t u hh S s0 = some r → HS D A s (gW a b h f ca t u hh S wr) H locs → lv_has ls 1 [] → W p l e rmX4_ifDestaged s m args below meth c H locs 0 0 Q (F0 m 21 ls [.int s0]) := by
    intro s0 H locs ls hf hH hl
    unfold pX4_ifDestaged_21 at hf
    cases hf
    exact hend _ _ _ _ hH rfl dX4_ifDestaged_21
  unfold pX4_ifDestaged at hf
  refine lv_aload_n hx hb dX4_ifDestaged_0 rfl (lv_at hl 0 rfl) ?_
  refine gG_X4_now C0 hH inX4_ifDestaged_X4 (by decide +kernel : Cond.fieldLink RX4 10 "GatheringCache" "now" "LGatheringCache$State;" ∈ wsX4_ifDestaged) dX4_ifDestaged_1 ?_
  obtain ⟨y1, h_y1, hf⟩ := bnd hf
  refine cl_iV C0 hH.swap hl.1 (As := []) (rest := []) (mX1_canDestage l D ca a (tW b ca t ++ hW a b h f ca hh S wr) u h_y1) gX4_ifDestaged_X1_canDestage rfl rfl rfl hd_X1_canDestage ⟨Nat.le_of_ble_eq_true rfl, Nat.le_of_ble_eq_true rfl⟩ ⟨Nat.zero_le _, Nat.zero_le _⟩ (vS_X1 C0 hH.swap) rfl (Nat.le_of_ble_eq_true rfl) dX4_ifDestaged_4 (fun H locs hH => ?_)
  have hH := hH.swap
  refine lv_if_eq (tgt := 20) hx hb dX4_ifDestaged_7 (by decide) (fun c2 => ?_) (fun c2 => ?_)
  · rw [if_pos c2] at hf
    refine lv_iconst (v := (-1)) hx hb dX4_ifDestaged_20 (by decide) ?_
    exact J21 _ _ _ _ hf hH (lv_sub hl [] rfl)
  · rw [if_neg c2] at hf
    refine lv_aload_n hx hb dX4_ifDestaged_10 rfl (lv_at hl 0 rfl) ?_
    refine gG_X4_now C0 hH inX4_ifDestaged_X4 (by decide +kernel : Cond.fieldLink RX4 10 "GatheringCache" "now" "LGatheringCache$State;" ∈ wsX4_ifDestaged) dX4_ifDestaged_11 ?_
    obtain ⟨y3, h_y3, hf⟩ := bnd hf
    refine cl_iV C0 hH.swap hl.1 (As := []) (rest := []) (mX1_operationsIfDestaged l D ca a (tW b ca t ++ hW a b h f ca hh S wr) u h_y3) gX4_ifDestaged_X1_operationsIfDestaged rfl rfl rfl hd_X1_operationsIfDestaged ⟨Nat.le_of_ble_eq_true rfl, Nat.le_of_ble_eq_true rfl⟩ ⟨Nat.zero_le _, Nat.zero_le _⟩ (vS_X1 C0 hH.swap) rfl (Nat.le_of_ble_eq_true rfl) dX4_ifDestaged_14 (fun H locs hH => ?_)
    have hH := hH.swap
    refine lv_goto (tgt := 21) hx hb dX4_ifDestaged_17 (by decide) ?_
    exact J21 _ _ _ _ hf hH (lv_sub hl [] rfl)
def pX4_ticksToLoss_23 (t : Mem) (u : Mem) (hh : Mem) (S : Nat → Mem) : Option Int32 :=
  some (-1)
def pX4_ticksToLoss (t : Mem) (u : Mem) (hh : Mem) (S : Nat → Mem) : Option Int32 :=
  (pX1_canDestage u).bind fun y1 =>
  if y1 = 0 then
    (pX2_dirtyLines u).bind fun y3 =>
    if y3 = 0 then
      pX4_ticksToLoss_23 t u hh S
    else
      some (u 0 2)
  else
    pX4_ticksToLoss_23 t u hh S
def rmX4_ticksToLoss : Room := { frames := 1, cells := 0, slots := 0, locals := 22 }
theorem hd_X4_ticksToLoss : yX4_ticksToLoss.cls = RX4 ∧ yX4_ticksToLoss.cls ≠ "java/lang/invoke/MethodHandle" ∧ yX4_ticksToLoss.cls ≠ "java/lang/invoke/VarHandle" ∧ (parseMethodDescriptor yX4_ticksToLoss.desc).map (fun d => d.parameters.length) = some 0 := by decide +kernel
theorem inX4_ticksToLoss_X1 : ∀ w ∈ wsX10, w ∈ wsX4_ticksToLoss := by decide +kernel
theorem inX4_ticksToLoss_X2 : ∀ w ∈ wsX20, w ∈ wsX4_ticksToLoss := by decide +kernel
theorem inX4_ticksToLoss_X4 : ∀ w ∈ wsX40, w ∈ wsX4_ticksToLoss := by decide +kernel
set_option maxHeartbeats 4000000 in
set_option maxRecDepth 100000 in
theorem mX4_ticksToLoss (l : Launch) (D : va_G) (ca : Gp) (a b h : Nat → Nat) (f : Nat → Nat → Nat) (wr : va_W) (t u hh : Mem) (S : Nat → Mem) {r : Int32} (hf : pX4_ticksToLoss t u hh S = some r) : Mi l yX4_ticksToLoss wsX4_ticksToLoss rmX4_ticksToLoss D ca [.ref (h 2)] (gW a b h f ca t u hh S wr) (gW a b h f ca t u hh S wr) r := by
  refine Mi_of (own := RX4) (cc := cX4_ticksToLoss) (nL := 1) (ty := .int) (by decide) rfl rfl rfl rfl (Nat.le_of_ble_eq_true rfl) ?_
  intro p e s m args below meth c Q A ls C0 hH hl hend
  obtain ⟨hx, hb, hml, hown, hts⟩ := id C0.1
  have hl : lv_has ls 1 [(0, .ref (h 2))] := hl
  have J23 : ∀ (H : Heap) (locs : List Loc) (ls : Array Slot), pX4_ticksToLoss_23 t u hh S  = some r → HS D A s (gW a b h f ca t u hh S wr) H locs → lv_has ls 1 [] → W p l e rmX4_ticksToLoss s m args below meth c H locs 0 0 Q (F0 m 23 ls []) := by
    intro H locs ls hf hH hl
    unfold pX4_ticksToLoss_23 at hf
    refine lv_iconst (v := (-1)) hx hb dX4_ticksToLoss_23 (by decide) ?_
    cases hf
    exact hend _ _ _ _ hH rfl dX4_ticksToLoss_24
  unfold pX4_ticksToLoss at hf
  refine lv_aload_n hx hb dX4_ticksToLoss_0 rfl (lv_at hl 0 rfl) ?_
  refine gG_X4_now C0 hH inX4_ticksToLoss_X4 (by decide +kernel : Cond.fieldLink RX4 10 "GatheringCache" "now" "LGatheringCache$State;" ∈ wsX4_ticksToLoss) dX4_ticksToLoss_1 ?_
  obtain ⟨y1, h_y1, hf⟩ := bnd hf
  refine cl_iV C0 hH.swap hl.1 (As := []) (rest := []) (mX1_canDestage l D ca a (tW b ca t ++ hW a b h f ca hh S wr) u h_y1) gX4_ticksToLoss_X1_canDestage rfl rfl rfl hd_X1_canDestage ⟨Nat.le_of_ble_eq_true rfl, Nat.le_of_ble_eq_true rfl⟩ ⟨Nat.zero_le _, Nat.zero_le _⟩ (vS_X1 C0 hH.swap) rfl (Nat.le_of_ble_eq_true rfl) dX4_ticksToLoss_4 (fun H locs hH => ?_)
  have hH := hH.swap
  refine lv_if_ne (tgt := 23) hx hb dX4_ticksToLoss_7 (by decide) (fun c2 => ?_) (fun c2 => ?_)
  · rw [if_neg c2] at hf
    exact J23 _ _ _ hf hH (lv_sub hl [] rfl)
  · rw [if_pos c2] at hf
    refine lv_aload_n hx hb dX4_ticksToLoss_10 rfl (lv_at hl 0 rfl) ?_
    refine gG_X4_now C0 hH inX4_ticksToLoss_X4 (by decide +kernel : Cond.fieldLink RX4 10 "GatheringCache" "now" "LGatheringCache$State;" ∈ wsX4_ticksToLoss) dX4_ticksToLoss_11 ?_
    refine gS_X1_stick C0 hH.swap inX4_ticksToLoss_X1 (by decide +kernel : Cond.fieldLink RX4 74 "GatheringCache$State" "stick" "LGatheringCache$Stick;" ∈ wsX4_ticksToLoss) dX4_ticksToLoss_14 ?_
    obtain ⟨y3, h_y3, hf⟩ := bnd hf
    refine cl_iV C0 hH.swap hl.1 (As := []) (rest := []) (mX2_dirtyLines l D ca a (tW b ca t ++ hW a b h f ca hh S wr) u h_y3) gX4_ticksToLoss_X2_dirtyLines rfl rfl rfl hd_X2_dirtyLines ⟨Nat.le_of_ble_eq_true rfl, Nat.le_of_ble_eq_true rfl⟩ ⟨Nat.zero_le _, Nat.zero_le _⟩ (vS_X2 C0 hH.swap) rfl (Nat.le_of_ble_eq_true rfl) dX4_ticksToLoss_17 (fun H locs hH => ?_)
    have hH := hH.swap
    refine lv_if_ne (tgt := 25) hx hb dX4_ticksToLoss_20 (by decide) (fun c4 => ?_) (fun c4 => ?_)
    · rw [if_neg c4] at hf
      refine lv_aload_n hx hb dX4_ticksToLoss_25 rfl (lv_at hl 0 rfl) ?_
      refine gG_X4_now C0 hH inX4_ticksToLoss_X4 (by decide +kernel : Cond.fieldLink RX4 10 "GatheringCache" "now" "LGatheringCache$State;" ∈ wsX4_ticksToLoss) dX4_ticksToLoss_26 ?_
      refine gS_X1_stick C0 hH.swap inX4_ticksToLoss_X1 (by decide +kernel : Cond.fieldLink RX4 74 "GatheringCache$State" "stick" "LGatheringCache$Stick;" ∈ wsX4_ticksToLoss) dX4_ticksToLoss_29 ?_
      refine gS_X2_charge C0 hH.swap inX4_ticksToLoss_X2 (by decide +kernel : Cond.fieldLink RX4 78 "GatheringCache$Stick" "charge" "I" ∈ wsX4_ticksToLoss) dX4_ticksToLoss_32 ?_
      cases hf
      exact hend _ _ _ _ hH rfl dX4_ticksToLoss_35
    · rw [if_pos c4] at hf
      exact J23 _ _ _ hf hH (lv_sub hl [] rfl)
def pX4_count (t : Mem) (u : Mem) (hh : Mem) (S : Nat → Mem) (x1 : Int32) : Option Int32 :=
  if x1 < 0 then
    none
  else
    if x1 ≤ 7 then
      (ld u 10 9 x1).bind fun y3 =>
      some y3
    else
      none
def rmX4_count : Room := { frames := 0, cells := 0, slots := 0, locals := 0 }
theorem hd_X4_count : yX4_count.cls = RX4 ∧ yX4_count.cls ≠ "java/lang/invoke/MethodHandle" ∧ yX4_count.cls ≠ "java/lang/invoke/VarHandle" ∧ (parseMethodDescriptor yX4_count.desc).map (fun d => d.parameters.length) = some 1 := by decide +kernel
theorem inX4_count_X1 : ∀ w ∈ wsX10, w ∈ wsX4_count := by decide +kernel
theorem inX4_count_X4 : ∀ w ∈ wsX40, w ∈ wsX4_count := by decide +kernel
set_option maxHeartbeats 4000000 in
set_option maxRecDepth 100000 in
theorem mX4_count (l : Launch) (D : va_G) (ca : Gp) (a b h : Nat → Nat) (f : Nat → Nat → Nat) (wr : va_W) (t u hh : Mem) (S : Nat → Mem) (x1 : Int32) {r : Int32} (hf : pX4_count t u hh S x1 = some r) : Mi l yX4_count wsX4_count rmX4_count D ca [.ref (h 2), .int x1] (gW a b h f ca t u hh S wr) (gW a b h f ca t u hh S wr) r := by
  refine Mi_of (own := RX4) (cc := cX4_count) (nL := 2) (ty := .int) (by decide) rfl rfl rfl rfl (Nat.le_of_ble_eq_true rfl) ?_
  intro p e s m args below meth c Q A ls C0 hH hl hend
  obtain ⟨hx, hb, hml, hown, hts⟩ := id C0.1
  have hl : lv_has ls 2 [(0, .ref (h 2)), (1, .int x1)] := hl
  unfold pX4_count at hf
  refine lv_iload_n hx hb dX4_count_0 rfl (lv_at hl 1 rfl) ?_
  refine lv_if_lt (tgt := 10) hx hb dX4_count_1 (by decide) (fun c1 => ?_) (fun c1 => ?_)
  · rw [if_pos c1] at hf
    cases hf
  · rw [if_neg c1] at hf
    refine lv_iload_n hx hb dX4_count_4 rfl (lv_at hl 1 rfl) ?_
    refine lv_bipush (v := 7) hx hb dX4_count_5 (by decide) ?_
    refine lv_icmp_le (tgt := 20) hx hb dX4_count_7 (by decide) (fun c2 => ?_) (fun c2 => ?_)
    · rw [if_pos c2] at hf
      refine lv_aload_n hx hb dX4_count_20 rfl (lv_at hl 0 rfl) ?_
      refine gG_X4_now C0 hH inX4_count_X4 (by decide +kernel : Cond.fieldLink RX4 10 "GatheringCache" "now" "LGatheringCache$State;" ∈ wsX4_count) dX4_count_21 ?_
      refine gS_X1_counts C0 hH.swap inX4_count_X1 (by decide +kernel : Cond.fieldLink RX4 183 "GatheringCache$State" "counts" "[I" ∈ wsX4_count) dX4_count_24 ?_
      refine lv_iload_n hx hb dX4_count_27 rfl (lv_at hl 1 rfl) ?_
      obtain ⟨y3, h_y3, hf⟩ := bnd hf
      refine lS_counts C0 hH.swap h_y3 dX4_count_28 ?_
      cases hf
      exact hend _ _ _ _ hH rfl dX4_count_29
    · rw [if_neg c2] at hf
      cases hf
def pX4_savedStates (t : Mem) (u : Mem) (hh : Mem) (S : Nat → Mem) : Option Int32 :=
  some (hh 0 0)
def rmX4_savedStates : Room := { frames := 0, cells := 0, slots := 0, locals := 0 }
theorem hd_X4_savedStates : yX4_savedStates.cls = RX4 ∧ yX4_savedStates.cls ≠ "java/lang/invoke/MethodHandle" ∧ yX4_savedStates.cls ≠ "java/lang/invoke/VarHandle" ∧ (parseMethodDescriptor yX4_savedStates.desc).map (fun d => d.parameters.length) = some 0 := by decide +kernel
theorem inX4_savedStates_X0 : ∀ w ∈ wsX00, w ∈ wsX4_savedStates := by decide +kernel
theorem inX4_savedStates_X4 : ∀ w ∈ wsX40, w ∈ wsX4_savedStates := by decide +kernel
set_option maxHeartbeats 4000000 in
set_option maxRecDepth 100000 in
theorem mX4_savedStates (l : Launch) (D : va_G) (ca : Gp) (a b h : Nat → Nat) (f : Nat → Nat → Nat) (wr : va_W) (t u hh : Mem) (S : Nat → Mem) {r : Int32} (hf : pX4_savedStates t u hh S = some r) : Mi l yX4_savedStates wsX4_savedStates rmX4_savedStates D ca [.ref (h 2)] (gW a b h f ca t u hh S wr) (gW a b h f ca t u hh S wr) r := by
  refine Mi_of (own := RX4) (cc := cX4_savedStates) (nL := 1) (ty := .int) (by decide) rfl rfl rfl rfl (Nat.le_of_ble_eq_true rfl) ?_
  intro p e s m args below meth c Q A ls C0 hH hl hend
  obtain ⟨hx, hb, hml, hown, hts⟩ := id C0.1
  have hl : lv_has ls 1 [(0, .ref (h 2))] := hl
  unfold pX4_savedStates at hf
  refine lv_aload_n hx hb dX4_savedStates_0 rfl (lv_at hl 0 rfl) ?_
  refine gG_X4_history C0 hH inX4_savedStates_X4 (by decide +kernel : Cond.fieldLink RX4 19 "GatheringCache" "history" "LGatheringCache$History;" ∈ wsX4_savedStates) dX4_savedStates_1 ?_
  refine gG_X0_size C0 hH inX4_savedStates_X0 (by decide +kernel : Cond.fieldLink RX4 135 "GatheringCache$History" "size" "I" ∈ wsX4_savedStates) dX4_savedStates_4 ?_
  cases hf
  exact hend _ _ _ _ hH rfl dX4_savedStates_7
