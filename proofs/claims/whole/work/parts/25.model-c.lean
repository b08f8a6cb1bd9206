/-! CONTRACTS, by program. -/
def rmX5_isValid : Room := { frames := 3, cells := 0, slots := 0, locals := 65 }
theorem hd_X5_isValid : yX5_isValid.cls = RX5 ∧ yX5_isValid.cls ≠ "java/lang/invoke/MethodHandle" ∧ yX5_isValid.cls ≠ "java/lang/invoke/VarHandle" ∧ (parseMethodDescriptor yX5_isValid.desc).map (fun d => d.parameters.length) = some 0 := by decide +kernel
theorem inX5_isValid_X5 : ∀ w ∈ wsX50, w ∈ wsX5_isValid := by decide +kernel
set_option maxHeartbeats 4000000 in
set_option maxRecDepth 100000 in
theorem mX5_isValid (l : Launch) (D : va_G) (ca : Gp) (a : Nat → Nat) (wr : va_W) (u : Mem) {r : Int32} {u9 : Mem} (hf : pX5_isValid u = some (r, u9)) : Mi l yX5_isValid wsX5_isValid rmX5_isValid D ca [.ref (a 0)] (mW a ca u ++ wr) (mW a ca u9 ++ wr) r := by
  refine Mi_of (own := RX5) (cc := cX5_isValid) (nL := 1) (ty := .boolean) (by decide) rfl rfl rfl rfl (Nat.le_of_ble_eq_true rfl) ?_
  intro p e s m args below meth c Q A ls C0 hH hl hend
  obtain ⟨hx, hb, hml, hown, hts⟩ := id C0.1
  have hl : lv_has ls 1 [(0, .ref (a 0))] := hl
  have J5 : ∀ (n : Nat) (u : Mem) (H : Heap) (locs : List Loc) (ls : Array Slot), pX5_isValid_5 n u = some (r, u9) → HS D A s (mW a ca u ++ wr) H locs → lv_has ls 1 [(0, .ref (a 0))] → W p l e rmX5_isValid s m args below meth c H locs 0 0 Q (F0 m 5 ls []) := by
    intro n
    induction n with
    | zero => intro u H locs ls hf; cases hf
    | succ n ih =>
      intro u H locs ls hf hH hl
      have hf : pX5_isValid_5b (pX5_isValid_5 n) u = some (r, u9) := hf
      unfold pX5_isValid_5b at hf
      refine lv_aload_n hx hb dX5_isValid_5 rfl (lv_at hl 0 rfl) ?_
      obtain ⟨y101, u102, h_y101, hf⟩ := bnd2 hf
      refine cl_iV C0 hH hl.1 (As := []) (rest := []) (mX5_readsCommand l D ca a wr u h_y101) gX5_isValid_X5_readsCommand rfl rfl rfl hd_X5_readsCommand ⟨Nat.le_of_ble_eq_true rfl, Nat.le_of_ble_eq_true rfl⟩ ⟨Nat.zero_le _, Nat.zero_le _⟩ (vM_X5 C0 hH) rfl (Nat.le_of_ble_eq_true rfl) dX5_isValid_6 (fun H locs hH => ?_)
      refine lv_if_eq (tgt := 36) hx hb dX5_isValid_9 (by decide) (fun c103 => ?_) (fun c103 => ?_)
      · rw [if_pos c103] at hf
        refine lv_iconst (v := 0) hx hb dX5_isValid_36 (by decide) ?_
        cases hf
        exact hend _ _ _ _ hH rfl dX5_isValid_37
      · rw [if_neg c103] at hf
        refine lv_aload_n hx hb dX5_isValid_12 rfl (lv_at hl 0 rfl) ?_
        refine gM_X5_at C0 hH inX5_isValid_X5 (by decide +kernel : Cond.fieldLink RX5 128 "GatheringCacheModel" "at" "I" ∈ wsX5_isValid) dX5_isValid_13 ?_
        refine lv_aload_n hx hb dX5_isValid_16 rfl (lv_at hl 0 rfl) ?_
        refine gM_X5_length C0 hH inX5_isValid_X5 (by decide +kernel : Cond.fieldLink RX5 125 "GatheringCacheModel" "length" "I" ∈ wsX5_isValid) dX5_isValid_17 ?_
        refine lv_icmp_ne (tgt := 25) hx hb dX5_isValid_20 (by decide) (fun c104 => ?_) (fun c104 => ?_)
        · rw [if_neg c104] at hf
          refine lv_aload_n hx hb dX5_isValid_25 rfl (lv_at hl 0 rfl) ?_
          refine lv_bipush (v := 59) hx hb dX5_isValid_26 (by decide) ?_
          obtain ⟨y105, u106, h_y105, hf⟩ := bnd2 hf
          refine cl_iV C0 hH hl.1 (As := [.int 59]) (rest := []) (mX5_takes l D ca a wr u102 59 h_y105) gX5_isValid_X5_takes rfl rfl rfl hd_X5_takes ⟨Nat.le_of_ble_eq_true rfl, Nat.le_of_ble_eq_true rfl⟩ ⟨Nat.zero_le _, Nat.zero_le _⟩ (vM_X5 C0 hH) rfl (Nat.le_of_ble_eq_true rfl) dX5_isValid_28 (fun H locs hH => ?_)
          refine lv_if_ne (tgt := 5) hx hb dX5_isValid_31 (by decide) (fun c107 => ?_) (fun c107 => ?_)
          · rw [if_neg c107] at hf
            exact ih _ _ _ _ hf hH (lv_sub hl [0] rfl)
          · rw [if_pos c107] at hf
            refine lv_iconst (v := 0) hx hb dX5_isValid_34 (by decide) ?_
            cases hf
            exact hend _ _ _ _ hH rfl dX5_isValid_35
        · rw [if_pos c104] at hf
          refine lv_iconst (v := 1) hx hb dX5_isValid_23 (by decide) ?_
          cases hf
          exact hend _ _ _ _ hH rfl dX5_isValid_24
  unfold pX5_isValid at hf
  refine lv_aload_n hx hb dX5_isValid_0 rfl (lv_at hl 0 rfl) ?_
  refine lv_iconst (v := 0) hx hb dX5_isValid_1 (by decide) ?_
  obtain ⟨u1, h_u1, hf⟩ := bnd hf
  refine pM_X5_at C0 hH inX5_isValid_X5 h_u1 (by decide +kernel : Cond.fieldLink RX5 128 "GatheringCacheModel" "at" "I" ∈ wsX5_isValid) dX5_isValid_2 (fun H locs hH => ?_)
  exact J5 FU _ _ _ _ hf hH (lv_sub hl [0] rfl)
def rmX5_errorPosition : Room := { frames := 4, cells := 0, slots := 0, locals := 85 }
theorem hd_X5_errorPosition : yX5_errorPosition.cls = RX5 ∧ yX5_errorPosition.cls ≠ "java/lang/invoke/MethodHandle" ∧ yX5_errorPosition.cls ≠ "java/lang/invoke/VarHandle" ∧ (parseMethodDescriptor yX5_errorPosition.desc).map (fun d => d.parameters.length) = some 0 := by decide +kernel
theorem inX5_errorPosition_X5 : ∀ w ∈ wsX50, w ∈ wsX5_errorPosition := by decide +kernel
set_option maxHeartbeats 4000000 in
set_option maxRecDepth 100000 in
theorem mX5_errorPosition (l : Launch) (D : va_G) (ca : Gp) (a : Nat → Nat) (wr : va_W) (u : Mem) {r : Int32} {u9 : Mem} (hf : pX5_errorPosition u = some (r, u9)) : Mi l yX5_errorPosition wsX5_errorPosition rmX5_errorPosition D ca [.ref (a 0)] (mW a ca u ++ wr) (mW a ca u9 ++ wr) r := by
  refine Mi_of (own := RX5) (cc := cX5_errorPosition) (nL := 1) (ty := .int) (by decide) rfl rfl rfl rfl (Nat.le_of_ble_eq_true rfl) ?_
  intro p e s m args below meth c Q A ls C0 hH hl hend
  obtain ⟨hx, hb, hml, hown, hts⟩ := id C0.1
  have hl : lv_has ls 1 [(0, .ref (a 0))] := hl
  have J20 : ∀ (s0 : Int32) (u : Mem) (H : Heap) (locs : List Loc) (ls : Array Slot), pX5_errorPosition_20 s0 u = some (r, u9) → HS D A s (mW a ca u ++ wr) H locs → lv_has ls 1 [] → W p l e rmX5_errorPosition s m args below meth c H locs 0 0 Q (F0 m 20 ls [.int s0]) := by
    intro s0 u H locs ls hf hH hl
    unfold pX5_errorPosition_20 at hf
    cases hf
    exact hend _ _ _ _ hH rfl dX5_errorPosition_20
  unfold pX5_errorPosition at hf
  refine lv_aload_n hx hb dX5_errorPosition_0 rfl (lv_at hl 0 rfl) ?_
  refine lv_iconst (v := 0) hx hb dX5_errorPosition_1 (by decide) ?_
  obtain ⟨u1, h_u1, hf⟩ := bnd hf
  refine pM_X5_thrown C0 hH inX5_errorPosition_X5 h_u1 (by decide +kernel : Cond.fieldLink RX5 16 "GatheringCacheModel" "thrown" "I" ∈ wsX5_errorPosition) dX5_errorPosition_2 (fun H locs hH => ?_)
  refine lv_aload_n hx hb dX5_errorPosition_5 rfl (lv_at hl 0 rfl) ?_
  obtain ⟨y2, u3, h_y2, hf⟩ := bnd2 hf
  refine cl_iV C0 hH hl.1 (As := []) (rest := []) (mX5_isValid l D ca a wr u1 h_y2) gX5_errorPosition_X5_isValid rfl rfl rfl hd_X5_isValid ⟨Nat.le_of_ble_eq_true rfl, Nat.le_of_ble_eq_true rfl⟩ ⟨Nat.zero_le _, Nat.zero_le _⟩ (vM_X5 C0 hH) rfl (Nat.le_of_ble_eq_true rfl) dX5_errorPosition_6 (fun H locs hH => ?_)
  refine lv_if_eq (tgt := 16) hx hb dX5_errorPosition_9 (by decide) (fun c4 => ?_) (fun c4 => ?_)
  · rw [if_pos c4] at hf
    refine lv_aload_n hx hb dX5_errorPosition_16 rfl (lv_at hl 0 rfl) ?_
    refine gM_X5_at C0 hH inX5_errorPosition_X5 (by decide +kernel : Cond.fieldLink RX5 128 "GatheringCacheModel" "at" "I" ∈ wsX5_errorPosition) dX5_errorPosition_17 ?_
    exact J20 _ _ _ _ _ hf hH (lv_sub hl [] rfl)
  · rw [if_neg c4] at hf
    refine lv_iconst (v := (-1)) hx hb dX5_errorPosition_12 (by decide) ?_
    refine lv_goto (tgt := 20) hx hb dX5_errorPosition_13 (by decide) ?_
    exact J20 _ _ _ _ _ hf hH (lv_sub hl [] rfl)
def rmX5_can : Room := { frames := 1, cells := 0, slots := 0, locals := 20 }
theorem hd_X5_can : yX5_can.cls = RX5 ∧ yX5_can.cls ≠ "java/lang/invoke/MethodHandle" ∧ yX5_can.cls ≠ "java/lang/invoke/VarHandle" ∧ (parseMethodDescriptor yX5_can.desc).map (fun d => d.parameters.length) = some 0 := by decide +kernel
theorem inX5_can_X5 : ∀ w ∈ wsX50, w ∈ wsX5_can := by decide +kernel
set_option maxHeartbeats 4000000 in
set_option maxRecDepth 100000 in
theorem mX5_can (l : Launch) (D : va_G) (ca : Gp) (a : Nat → Nat) (wr : va_W) (u : Mem) {r : Int32} (hf : pX5_can u = some r) : Mi l yX5_can wsX5_can rmX5_can D ca [.ref (a 0)] (mW a ca u ++ wr) (mW a ca u ++ wr) r := by
  refine Mi_of (own := RX5) (cc := cX5_can) (nL := 1) (ty := .boolean) (by decide) rfl rfl rfl rfl (Nat.le_of_ble_eq_true rfl) ?_
  intro p e s m args below meth c Q A ls C0 hH hl hend
  obtain ⟨hx, hb, hml, hown, hts⟩ := id C0.1
  have hl : lv_has ls 1 [(0, .ref (a 0))] := hl
  have J63 : ∀ (s0 : Int32) (H : Heap) (locs : List Loc) (ls : Array Slot), pX5_can_63 u s0 = some r → HS D A s (mW a ca u ++ wr) H locs → lv_has ls 1 [] → W p l e rmX5_can s m args below meth c H locs 0 0 Q (F0 m 63 ls [.int s0]) := by
    intro s0 H locs ls hf hH hl
    unfold pX5_can_63 at hf
    obtain ⟨hz, hf⟩ := gd hf
    cases hf
    exact hend _ _ _ _ hH (isz_n hz) dX5_can_63
  have J83 : ∀ (s0 : Int32) (H : Heap) (locs : List Loc) (ls : Array Slot), pX5_can_83 u s0 = some r → HS D A s (mW a ca u ++ wr) H locs → lv_has ls 1 [] → W p l e rmX5_can s m args below meth c H locs 0 0 Q (F0 m 83 ls [.int s0]) := by
    intro s0 H locs ls hf hH hl
    unfold pX5_can_83 at hf
    obtain ⟨hz, hf⟩ := gd hf
    cases hf
    exact hend _ _ _ _ hH (isz_n hz) dX5_can_83
  unfold pX5_can at hf
  refine lv_aload_n hx hb dX5_can_0 rfl (lv_at hl 0 rfl) ?_
  refine gM_X5_letter C0 hH inX5_can_X5 (by decide +kernel : Cond.fieldLink RX5 134 "GatheringCacheModel" "letter" "I" ∈ wsX5_can) dX5_can_1 ?_
  by_cases c8_0 : (u 0 4) = 100
  · rw [if_pos c8_0] at hf
    refine sw_lk hx hb (v := 100) (tgt := 64) c8_0 dX5_can_4 (by decide) rfl (by decide) ?_
    refine lv_aload_n hx hb dX5_can_64 rfl (lv_at hl 0 rfl) ?_
    obtain ⟨y1, h_y1, hf⟩ := bnd hf
    refine cl_iV C0 hH hl.1 (As := []) (rest := []) (mX5_isCharging l D ca a wr u h_y1) gX5_can_X5_isCharging rfl rfl rfl hd_X5_isCharging ⟨Nat.le_of_ble_eq_true rfl, Nat.le_of_ble_eq_true rfl⟩ ⟨Nat.zero_le _, Nat.zero_le _⟩ (vM_X5 C0 hH) rfl (Nat.le_of_ble_eq_true rfl) dX5_can_65 (fun H locs hH => ?_)
    obtain ⟨hz, hf⟩ := gd hf
    cases hf
    exact hend _ _ _ _ hH (isz_n hz) dX5_can_68
  rw [if_neg c8_0] at hf
  by_cases c8_1 : (u 0 4) = 109
  · rw [if_pos c8_1] at hf
    refine sw_lk hx hb (v := 109) (tgt := 69) c8_1 dX5_can_4 (by decide) rfl (by decide) ?_
    refine lv_aload_n hx hb dX5_can_69 rfl (lv_at hl 0 rfl) ?_
    refine gM_X5_s C0 hH inX5_can_X5 (by decide +kernel : Cond.fieldLink RX5 7 "GatheringCacheModel" "s" "[I" ∈ wsX5_can) dX5_can_70 ?_
    refine lv_iconst (v := 1) hx hb dX5_can_73 (by decide) ?_
    obtain ⟨y2, h_y2, hf⟩ := bnd hf
    refine lM_s C0 hH h_y2 dX5_can_74 ?_
    refine lv_if_ne (tgt := 82) hx hb dX5_can_75 (by decide) (fun c3 => ?_) (fun c3 => ?_)
    · rw [if_neg c3] at hf
      refine lv_iconst (v := 0) hx hb dX5_can_82 (by decide) ?_
      exact J83 _ _ _ _ hf hH (lv_sub hl [] rfl)
    · rw [if_pos c3] at hf
      refine lv_iconst (v := 1) hx hb dX5_can_78 (by decide) ?_
      refine lv_goto (tgt := 83) hx hb dX5_can_79 (by decide) ?_
      exact J83 _ _ _ _ hf hH (lv_sub hl [] rfl)
  rw [if_neg c8_1] at hf
  by_cases c8_2 : (u 0 4) = 114
  · rw [if_pos c8_2] at hf
    refine sw_lk hx hb (v := 114) (tgt := 48) c8_2 dX5_can_4 (by decide) rfl (by decide) ?_
    refine lv_aload_n hx hb dX5_can_48 rfl (lv_at hl 0 rfl) ?_
    refine gM_X5_s C0 hH inX5_can_X5 (by decide +kernel : Cond.fieldLink RX5 7 "GatheringCacheModel" "s" "[I" ∈ wsX5_can) dX5_can_49 ?_
    refine lv_iconst (v := 1) hx hb dX5_can_52 (by decide) ?_
    obtain ⟨y4, h_y4, hf⟩ := bnd hf
    refine lM_s C0 hH h_y4 dX5_can_53 ?_
    refine lv_iconst (v := 1) hx hb dX5_can_54 (by decide) ?_
    refine lv_icmp_ne (tgt := 62) hx hb dX5_can_55 (by decide) (fun c5 => ?_) (fun c5 => ?_)
    · rw [if_neg c5] at hf
      refine lv_iconst (v := 0) hx hb dX5_can_62 (by decide) ?_
      exact J63 _ _ _ _ hf hH (lv_sub hl [] rfl)
    · rw [if_pos c5] at hf
      refine lv_iconst (v := 1) hx hb dX5_can_58 (by decide) ?_
      refine lv_goto (tgt := 63) hx hb dX5_can_59 (by decide) ?_
      exact J63 _ _ _ _ hf hH (lv_sub hl [] rfl)
  rw [if_neg c8_2] at hf
  by_cases c8_3 : (u 0 4) = 119
  · rw [if_pos c8_3] at hf
    refine sw_lk hx hb (v := 119) (tgt := 48) c8_3 dX5_can_4 (by decide) rfl (by decide) ?_
    refine lv_aload_n hx hb dX5_can_48 rfl (lv_at hl 0 rfl) ?_
    refine gM_X5_s C0 hH inX5_can_X5 (by decide +kernel : Cond.fieldLink RX5 7 "GatheringCacheModel" "s" "[I" ∈ wsX5_can) dX5_can_49 ?_
    refine lv_iconst (v := 1) hx hb dX5_can_52 (by decide) ?_
    obtain ⟨y6, h_y6, hf⟩ := bnd hf
    refine lM_s C0 hH h_y6 dX5_can_53 ?_
    refine lv_iconst (v := 1) hx hb dX5_can_54 (by decide) ?_
    refine lv_icmp_ne (tgt := 62) hx hb dX5_can_55 (by decide) (fun c7 => ?_) (fun c7 => ?_)
    · rw [if_neg c7] at hf
      refine lv_iconst (v := 0) hx hb dX5_can_62 (by decide) ?_
      exact J63 _ _ _ _ hf hH (lv_sub hl [] rfl)
    · rw [if_pos c7] at hf
      refine lv_iconst (v := 1) hx hb dX5_can_58 (by decide) ?_
      refine lv_goto (tgt := 63) hx hb dX5_can_59 (by decide) ?_
      exact J63 _ _ _ _ hf hH (lv_sub hl [] rfl)
  rw [if_neg c8_3] at hf
  refine sw_lkd hx hb (tgt := 84) (sw_ne (vs := [100, 109, 114, 119]) ⟨c8_0, c8_1, c8_2, c8_3, trivial⟩) dX5_can_4 (by decide) (by decide) (by decide) ?_
  refine lv_iconst (v := 1) hx hb dX5_can_84 (by decide) ?_
  cases hf
  exact hend _ _ _ _ hH rfl dX5_can_85
def rmX5_does : Room := { frames := 6, cells := 0, slots := 0, locals := 136 }
theorem hd_X5_does : yX5_does.cls = RX5 ∧ yX5_does.cls ≠ "java/lang/invoke/MethodHandle" ∧ yX5_does.cls ≠ "java/lang/invoke/VarHandle" ∧ (parseMethodDescriptor yX5_does.desc).map (fun d => d.parameters.length) = some 0 := by decide +kernel
theorem inX5_does_X5 : ∀ w ∈ wsX50, w ∈ wsX5_does := by decide +kernel
set_option maxHeartbeats 4000000 in
set_option maxRecDepth 100000 in
theorem mX5_does (l : Launch) (D : va_G) (ca : Gp) (a : Nat → Nat) (wr : va_W) (u : Mem) {u9 : Mem} (hf : pX5_does u = some u9) : Mv l yX5_does wsX5_does rmX5_does D ca [.ref (a 0)] (mW a ca u ++ wr) (mW a ca u9 ++ wr) := by
  refine Mv_of (own := RX5) (cc := cX5_does) (nL := 1) (by decide) rfl rfl rfl rfl (Nat.le_of_ble_eq_true rfl) ?_
  intro p e s m args below meth c Q A ls C0 hH hl hend
  obtain ⟨hx, hb, hml, hown, hts⟩ := id C0.1
  have hl : lv_has ls 1 [(0, .ref (a 0))] := hl
  have J149 : ∀ (u : Mem) (H : Heap) (locs : List Loc) (ls : Array Slot), pX5_does_149 u = some u9 → HS D A s (mW a ca u ++ wr) H locs → lv_has ls 1 [] → W p l e rmX5_does s m args below meth c H locs 0 0 Q (F0 m 149 ls []) := by
    intro u H locs ls hf hH hl
    unfold pX5_does_149 at hf
    cases hf
    exact hend _ _ _ _ hH dX5_does_149
  have J123 : ∀ (s1 : Int32) (u : Mem) (H : Heap) (locs : List Loc) (ls : Array Slot), pX5_does_123 s1 u = some u9 → HS D A s (mW a ca u ++ wr) H locs → lv_has ls 1 [] → W p l e rmX5_does s m args below meth c H locs 0 0 Q (F0 m 123 ls [.int s1, .ref (a 0)]) := by
    intro s1 u H locs ls hf hH hl
    unfold pX5_does_123 at hf
    obtain ⟨y101, u102, h_y101, hf⟩ := bnd2 hf
    refine cl_iV C0 hH hl.1 (As := [.int s1]) (rest := []) (mX5_powers l D ca a wr u s1 h_y101) gX5_does_X5_powers rfl rfl rfl hd_X5_powers ⟨Nat.le_of_ble_eq_true rfl, Nat.le_of_ble_eq_true rfl⟩ ⟨Nat.zero_le _, Nat.zero_le _⟩ (vM_X5 C0 hH) rfl (Nat.le_of_ble_eq_true rfl) dX5_does_123 (fun H locs hH => ?_)
    refine lv_pop hx hb dX5_does_126 rfl ?_
    refine lv_goto (tgt := 149) hx hb dX5_does_127 (by decide) ?_
    exact J149 _ _ _ _ hf hH (lv_sub hl [] rfl)
  have J145 : ∀ (s1 : Int32) (u : Mem) (H : Heap) (locs : List Loc) (ls : Array Slot), pX5_does_145 s1 u = some u9 → HS D A s (mW a ca u ++ wr) H locs → lv_has ls 1 [] → W p l e rmX5_does s m args below meth c H locs 0 0 Q (F0 m 145 ls [.int s1, .ref (a 0)]) := by
    intro s1 u H locs ls hf hH hl
    unfold pX5_does_145 at hf
    obtain ⟨y201, u202, h_y201, hf⟩ := bnd2 hf
    refine cl_iV C0 hH hl.1 (As := [.int s1]) (rest := []) (mX5_movesStick l D ca a wr u s1 h_y201) gX5_does_X5_movesStick rfl rfl rfl hd_X5_movesStick ⟨Nat.le_of_ble_eq_true rfl, Nat.le_of_ble_eq_true rfl⟩ ⟨Nat.zero_le _, Nat.zero_le _⟩ (vM_X5 C0 hH) rfl (Nat.le_of_ble_eq_true rfl) dX5_does_145 (fun H locs hH => ?_)
    refine lv_pop hx hb dX5_does_148 rfl ?_
    exact J149 _ _ _ _ hf hH (lv_sub hl [] rfl)
  unfold pX5_does at hf
  refine lv_aload_n hx hb dX5_does_0 rfl (lv_at hl 0 rfl) ?_
  refine gM_X5_letter C0 hH inX5_does_X5 (by decide +kernel : Cond.fieldLink RX5 134 "GatheringCacheModel" "letter" "I" ∈ wsX5_does) dX5_does_1 ?_
  by_cases c13_0 : (u 0 4) = 100
  · rw [if_pos c13_0] at hf
    refine sw_lk hx hb (v := 100) (tgt := 84) c13_0 dX5_does_4 (by decide) rfl (by decide) ?_
    refine lv_aload_n hx hb dX5_does_84 rfl (lv_at hl 0 rfl) ?_
    refine lv_aload_n hx hb dX5_does_85 rfl (lv_at hl 0 rfl) ?_
    refine gM_X5_first C0 hH inX5_does_X5 (by decide +kernel : Cond.fieldLink RX5 143 "GatheringCacheModel" "first" "I" ∈ wsX5_does) dX5_does_86 ?_
    obtain ⟨y1, u2, h_y1, hf⟩ := bnd2 hf
    refine cl_iV C0 hH hl.1 (As := [.int (u 0 5)]) (rest := []) (mX5_destages l D ca a wr u (u 0 5) h_y1) gX5_does_X5_destages rfl rfl rfl hd_X5_destages ⟨Nat.le_of_ble_eq_true rfl, Nat.le_of_ble_eq_true rfl⟩ ⟨Nat.zero_le _, Nat.zero_le _⟩ (vM_X5 C0 hH) rfl (Nat.le_of_ble_eq_true rfl) dX5_does_89 (fun H locs hH => ?_)
    refine lv_pop hx hb dX5_does_92 rfl ?_
    refine lv_goto (tgt := 149) hx hb dX5_does_93 (by decide) ?_
    exact J149 _ _ _ _ hf hH (lv_sub hl [] rfl)
  rw [if_neg c13_0] at hf
  by_cases c13_1 : (u 0 4) = 112
  · rw [if_pos c13_1] at hf
    refine sw_lk hx hb (v := 112) (tgt := 108) c13_1 dX5_does_4 (by decide) rfl (by decide) ?_
    refine lv_aload_n hx hb dX5_does_108 rfl (lv_at hl 0 rfl) ?_
    refine lv_aload_n hx hb dX5_does_109 rfl (lv_at hl 0 rfl) ?_
    refine gM_X5_s C0 hH inX5_does_X5 (by decide +kernel : Cond.fieldLink RX5 7 "GatheringCacheModel" "s" "[I" ∈ wsX5_does) dX5_does_110 ?_
    refine lv_iconst (v := 1) hx hb dX5_does_113 (by decide) ?_
    obtain ⟨y3, h_y3, hf⟩ := bnd hf
    refine lM_s C0 hH h_y3 dX5_does_114 ?_
    refine lv_if_ne (tgt := 122) hx hb dX5_does_115 (by decide) (fun c4 => ?_) (fun c4 => ?_)
    · rw [if_neg c4] at hf
      refine lv_iconst (v := 0) hx hb dX5_does_122 (by decide) ?_
      exact J123 _ _ _ _ _ hf hH (lv_sub hl [] rfl)
    · rw [if_pos c4] at hf
      refine lv_iconst (v := 1) hx hb dX5_does_118 (by decide) ?_
      refine lv_goto (tgt := 123) hx hb dX5_does_119 (by decide) ?_
      exact J123 _ _ _ _ _ hf hH (lv_sub hl [] rfl)
  rw [if_neg c13_1] at hf
  by_cases c13_2 : (u 0 4) = 114
  · rw [if_pos c13_2] at hf
    refine sw_lk hx hb (v := 114) (tgt := 72) c13_2 dX5_does_4 (by decide) rfl (by decide) ?_
    refine lv_aload_n hx hb dX5_does_72 rfl (lv_at hl 0 rfl) ?_
    refine lv_aload_n hx hb dX5_does_73 rfl (lv_at hl 0 rfl) ?_
    refine gM_X5_first C0 hH inX5_does_X5 (by decide +kernel : Cond.fieldLink RX5 143 "GatheringCacheModel" "first" "I" ∈ wsX5_does) dX5_does_74 ?_
    obtain ⟨y5, u6, h_y5, hf⟩ := bnd2 hf
    refine cl_iV C0 hH hl.1 (As := [.int (u 0 5)]) (rest := []) (mX5_reads l D ca a wr u (u 0 5) h_y5) gX5_does_X5_reads rfl rfl rfl hd_X5_reads ⟨Nat.le_of_ble_eq_true rfl, Nat.le_of_ble_eq_true rfl⟩ ⟨Nat.zero_le _, Nat.zero_le _⟩ (vM_X5 C0 hH) rfl (Nat.le_of_ble_eq_true rfl) dX5_does_77 (fun H locs hH => ?_)
    refine lv_pop hx hb dX5_does_80 rfl ?_
    refine lv_goto (tgt := 149) hx hb dX5_does_81 (by decide) ?_
    exact J149 _ _ _ _ hf hH (lv_sub hl [] rfl)
  rw [if_neg c13_2] at hf
  by_cases c13_3 : (u 0 4) = 116
  · rw [if_pos c13_3] at hf
    refine sw_lk hx hb (v := 116) (tgt := 96) c13_3 dX5_does_4 (by decide) rfl (by decide) ?_
    refine lv_aload_n hx hb dX5_does_96 rfl (lv_at hl 0 rfl) ?_
    refine lv_aload_n hx hb dX5_does_97 rfl (lv_at hl 0 rfl) ?_
    refine gM_X5_first C0 hH inX5_does_X5 (by decide +kernel : Cond.fieldLink RX5 143 "GatheringCacheModel" "first" "I" ∈ wsX5_does) dX5_does_98 ?_
    obtain ⟨y7, u8, h_y7, hf⟩ := bnd2 hf
    refine cl_iV C0 hH hl.1 (As := [.int (u 0 5)]) (rest := []) (mX5_passes l D ca a wr u (u 0 5) h_y7) gX5_does_X5_passes rfl rfl rfl hd_X5_passes ⟨Nat.le_of_ble_eq_true rfl, Nat.le_of_ble_eq_true rfl⟩ ⟨Nat.zero_le _, Nat.zero_le _⟩ (vM_X5 C0 hH) rfl (Nat.le_of_ble_eq_true rfl) dX5_does_101 (fun H locs hH => ?_)
    refine lv_pop hx hb dX5_does_104 rfl ?_
    refine lv_goto (tgt := 149) hx hb dX5_does_105 (by decide) ?_
    exact J149 _ _ _ _ hf hH (lv_sub hl [] rfl)
  rw [if_neg c13_3] at hf
  by_cases c13_4 : (u 0 4) = 119
  · rw [if_pos c13_4] at hf
    refine sw_lk hx hb (v := 119) (tgt := 56) c13_4 dX5_does_4 (by decide) rfl (by decide) ?_
    refine lv_aload_n hx hb dX5_does_56 rfl (lv_at hl 0 rfl) ?_
    refine lv_aload_n hx hb dX5_does_57 rfl (lv_at hl 0 rfl) ?_
    refine gM_X5_first C0 hH inX5_does_X5 (by decide +kernel : Cond.fieldLink RX5 143 "GatheringCacheModel" "first" "I" ∈ wsX5_does) dX5_does_58 ?_
    refine lv_aload_n hx hb dX5_does_61 rfl (lv_at hl 0 rfl) ?_
    refine gM_X5_second C0 hH inX5_does_X5 (by decide +kernel : Cond.fieldLink RX5 146 "GatheringCacheModel" "second" "I" ∈ wsX5_does) dX5_does_62 ?_
    obtain ⟨y9, u10, h_y9, hf⟩ := bnd2 hf
    refine cl_iV C0 hH hl.1 (As := [.int (u 0 5), .int (u 0 6)]) (rest := []) (mX5_writes l D ca a wr u (u 0 5) (u 0 6) h_y9) gX5_does_X5_writes rfl rfl rfl hd_X5_writes ⟨Nat.le_of_ble_eq_true rfl, Nat.le_of_ble_eq_true rfl⟩ ⟨Nat.zero_le _, Nat.zero_le _⟩ (vM_X5 C0 hH) rfl (Nat.le_of_ble_eq_true rfl) dX5_does_65 (fun H locs hH => ?_)
    refine lv_pop hx hb dX5_does_68 rfl ?_
    refine lv_goto (tgt := 149) hx hb dX5_does_69 (by decide) ?_
    exact J149 _ _ _ _ hf hH (lv_sub hl [] rfl)
  rw [if_neg c13_4] at hf
  refine sw_lkd hx hb (tgt := 130) (sw_ne (vs := [100, 112, 114, 116, 119]) ⟨c13_0, c13_1, c13_2, c13_3, c13_4, trivial⟩) dX5_does_4 (by decide) (by decide) (by decide) ?_
  refine lv_aload_n hx hb dX5_does_130 rfl (lv_at hl 0 rfl) ?_
  refine lv_aload_n hx hb dX5_does_131 rfl (lv_at hl 0 rfl) ?_
  refine gM_X5_s C0 hH inX5_does_X5 (by decide +kernel : Cond.fieldLink RX5 7 "GatheringCacheModel" "s" "[I" ∈ wsX5_does) dX5_does_132 ?_
  refine lv_iconst (v := 0) hx hb dX5_does_135 (by decide) ?_
  obtain ⟨y11, h_y11, hf⟩ := bnd hf
  refine lM_s C0 hH h_y11 dX5_does_136 ?_
  refine lv_if_ne (tgt := 144) hx hb dX5_does_137 (by decide) (fun c12 => ?_) (fun c12 => ?_)
  · rw [if_neg c12] at hf
    refine lv_iconst (v := 0) hx hb dX5_does_144 (by decide) ?_
    exact J145 _ _ _ _ _ hf hH (lv_sub hl [] rfl)
  · rw [if_pos c12] at hf
    refine lv_iconst (v := 1) hx hb dX5_does_140 (by decide) ?_
    refine lv_goto (tgt := 145) hx hb dX5_does_141 (by decide) ?_
    exact J145 _ _ _ _ _ hf hH (lv_sub hl [] rfl)
def rmX5_runText : Room := { frames := 7, cells := 0, slots := 0, locals := 156 }
theorem hd_X5_runText : yX5_runText.cls = RX5 ∧ yX5_runText.cls ≠ "java/lang/invoke/MethodHandle" ∧ yX5_runText.cls ≠ "java/lang/invoke/VarHandle" ∧ (parseMethodDescriptor yX5_runText.desc).map (fun d => d.parameters.length) = some 0 := by decide +kernel
theorem inX5_runText_X5 : ∀ w ∈ wsX50, w ∈ wsX5_runText := by decide +kernel
set_option maxHeartbeats 4000000 in
set_option maxRecDepth 100000 in
theorem mX5_runText (l : Launch) (D : va_G) (ca : Gp) (a : Nat → Nat) (wr : va_W) (u : Mem) {r : Int32} {u9 : Mem} (hf : pX5_runText u = some (r, u9)) : Mi l yX5_runText wsX5_runText rmX5_runText D ca [.ref (a 0)] (mW a ca u ++ wr) (mW a ca u9 ++ wr) r := by
  refine Mi_of (own := RX5) (cc := cX5_runText) (nL := 2) (ty := .int) (by decide) rfl rfl rfl rfl (Nat.le_of_ble_eq_true rfl) ?_
  intro p e s m args below meth c Q A ls C0 hH hl hend
  obtain ⟨hx, hb, hml, hown, hts⟩ := id C0.1
  have hl : lv_has ls 2 [(0, .ref (a 0))] := hl
  have J63 : ∀ (x1 : Int32) (u : Mem) (H : Heap) (locs : List Loc) (ls : Array Slot), pX5_runText_63 x1 u = some (r, u9) → HS D A s (mW a ca u ++ wr) H locs → lv_has ls 2 [(1, .int x1)] → W p l e rmX5_runText s m args below meth c H locs 0 0 Q (F0 m 63 ls []) := by
    intro x1 u H locs ls hf hH hl
    unfold pX5_runText_63 at hf
    refine lv_iload_n hx hb dX5_runText_63 rfl (lv_at hl 0 rfl) ?_
    cases hf
    exact hend _ _ _ _ hH rfl dX5_runText_64
  have J32 : ∀ (n : Nat) (x1 : Int32) (u : Mem) (H : Heap) (locs : List Loc) (ls : Array Slot), pX5_runText_32 n x1 u = some (r, u9) → HS D A s (mW a ca u ++ wr) H locs → lv_has ls 2 [(0, .ref (a 0)), (1, .int x1)] → W p l e rmX5_runText s m args below meth c H locs 0 0 Q (F0 m 32 ls []) := by
    intro n
    induction n with
    | zero => intro x1 u H locs ls hf; cases hf
    | succ n ih =>
      intro x1 u H locs ls hf hH hl
      have hf : pX5_runText_32b (pX5_runText_32 n) x1 u = some (r, u9) := hf
      unfold pX5_runText_32b at hf
      refine lv_aload_n hx hb dX5_runText_32 rfl (lv_at hl 0 rfl) ?_
      obtain ⟨y201, u202, h_y201, hf⟩ := bnd2 hf
      refine cl_iV C0 hH hl.1 (As := []) (rest := []) (mX5_readsCommand l D ca a wr u h_y201) gX5_runText_X5_readsCommand rfl rfl rfl hd_X5_readsCommand ⟨Nat.le_of_ble_eq_true rfl, Nat.le_of_ble_eq_true rfl⟩ ⟨Nat.zero_le _, Nat.zero_le _⟩ (vM_X5 C0 hH) rfl (Nat.le_of_ble_eq_true rfl) dX5_runText_33 (fun H locs hH => ?_)
      refine lv_if_eq (tgt := 63) hx hb dX5_runText_36 (by decide) (fun c203 => ?_) (fun c203 => ?_)
      · rw [if_pos c203] at hf
        exact J63 _ _ _ _ _ hf hH (lv_sub hl [1] rfl)
      · rw [if_neg c203] at hf
        refine lv_aload_n hx hb dX5_runText_39 rfl (lv_at hl 0 rfl) ?_
        obtain ⟨y204, h_y204, hf⟩ := bnd hf
        refine cl_iV C0 hH hl.1 (As := []) (rest := []) (mX5_can l D ca a wr u202 h_y204) gX5_runText_X5_can rfl rfl rfl hd_X5_can ⟨Nat.le_of_ble_eq_true rfl, Nat.le_of_ble_eq_true rfl⟩ ⟨Nat.zero_le _, Nat.zero_le _⟩ (vM_X5 C0 hH) rfl (Nat.le_of_ble_eq_true rfl) dX5_runText_40 (fun H locs hH => ?_)
        refine lv_if_eq (tgt := 63) hx hb dX5_runText_43 (by decide) (fun c205 => ?_) (fun c205 => ?_)
        · rw [if_pos c205] at hf
          exact J63 _ _ _ _ _ hf hH (lv_sub hl [1] rfl)
        · rw [if_neg c205] at hf
          refine lv_aload_n hx hb dX5_runText_46 rfl (lv_at hl 0 rfl) ?_
          obtain ⟨u206, h_u206, hf⟩ := bnd hf
          refine cl_vV C0 hH hl.1 (As := []) (rest := []) (mX5_does l D ca a wr u202 h_u206) gX5_runText_X5_does rfl rfl rfl hd_X5_does ⟨Nat.le_of_ble_eq_true rfl, Nat.le_of_ble_eq_true rfl⟩ ⟨Nat.zero_le _, Nat.zero_le _⟩ (vM_X5 C0 hH) rfl (Nat.le_of_ble_eq_true rfl) dX5_runText_47 (fun H locs hH => ?_)
          refine lv_iinc (v := (x1 + 1)) (lv' := [(1, .int (x1 + 1)), (0, .ref (a 0))]) hx hb dX5_runText_50 hl (k := 1) rfl rfl (by decide) rfl (fun ls hl => ?_)
          refine lv_aload_n hx hb dX5_runText_53 rfl (lv_at hl 1 rfl) ?_
          refine lv_bipush (v := 59) hx hb dX5_runText_54 (by decide) ?_
          obtain ⟨y207, u208, h_y207, hf⟩ := bnd2 hf
          refine cl_iV C0 hH hl.1 (As := [.int 59]) (rest := []) (mX5_takes l D ca a wr u206 59 h_y207) gX5_runText_X5_takes rfl rfl rfl hd_X5_takes ⟨Nat.le_of_ble_eq_true rfl, Nat.le_of_ble_eq_true rfl⟩ ⟨Nat.zero_le _, Nat.zero_le _⟩ (vM_X5 C0 hH) rfl (Nat.le_of_ble_eq_true rfl) dX5_runText_56 (fun H locs hH => ?_)
          refine lv_pop hx hb dX5_runText_59 rfl ?_
          refine lv_goto (tgt := 32) hx hb dX5_runText_60 (by decide) ?_
          exact ih _ _ _ _ _ hf hH (lv_sub hl [1, 0] rfl)
  have J13 : ∀ (s1 : Int32) (u : Mem) (H : Heap) (locs : List Loc) (ls : Array Slot), pX5_runText_13 s1 u = some (r, u9) → HS D A s (mW a ca u ++ wr) H locs → lv_has ls 2 [(0, .ref (a 0))] → W p l e rmX5_runText s m args below meth c H locs 0 0 Q (F0 m 13 ls [.int s1, .ref (a 0)]) := by
    intro s1 u H locs ls hf hH hl
    unfold pX5_runText_13 at hf
    obtain ⟨y101, u102, h_y101, hf⟩ := bnd2 hf
    refine cl_iV C0 hH hl.1 (As := [.int s1]) (rest := []) (mX5_holds l D ca a wr u s1 h_y101) gX5_runText_X5_holds rfl rfl rfl hd_X5_holds ⟨Nat.le_of_ble_eq_true rfl, Nat.le_of_ble_eq_true rfl⟩ ⟨Nat.zero_le _, Nat.zero_le _⟩ (vM_X5 C0 hH) rfl (Nat.le_of_ble_eq_true rfl) dX5_runText_13 (fun H locs hH => ?_)
    refine lv_if_ne (tgt := 21) hx hb dX5_runText_16 (by decide) (fun c103 => ?_) (fun c103 => ?_)
    · rw [if_neg c103] at hf
      refine lv_aload_n hx hb dX5_runText_21 rfl (lv_at hl 0 rfl) ?_
      obtain ⟨u104, h_u104, hf⟩ := bnd hf
      refine cl_vV C0 hH hl.1 (As := []) (rest := []) (mX5_keeps l D ca a wr u102 h_u104) gX5_runText_X5_keeps rfl rfl rfl hd_X5_keeps ⟨Nat.le_of_ble_eq_true rfl, Nat.le_of_ble_eq_true rfl⟩ ⟨Nat.zero_le _, Nat.zero_le _⟩ (vM_X5 C0 hH) rfl (Nat.le_of_ble_eq_true rfl) dX5_runText_22 (fun H locs hH => ?_)
      refine lv_aload_n hx hb dX5_runText_25 rfl (lv_at hl 0 rfl) ?_
      refine lv_iconst (v := 0) hx hb dX5_runText_26 (by decide) ?_
      obtain ⟨u105, h_u105, hf⟩ := bnd hf
      refine pM_X5_at C0 hH inX5_runText_X5 h_u105 (by decide +kernel : Cond.fieldLink RX5 128 "GatheringCacheModel" "at" "I" ∈ wsX5_runText) dX5_runText_27 (fun H locs hH => ?_)
      refine lv_iconst (v := 0) hx hb dX5_runText_30 (by decide) ?_
      refine lv_istore_n (lv' := [(1, .int 0), (0, .ref (a 0))]) hx hb dX5_runText_31 rfl hl (by decide) rfl (fun ls hl => ?_)
      exact J32 FU _ _ _ _ _ hf hH (lv_sub hl [1, 0] rfl)
    · rw [if_pos c103] at hf
      refine lv_iconst (v := 0) hx hb dX5_runText_19 (by decide) ?_
      cases hf
      exact hend _ _ _ _ hH rfl dX5_runText_20
  unfold pX5_runText at hf
  refine lv_aload_n hx hb dX5_runText_0 rfl (lv_at hl 0 rfl) ?_
  refine lv_aload_n hx hb dX5_runText_1 rfl (lv_at hl 0 rfl) ?_
  obtain ⟨y1, u2, h_y1, hf⟩ := bnd2 hf
  refine cl_iV C0 hH hl.1 (As := []) (rest := [.ref (a 0)]) (mX5_isValid l D ca a wr u h_y1) gX5_runText_X5_isValid rfl rfl rfl hd_X5_isValid ⟨Nat.le_of_ble_eq_true rfl, Nat.le_of_ble_eq_true rfl⟩ ⟨Nat.zero_le _, Nat.zero_le _⟩ (vM_X5 C0 hH) rfl (Nat.le_of_ble_eq_true rfl) dX5_runText_2 (fun H locs hH => ?_)
  refine lv_if_eq (tgt := 12) hx hb dX5_runText_5 (by decide) (fun c3 => ?_) (fun c3 => ?_)
  · rw [if_pos c3] at hf
    refine lv_iconst (v := 1) hx hb dX5_runText_12 (by decide) ?_
    exact J13 _ _ _ _ _ hf hH (lv_sub hl [0] rfl)
  · rw [if_neg c3] at hf
    refine lv_iconst (v := 0) hx hb dX5_runText_8 (by decide) ?_
    refine lv_goto (tgt := 13) hx hb dX5_runText_9 (by decide) ?_
    exact J13 _ _ _ _ _ hf hH (lv_sub hl [0] rfl)
def rmX5_undo : Room := { frames := 1, cells := 0, slots := 0, locals := 23 }
theorem hd_X5_undo : yX5_undo.cls = RX5 ∧ yX5_undo.cls ≠ "java/lang/invoke/MethodHandle" ∧ yX5_undo.cls ≠ "java/lang/invoke/VarHandle" ∧ (parseMethodDescriptor yX5_undo.desc).map (fun d => d.parameters.length) = some 0 := by decide +kernel
theorem inX5_undo_X5 : ∀ w ∈ wsX50, w ∈ wsX5_undo := by decide +kernel
set_option maxHeartbeats 4000000 in
set_option maxRecDepth 100000 in
theorem mX5_undo (l : Launch) (D : va_G) (ca : Gp) (a : Nat → Nat) (wr : va_W) (u : Mem) {r : Int32} {u9 : Mem} (hf : pX5_undo u = some (r, u9)) : Mi l yX5_undo wsX5_undo rmX5_undo D ca [.ref (a 0)] (mW a ca u ++ wr) (mW a ca u9 ++ wr) r := by
  refine Mi_of (own := RX5) (cc := cX5_undo) (nL := 1) (ty := .int) (by decide) rfl rfl rfl rfl (Nat.le_of_ble_eq_true rfl) ?_
  intro p e s m args below meth c Q A ls C0 hH hl hend
  obtain ⟨hx, hb, hml, hown, hts⟩ := id C0.1
  have hl : lv_has ls 1 [(0, .ref (a 0))] := hl
  have J13 : ∀ (s1 : Int32) (u : Mem) (H : Heap) (locs : List Loc) (ls : Array Slot), pX5_undo_13 s1 u = some (r, u9) → HS D A s (mW a ca u ++ wr) H locs → lv_has ls 1 [(0, .ref (a 0))] → W p l e rmX5_undo s m args below meth c H locs 0 0 Q (F0 m 13 ls [.int s1, .ref (a 0)]) := by
    intro s1 u H locs ls hf hH hl
    unfold pX5_undo_13 at hf
    obtain ⟨y101, u102, h_y101, hf⟩ := bnd2 hf
    refine cl_iV C0 hH hl.1 (As := [.int s1]) (rest := []) (mX5_holds l D ca a wr u s1 h_y101) gX5_undo_X5_holds rfl rfl rfl hd_X5_holds ⟨Nat.le_of_ble_eq_true rfl, Nat.le_of_ble_eq_true rfl⟩ ⟨Nat.zero_le _, Nat.zero_le _⟩ (vM_X5 C0 hH) rfl (Nat.le_of_ble_eq_true rfl) dX5_undo_13 (fun H locs hH => ?_)
    refine lv_if_ne (tgt := 21) hx hb dX5_undo_16 (by decide) (fun c103 => ?_) (fun c103 => ?_)
    · rw [if_neg c103] at hf
      refine lv_aload_n hx hb dX5_undo_21 rfl (lv_at hl 0 rfl) ?_
      refine lv_aload_n hx hb dX5_undo_22 rfl (lv_at hl 0 rfl) ?_
      refine gM_X5_saved C0 hH inX5_undo_X5 (by decide +kernel : Cond.fieldLink RX5 90 "GatheringCacheModel" "saved" "I" ∈ wsX5_undo) dX5_undo_23 ?_
      refine lv_iconst (v := 0) hx hb dX5_undo_26 (by decide) ?_
      obtain ⟨u104, h_u104, hf⟩ := bnd hf
      refine cl_vV C0 hH hl.1 (As := [.int (u102 0 1), .int 0]) (rest := []) (mX5_copies l D ca a wr u102 (u102 0 1) 0 h_u104) gX5_undo_X5_copies rfl rfl rfl hd_X5_copies ⟨Nat.le_of_ble_eq_true rfl, Nat.le_of_ble_eq_true rfl⟩ ⟨Nat.zero_le _, Nat.zero_le _⟩ (vM_X5 C0 hH) rfl (Nat.le_of_ble_eq_true rfl) dX5_undo_27 (fun H locs hH => ?_)
      refine lv_aload_n hx hb dX5_undo_30 rfl (lv_at hl 0 rfl) ?_
      refine lv_dup hx hb dX5_undo_31 rfl ?_
      refine gM_X5_saved C0 hH inX5_undo_X5 (by decide +kernel : Cond.fieldLink RX5 90 "GatheringCacheModel" "saved" "I" ∈ wsX5_undo) dX5_undo_32 ?_
      refine lv_iconst (v := 1) hx hb dX5_undo_35 (by decide) ?_
      refine lv_isub hx hb dX5_undo_36 ?_
      obtain ⟨u105, h_u105, hf⟩ := bnd hf
      refine pM_X5_saved C0 hH inX5_undo_X5 h_u105 (by decide +kernel : Cond.fieldLink RX5 90 "GatheringCacheModel" "saved" "I" ∈ wsX5_undo) dX5_undo_37 (fun H locs hH => ?_)
      refine lv_aload_n hx hb dX5_undo_40 rfl (lv_at hl 0 rfl) ?_
      refine gM_X5_saved C0 hH inX5_undo_X5 (by decide +kernel : Cond.fieldLink RX5 90 "GatheringCacheModel" "saved" "I" ∈ wsX5_undo) dX5_undo_41 ?_
      cases hf
      exact hend _ _ _ _ hH rfl dX5_undo_44
    · rw [if_pos c103] at hf
      refine lv_iconst (v := 0) hx hb dX5_undo_19 (by decide) ?_
      cases hf
      exact hend _ _ _ _ hH rfl dX5_undo_20
  unfold pX5_undo at hf
  refine lv_aload_n hx hb dX5_undo_0 rfl (lv_at hl 0 rfl) ?_
  refine lv_aload_n hx hb dX5_undo_1 rfl (lv_at hl 0 rfl) ?_
  refine gM_X5_saved C0 hH inX5_undo_X5 (by decide +kernel : Cond.fieldLink RX5 90 "GatheringCacheModel" "saved" "I" ∈ wsX5_undo) dX5_undo_2 ?_
  refine lv_if_le (tgt := 12) hx hb dX5_undo_5 (by decide) (fun c1 => ?_) (fun c1 => ?_)
  · rw [if_pos c1] at hf
    refine lv_iconst (v := 1) hx hb dX5_undo_12 (by decide) ?_
    exact J13 _ _ _ _ _ hf hH (lv_sub hl [0] rfl)
  · rw [if_neg c1] at hf
    refine lv_iconst (v := 0) hx hb dX5_undo_8 (by decide) ?_
    refine lv_goto (tgt := 13) hx hb dX5_undo_9 (by decide) ?_
    exact J13 _ _ _ _ _ hf hH (lv_sub hl [0] rfl)
def rmX5_isOn : Room := { frames := 0, cells := 0, slots := 0, locals := 0 }
theorem hd_X5_isOn : yX5_isOn.cls = RX5 ∧ yX5_isOn.cls ≠ "java/lang/invoke/MethodHandle" ∧ yX5_isOn.cls ≠ "java/lang/invoke/VarHandle" ∧ (parseMethodDescriptor yX5_isOn.desc).map (fun d => d.parameters.length) = some 0 := by decide +kernel
theorem inX5_isOn_X5 : ∀ w ∈ wsX50, w ∈ wsX5_isOn := by decide +kernel
set_option maxHeartbeats 4000000 in
set_option maxRecDepth 100000 in
theorem mX5_isOn (l : Launch) (D : va_G) (ca : Gp) (a : Nat → Nat) (wr : va_W) (u : Mem) {r : Int32} {u9 : Mem} (hf : pX5_isOn u = some (r, u9)) : Mi l yX5_isOn wsX5_isOn rmX5_isOn D ca [.ref (a 0)] (mW a ca u ++ wr) (mW a ca u9 ++ wr) r := by
  refine Mi_of (own := RX5) (cc := cX5_isOn) (nL := 1) (ty := .boolean) (by decide) rfl rfl rfl rfl (Nat.le_of_ble_eq_true rfl) ?_
  intro p e s m args below meth c Q A ls C0 hH hl hend
  obtain ⟨hx, hb, hml, hown, hts⟩ := id C0.1
  have hl : lv_has ls 1 [(0, .ref (a 0))] := hl
  have J20 : ∀ (s0 : Int32) (u : Mem) (H : Heap) (locs : List Loc) (ls : Array Slot), pX5_isOn_20 s0 u = some (r, u9) → HS D A s (mW a ca u ++ wr) H locs → lv_has ls 1 [] → W p l e rmX5_isOn s m args below meth c H locs 0 0 Q (F0 m 20 ls [.int s0]) := by
    intro s0 u H locs ls hf hH hl
    unfold pX5_isOn_20 at hf
    obtain ⟨hz, hf⟩ := gd hf
    cases hf
    exact hend _ _ _ _ hH (isz_n hz) dX5_isOn_20
  unfold pX5_isOn at hf
  refine lv_aload_n hx hb dX5_isOn_0 rfl (lv_at hl 0 rfl) ?_
  refine lv_iconst (v := 0) hx hb dX5_isOn_1 (by decide) ?_
  obtain ⟨u1, h_u1, hf⟩ := bnd hf
  refine pM_X5_thrown C0 hH inX5_isOn_X5 h_u1 (by decide +kernel : Cond.fieldLink RX5 16 "GatheringCacheModel" "thrown" "I" ∈ wsX5_isOn) dX5_isOn_2 (fun H locs hH => ?_)
  refine lv_aload_n hx hb dX5_isOn_5 rfl (lv_at hl 0 rfl) ?_
  refine gM_X5_s C0 hH inX5_isOn_X5 (by decide +kernel : Cond.fieldLink RX5 7 "GatheringCacheModel" "s" "[I" ∈ wsX5_isOn) dX5_isOn_6 ?_
  refine lv_iconst (v := 1) hx hb dX5_isOn_9 (by decide) ?_
  obtain ⟨y2, h_y2, hf⟩ := bnd hf
  refine lM_s C0 hH h_y2 dX5_isOn_10 ?_
  refine lv_iconst (v := 1) hx hb dX5_isOn_11 (by decide) ?_
  refine lv_icmp_ne (tgt := 19) hx hb dX5_isOn_12 (by decide) (fun c3 => ?_) (fun c3 => ?_)
  · rw [if_neg c3] at hf
    refine lv_iconst (v := 0) hx hb dX5_isOn_19 (by decide) ?_
    exact J20 _ _ _ _ _ hf hH (lv_sub hl [] rfl)
  · rw [if_pos c3] at hf
    refine lv_iconst (v := 1) hx hb dX5_isOn_15 (by decide) ?_
    refine lv_goto (tgt := 20) hx hb dX5_isOn_16 (by decide) ?_
    exact J20 _ _ _ _ _ hf hH (lv_sub hl [] rfl)
def rmX5_isIn : Room := { frames := 0, cells := 0, slots := 0, locals := 0 }
theorem hd_X5_isIn : yX5_isIn.cls = RX5 ∧ yX5_isIn.cls ≠ "java/lang/invoke/MethodHandle" ∧ yX5_isIn.cls ≠ "java/lang/invoke/VarHandle" ∧ (parseMethodDescriptor yX5_isIn.desc).map (fun d => d.parameters.length) = some 0 := by decide +kernel
theorem inX5_isIn_X5 : ∀ w ∈ wsX50, w ∈ wsX5_isIn := by decide +kernel
set_option maxHeartbeats 4000000 in
set_option maxRecDepth 100000 in
theorem mX5_isIn (l : Launch) (D : va_G) (ca : Gp) (a : Nat → Nat) (wr : va_W) (u : Mem) {r : Int32} {u9 : Mem} (hf : pX5_isIn u = some (r, u9)) : Mi l yX5_isIn wsX5_isIn rmX5_isIn D ca [.ref (a 0)] (mW a ca u ++ wr) (mW a ca u9 ++ wr) r := by
  refine Mi_of (own := RX5) (cc := cX5_isIn) (nL := 1) (ty := .boolean) (by decide) rfl rfl rfl rfl (Nat.le_of_ble_eq_true rfl) ?_
  intro p e s m args below meth c Q A ls C0 hH hl hend
  obtain ⟨hx, hb, hml, hown, hts⟩ := id C0.1
  have hl : lv_has ls 1 [(0, .ref (a 0))] := hl
  have J20 : ∀ (s0 : Int32) (u : Mem) (H : Heap) (locs : List Loc) (ls : Array Slot), pX5_isIn_20 s0 u = some (r, u9) → HS D A s (mW a ca u ++ wr) H locs → lv_has ls 1 [] → W p l e rmX5_isIn s m args below meth c H locs 0 0 Q (F0 m 20 ls [.int s0]) := by
    intro s0 u H locs ls hf hH hl
    unfold pX5_isIn_20 at hf
    obtain ⟨hz, hf⟩ := gd hf
    cases hf
    exact hend _ _ _ _ hH (isz_n hz) dX5_isIn_20
  unfold pX5_isIn at hf
  refine lv_aload_n hx hb dX5_isIn_0 rfl (lv_at hl 0 rfl) ?_
  refine lv_iconst (v := 0) hx hb dX5_isIn_1 (by decide) ?_
  obtain ⟨u1, h_u1, hf⟩ := bnd hf
  refine pM_X5_thrown C0 hH inX5_isIn_X5 h_u1 (by decide +kernel : Cond.fieldLink RX5 16 "GatheringCacheModel" "thrown" "I" ∈ wsX5_isIn) dX5_isIn_2 (fun H locs hH => ?_)
  refine lv_aload_n hx hb dX5_isIn_5 rfl (lv_at hl 0 rfl) ?_
  refine gM_X5_s C0 hH inX5_isIn_X5 (by decide +kernel : Cond.fieldLink RX5 7 "GatheringCacheModel" "s" "[I" ∈ wsX5_isIn) dX5_isIn_6 ?_
  refine lv_iconst (v := 0) hx hb dX5_isIn_9 (by decide) ?_
  obtain ⟨y2, h_y2, hf⟩ := bnd hf
  refine lM_s C0 hH h_y2 dX5_isIn_10 ?_
  refine lv_iconst (v := 1) hx hb dX5_isIn_11 (by decide) ?_
  refine lv_icmp_ne (tgt := 19) hx hb dX5_isIn_12 (by decide) (fun c3 => ?_) (fun c3 => ?_)
  · rw [if_neg c3] at hf
    refine lv_iconst (v := 0) hx hb dX5_isIn_19 (by decide) ?_
    exact J20 _ _ _ _ _ hf hH (lv_sub hl [] rfl)
  · rw [if_pos c3] at hf
    refine lv_iconst (v := 1) hx hb dX5_isIn_15 (by decide) ?_
    refine lv_goto (tgt := 20) hx hb dX5_isIn_16 (by decide) ?_
    exact J20 _ _ _ _ _ hf hH (lv_sub hl [] rfl)
def rmX5_charge : Room := { frames := 1, cells := 0, slots := 0, locals := 21 }
theorem hd_X5_charge : yX5_charge.cls = RX5 ∧ yX5_charge.cls ≠ "java/lang/invoke/MethodHandle" ∧ yX5_charge.cls ≠ "java/lang/invoke/VarHandle" ∧ (parseMethodDescriptor yX5_charge.desc).map (fun d => d.parameters.length) = some 0 := by decide +kernel
theorem inX5_charge_X5 : ∀ w ∈ wsX50, w ∈ wsX5_charge := by decide +kernel
set_option maxHeartbeats 4000000 in
set_option maxRecDepth 100000 in
theorem mX5_charge (l : Launch) (D : va_G) (ca : Gp) (a : Nat → Nat) (wr : va_W) (u : Mem) {r : Int32} {u9 : Mem} (hf : pX5_charge u = some (r, u9)) : Mi l yX5_charge wsX5_charge rmX5_charge D ca [.ref (a 0)] (mW a ca u ++ wr) (mW a ca u9 ++ wr) r := by
  refine Mi_of (own := RX5) (cc := cX5_charge) (nL := 1) (ty := .int) (by decide) rfl rfl rfl rfl (Nat.le_of_ble_eq_true rfl) ?_
  intro p e s m args below meth c Q A ls C0 hH hl hend
  obtain ⟨hx, hb, hml, hown, hts⟩ := id C0.1
  have hl : lv_has ls 1 [(0, .ref (a 0))] := hl
  unfold pX5_charge at hf
  refine lv_aload_n hx hb dX5_charge_0 rfl (lv_at hl 0 rfl) ?_
  refine lv_aload_n hx hb dX5_charge_1 rfl (lv_at hl 0 rfl) ?_
  refine gM_X5_s C0 hH inX5_charge_X5 (by decide +kernel : Cond.fieldLink RX5 7 "GatheringCacheModel" "s" "[I" ∈ wsX5_charge) dX5_charge_2 ?_
  refine lv_iconst (v := 3) hx hb dX5_charge_5 (by decide) ?_
  obtain ⟨y1, h_y1, hf⟩ := bnd hf
  refine lM_s C0 hH h_y1 dX5_charge_6 ?_
  obtain ⟨y2, u3, h_y2, hf⟩ := bnd2 hf
  refine cl_iV C0 hH hl.1 (As := [.int y1]) (rest := []) (mX5_told l D ca a wr u y1 h_y2) gX5_charge_X5_told rfl rfl rfl hd_X5_told ⟨Nat.le_of_ble_eq_true rfl, Nat.le_of_ble_eq_true rfl⟩ ⟨Nat.zero_le _, Nat.zero_le _⟩ (vM_X5 C0 hH) rfl (Nat.le_of_ble_eq_true rfl) dX5_charge_7 (fun H locs hH => ?_)
  cases hf
  exact hend _ _ _ _ hH rfl dX5_charge_10
def rmX5_line : Room := { frames := 2, cells := 0, slots := 0, locals := 43 }
theorem hd_X5_line : yX5_line.cls = RX5 ∧ yX5_line.cls ≠ "java/lang/invoke/MethodHandle" ∧ yX5_line.cls ≠ "java/lang/invoke/VarHandle" ∧ (parseMethodDescriptor yX5_line.desc).map (fun d => d.parameters.length) = some 3 := by decide +kernel
set_option maxHeartbeats 4000000 in
set_option maxRecDepth 100000 in
theorem mX5_line (l : Launch) (D : va_G) (ca : Gp) (a : Nat → Nat) (wr : va_W) (u : Mem) (x1 : Int32) (x2 : Int32) (x3 : Int32) {r : Int32} {u9 : Mem} (hf : pX5_line u x1 x2 x3 = some (r, u9)) : Mi l yX5_line wsX5_line rmX5_line D ca [.ref (a 0), .int x1, .int x2, .int x3] (mW a ca u ++ wr) (mW a ca u9 ++ wr) r := by
  refine Mi_of (own := RX5) (cc := cX5_line) (nL := 4) (ty := .int) (by decide) rfl rfl rfl rfl (Nat.le_of_ble_eq_true rfl) ?_
  intro p e s m args below meth c Q A ls C0 hH hl hend
  obtain ⟨hx, hb, hml, hown, hts⟩ := id C0.1
  have hl : lv_has ls 4 [(0, .ref (a 0)), (1, .int x1), (2, .int x2), (3, .int x3)] := hl
  have J71 : ∀ (s0 : Int32) (u : Mem) (H : Heap) (locs : List Loc) (ls : Array Slot), pX5_line_71 s0 u = some (r, u9) → HS D A s (mW a ca u ++ wr) H locs → lv_has ls 4 [] → W p l e rmX5_line s m args below meth c H locs 0 0 Q (F0 m 71 ls [.int s0]) := by
    intro s0 u H locs ls hf hH hl
    unfold pX5_line_71 at hf
    cases hf
    exact hend _ _ _ _ hH rfl dX5_line_71
  have J37 : ∀ (x1 : Int32) (x2 : Int32) (x3 : Int32) (s1 : Int32) (u : Mem) (H : Heap) (locs : List Loc) (ls : Array Slot), pX5_line_37 x1 x2 x3 s1 u = some (r, u9) → HS D A s (mW a ca u ++ wr) H locs → lv_has ls 4 [(0, .ref (a 0)), (1, .int x1), (2, .int x2), (3, .int x3)] → W p l e rmX5_line s m args below meth c H locs 0 0 Q (F0 m 37 ls [.int s1, .ref (a 0)]) := by
    intro x1 x2 x3 s1 u H locs ls hf hH hl
    unfold pX5_line_37 at hf
    obtain ⟨y201, u202, h_y201, hf⟩ := bnd2 hf
    refine cl_iV C0 hH hl.1 (As := [.int s1]) (rest := []) (mX5_holds l D ca a wr u s1 h_y201) gX5_line_X5_holds rfl rfl rfl hd_X5_holds ⟨Nat.le_of_ble_eq_true rfl, Nat.le_of_ble_eq_true rfl⟩ ⟨Nat.zero_le _, Nat.zero_le _⟩ (vM_X5 C0 hH) rfl (Nat.le_of_ble_eq_true rfl) dX5_line_37 (fun H locs hH => ?_)
    refine lv_if_ne (tgt := 45) hx hb dX5_line_40 (by decide) (fun c203 => ?_) (fun c203 => ?_)
    · rw [if_neg c203] at hf
      refine lv_aload_n hx hb dX5_line_45 rfl (lv_at hl 0 rfl) ?_
      refine lv_iconst (v := 3) hx hb dX5_line_46 (by decide) ?_
      refine lv_iload_n hx hb dX5_line_47 rfl (lv_at hl 1 rfl) ?_
      refine lv_imul hx hb dX5_line_48 ?_
      refine lv_iload_n hx hb dX5_line_49 rfl (lv_at hl 2 rfl) ?_
      refine lv_iadd hx hb dX5_line_50 ?_
      obtain ⟨y204, h_y204, hf⟩ := bnd hf
      refine cl_iV C0 hH hl.1 (As := [.int ((3 * x1) + x2)]) (rest := []) (mX5_isEmpty l D ca a wr u202 ((3 * x1) + x2) h_y204) gX5_line_X5_isEmpty rfl rfl rfl hd_X5_isEmpty ⟨Nat.le_of_ble_eq_true rfl, Nat.le_of_ble_eq_true rfl⟩ ⟨Nat.zero_le _, Nat.zero_le _⟩ (vM_X5 C0 hH) rfl (Nat.le_of_ble_eq_true rfl) dX5_line_51 (fun H locs hH => ?_)
      refine lv_if_eq (tgt := 61) hx hb dX5_line_54 (by decide) (fun c205 => ?_) (fun c205 => ?_)
      · rw [if_pos c205] at hf
        refine lv_aload_n hx hb dX5_line_61 rfl (lv_at hl 0 rfl) ?_
        refine lv_iconst (v := 3) hx hb dX5_line_62 (by decide) ?_
        refine lv_iload_n hx hb dX5_line_63 rfl (lv_at hl 1 rfl) ?_
        refine lv_imul hx hb dX5_line_64 ?_
        refine lv_iload_n hx hb dX5_line_65 rfl (lv_at hl 2 rfl) ?_
        refine lv_iadd hx hb dX5_line_66 ?_
        refine lv_iload_n hx hb dX5_line_67 rfl (lv_at hl 3 rfl) ?_
        obtain ⟨y206, h_y206, hf⟩ := bnd hf
        refine cl_iV C0 hH hl.1 (As := [.int ((3 * x1) + x2), .int x3]) (rest := []) (mX5_of l D ca a wr u202 ((3 * x1) + x2) x3 h_y206) gX5_line_X5_of rfl rfl rfl hd_X5_of ⟨Nat.le_of_ble_eq_true rfl, Nat.le_of_ble_eq_true rfl⟩ ⟨Nat.zero_le _, Nat.zero_le _⟩ (vM_X5 C0 hH) rfl (Nat.le_of_ble_eq_true rfl) dX5_line_68 (fun H locs hH => ?_)
        exact J71 _ _ _ _ _ hf hH (lv_sub hl [] rfl)
      · rw [if_neg c205] at hf
        refine lv_iconst (v := (-1)) hx hb dX5_line_57 (by decide) ?_
        refine lv_goto (tgt := 71) hx hb dX5_line_58 (by decide) ?_
        exact J71 _ _ _ _ _ hf hH (lv_sub hl [] rfl)
    · rw [if_pos c203] at hf
      refine lv_iconst (v := 0) hx hb dX5_line_43 (by decide) ?_
      cases hf
      exact hend _ _ _ _ hH rfl dX5_line_44
  have J19 : ∀ (x1 : Int32) (x2 : Int32) (x3 : Int32) (u : Mem) (H : Heap) (locs : List Loc) (ls : Array Slot), pX5_line_19 x1 x2 x3 u = some (r, u9) → HS D A s (mW a ca u ++ wr) H locs → lv_has ls 4 [(0, .ref (a 0)), (1, .int x1), (2, .int x2), (3, .int x3)] → W p l e rmX5_line s m args below meth c H locs 0 0 Q (F0 m 19 ls [.ref (a 0)]) := by
    intro x1 x2 x3 u H locs ls hf hH hl
    unfold pX5_line_19 at hf
    refine lv_iconst (v := 1) hx hb dX5_line_19 (by decide) ?_
    refine lv_goto (tgt := 37) hx hb dX5_line_20 (by decide) ?_
    exact J37 _ _ _ _ _ _ _ _ hf hH (lv_sub hl [0, 1, 2, 3] rfl)
  unfold pX5_line at hf
  refine lv_aload_n hx hb dX5_line_0 rfl (lv_at hl 0 rfl) ?_
  refine lv_iload_n hx hb dX5_line_1 rfl (lv_at hl 1 rfl) ?_
  refine lv_iconst (v := 0) hx hb dX5_line_2 (by decide) ?_
  refine lv_iconst (v := 3) hx hb dX5_line_3 (by decide) ?_
  obtain ⟨y1, h_y1, hf⟩ := bnd hf
  refine cl_iS C0 hH hl.1 (As := [.int x1, .int 0, .int 3]) (rest := [.ref (a 0)]) (mX5_in l D ca (mW a ca u ++ wr) x1 0 3 h_y1) gX5_line_X5_in rfl rfl rfl hd_X5_in ⟨Nat.le_of_ble_eq_true rfl, Nat.le_of_ble_eq_true rfl⟩ ⟨Nat.zero_le _, Nat.zero_le _⟩ rfl (Nat.le_of_ble_eq_true rfl) dX5_line_4 (fun H locs hH => ?_)
  refine lv_if_eq (tgt := 19) hx hb dX5_line_7 (by decide) (fun c2 => ?_) (fun c2 => ?_)
  · rw [if_pos c2] at hf
    exact J19 _ _ _ _ _ _ _ hf hH (lv_sub hl [0, 1, 2, 3] rfl)
  · rw [if_neg c2] at hf
    refine lv_iload_n hx hb dX5_line_10 rfl (lv_at hl 2 rfl) ?_
    refine lv_iconst (v := 0) hx hb dX5_line_11 (by decide) ?_
    refine lv_iconst (v := 2) hx hb dX5_line_12 (by decide) ?_
    obtain ⟨y3, h_y3, hf⟩ := bnd hf
    refine cl_iS C0 hH hl.1 (As := [.int x2, .int 0, .int 2]) (rest := [.ref (a 0)]) (mX5_in l D ca (mW a ca u ++ wr) x2 0 2 h_y3) gX5_line_X5_in rfl rfl rfl hd_X5_in ⟨Nat.le_of_ble_eq_true rfl, Nat.le_of_ble_eq_true rfl⟩ ⟨Nat.zero_le _, Nat.zero_le _⟩ rfl (Nat.le_of_ble_eq_true rfl) dX5_line_13 (fun H locs hH => ?_)
    refine lv_if_ne (tgt := 23) hx hb dX5_line_16 (by decide) (fun c4 => ?_) (fun c4 => ?_)
    · rw [if_neg c4] at hf
      refine lv_iload_n hx hb dX5_line_23 rfl (lv_at hl 3 rfl) ?_
      refine lv_iconst (v := 0) hx hb dX5_line_24 (by decide) ?_
      refine lv_iconst (v := 4) hx hb dX5_line_25 (by decide) ?_
      obtain ⟨y5, h_y5, hf⟩ := bnd hf
      refine cl_iS C0 hH hl.1 (As := [.int x3, .int 0, .int 4]) (rest := [.ref (a 0)]) (mX5_in l D ca (mW a ca u ++ wr) x3 0 4 h_y5) gX5_line_X5_in rfl rfl rfl hd_X5_in ⟨Nat.le_of_ble_eq_true rfl, Nat.le_of_ble_eq_true rfl⟩ ⟨Nat.zero_le _, Nat.zero_le _⟩ rfl (Nat.le_of_ble_eq_true rfl) dX5_line_26 (fun H locs hH => ?_)
      refine lv_if_ne (tgt := 36) hx hb dX5_line_29 (by decide) (fun c6 => ?_) (fun c6 => ?_)
      · rw [if_neg c6] at hf
        refine lv_iconst (v := 0) hx hb dX5_line_36 (by decide) ?_
        exact J37 _ _ _ _ _ _ _ _ hf hH (lv_sub hl [0, 1, 2, 3] rfl)
      · rw [if_pos c6] at hf
        refine lv_iconst (v := 2) hx hb dX5_line_32 (by decide) ?_
        refine lv_goto (tgt := 37) hx hb dX5_line_33 (by decide) ?_
        exact J37 _ _ _ _ _ _ _ _ hf hH (lv_sub hl [0, 1, 2, 3] rfl)
    · rw [if_pos c4] at hf
      exact J19 _ _ _ _ _ _ _ hf hH (lv_sub hl [0, 1, 2, 3] rfl)
def rmX5_dirtyOf : Room := { frames := 4, cells := 0, slots := 0, locals := 88 }
theorem hd_X5_dirtyOf : yX5_dirtyOf.cls = RX5 ∧ yX5_dirtyOf.cls ≠ "java/lang/invoke/MethodHandle" ∧ yX5_dirtyOf.cls ≠ "java/lang/invoke/VarHandle" ∧ (parseMethodDescriptor yX5_dirtyOf.desc).map (fun d => d.parameters.length) = some 1 := by decide +kernel
set_option maxHeartbeats 4000000 in
set_option maxRecDepth 100000 in
theorem mX5_dirtyOf (l : Launch) (D : va_G) (ca : Gp) (a : Nat → Nat) (wr : va_W) (u : Mem) (x1 : Int32) {r : Int32} {u9 : Mem} (hf : pX5_dirtyOf u x1 = some (r, u9)) : Mi l yX5_dirtyOf wsX5_dirtyOf rmX5_dirtyOf D ca [.ref (a 0), .int x1] (mW a ca u ++ wr) (mW a ca u9 ++ wr) r := by
  refine Mi_of (own := RX5) (cc := cX5_dirtyOf) (nL := 2) (ty := .int) (by decide) rfl rfl rfl rfl (Nat.le_of_ble_eq_true rfl) ?_
  intro p e s m args below meth c Q A ls C0 hH hl hend
  obtain ⟨hx, hb, hml, hown, hts⟩ := id C0.1
  have hl : lv_has ls 2 [(0, .ref (a 0)), (1, .int x1)] := hl
  have J28 : ∀ (s0 : Int32) (u : Mem) (H : Heap) (locs : List Loc) (ls : Array Slot), pX5_dirtyOf_28 s0 u = some (r, u9) → HS D A s (mW a ca u ++ wr) H locs → lv_has ls 2 [] → W p l e rmX5_dirtyOf s m args below meth c H locs 0 0 Q (F0 m 28 ls [.int s0]) := by
    intro s0 u H locs ls hf hH hl
    unfold pX5_dirtyOf_28 at hf
    cases hf
    exact hend _ _ _ _ hH rfl dX5_dirtyOf_28
  have J13 : ∀ (x1 : Int32) (s1 : Int32) (u : Mem) (H : Heap) (locs : List Loc) (ls : Array Slot), pX5_dirtyOf_13 x1 s1 u = some (r, u9) → HS D A s (mW a ca u ++ wr) H locs → lv_has ls 2 [(0, .ref (a 0)), (1, .int x1)] → W p l e rmX5_dirtyOf s m args below meth c H locs 0 0 Q (F0 m 13 ls [.int s1, .ref (a 0)]) := by
    intro x1 s1 u H locs ls hf hH hl
    unfold pX5_dirtyOf_13 at hf
    obtain ⟨y101, u102, h_y101, hf⟩ := bnd2 hf
    refine cl_iV C0 hH hl.1 (As := [.int s1]) (rest := []) (mX5_holds l D ca a wr u s1 h_y101) gX5_dirtyOf_X5_holds rfl rfl rfl hd_X5_holds ⟨Nat.le_of_ble_eq_true rfl, Nat.le_of_ble_eq_true rfl⟩ ⟨Nat.zero_le _, Nat.zero_le _⟩ (vM_X5 C0 hH) rfl (Nat.le_of_ble_eq_true rfl) dX5_dirtyOf_13 (fun H locs hH => ?_)
    refine lv_if_eq (tgt := 27) hx hb dX5_dirtyOf_16 (by decide) (fun c103 => ?_) (fun c103 => ?_)
    · rw [if_pos c103] at hf
      refine lv_iconst (v := 0) hx hb dX5_dirtyOf_27 (by decide) ?_
      exact J28 _ _ _ _ _ hf hH (lv_sub hl [] rfl)
    · rw [if_neg c103] at hf
      refine lv_aload_n hx hb dX5_dirtyOf_19 rfl (lv_at hl 0 rfl) ?_
      refine lv_iload_n hx hb dX5_dirtyOf_20 rfl (lv_at hl 1 rfl) ?_
      obtain ⟨y104, h_y104, hf⟩ := bnd hf
      refine cl_iV C0 hH hl.1 (As := [.int x1]) (rest := []) (mX5_dirtyIn l D ca a wr u102 x1 h_y104) gX5_dirtyOf_X5_dirtyIn rfl rfl rfl hd_X5_dirtyIn ⟨Nat.le_of_ble_eq_true rfl, Nat.le_of_ble_eq_true rfl⟩ ⟨Nat.zero_le _, Nat.zero_le _⟩ (vM_X5 C0 hH) rfl (Nat.le_of_ble_eq_true rfl) dX5_dirtyOf_21 (fun H locs hH => ?_)
      refine lv_goto (tgt := 28) hx hb dX5_dirtyOf_24 (by decide) ?_
      exact J28 _ _ _ _ _ hf hH (lv_sub hl [] rfl)
  unfold pX5_dirtyOf at hf
  refine lv_aload_n hx hb dX5_dirtyOf_0 rfl (lv_at hl 0 rfl) ?_
  refine lv_iload_n hx hb dX5_dirtyOf_1 rfl (lv_at hl 1 rfl) ?_
  obtain ⟨y1, h_y1, hf⟩ := bnd hf
  refine cl_iS C0 hH hl.1 (As := [.int x1]) (rest := [.ref (a 0)]) (mX5_isStripe l D ca (mW a ca u ++ wr) x1 h_y1) gX5_dirtyOf_X5_isStripe rfl rfl rfl hd_X5_isStripe ⟨Nat.le_of_ble_eq_true rfl, Nat.le_of_ble_eq_true rfl⟩ ⟨Nat.zero_le _, Nat.zero_le _⟩ rfl (Nat.le_of_ble_eq_true rfl) dX5_dirtyOf_2 (fun H locs hH => ?_)
  refine lv_if_eq (tgt := 12) hx hb dX5_dirtyOf_5 (by decide) (fun c2 => ?_) (fun c2 => ?_)
  · rw [if_pos c2] at hf
    refine lv_iconst (v := 1) hx hb dX5_dirtyOf_12 (by decide) ?_
    exact J13 _ _ _ _ _ _ hf hH (lv_sub hl [0, 1] rfl)
  · rw [if_neg c2] at hf
    refine lv_iconst (v := 0) hx hb dX5_dirtyOf_8 (by decide) ?_
    refine lv_goto (tgt := 13) hx hb dX5_dirtyOf_9 (by decide) ?_
    exact J13 _ _ _ _ _ _ hf hH (lv_sub hl [0, 1] rfl)
def rmX5_dirtyLines : Room := { frames := 4, cells := 0, slots := 0, locals := 88 }
theorem hd_X5_dirtyLines : yX5_dirtyLines.cls = RX5 ∧ yX5_dirtyLines.cls ≠ "java/lang/invoke/MethodHandle" ∧ yX5_dirtyLines.cls ≠ "java/lang/invoke/VarHandle" ∧ (parseMethodDescriptor yX5_dirtyLines.desc).map (fun d => d.parameters.length) = some 0 := by decide +kernel
set_option maxHeartbeats 4000000 in
set_option maxRecDepth 100000 in
theorem mX5_dirtyLines (l : Launch) (D : va_G) (ca : Gp) (a : Nat → Nat) (wr : va_W) (u : Mem) {r : Int32} (hf : pX5_dirtyLines u = some r) : Mi l yX5_dirtyLines wsX5_dirtyLines rmX5_dirtyLines D ca [.ref (a 0)] (mW a ca u ++ wr) (mW a ca u ++ wr) r := by
  refine Mi_of (own := RX5) (cc := cX5_dirtyLines) (nL := 3) (ty := .int) (by decide) rfl rfl rfl rfl (Nat.le_of_ble_eq_true rfl) ?_
  intro p e s m args below meth c Q A ls C0 hH hl hend
  obtain ⟨hx, hb, hml, hown, hts⟩ := id C0.1
  have hl : lv_has ls 3 [(0, .ref (a 0))] := hl
  have J4 : ∀ (n : Nat) (x1 : Int32) (x2 : Int32) (H : Heap) (locs : List Loc) (ls : Array Slot), pX5_dirtyLines_4 u n x1 x2 = some r → HS D A s (mW a ca u ++ wr) H locs → lv_has ls 3 [(0, .ref (a 0)), (1, .int x1), (2, .int x2)] → W p l e rmX5_dirtyLines s m args below meth c H locs 0 0 Q (F0 m 4 ls []) := by
    intro n
    induction n with
    | zero => intro x1 x2 H locs ls hf; cases hf
    | succ n ih =>
      intro x1 x2 H locs ls hf hH hl
      have hf : pX5_dirtyLines_4b u (pX5_dirtyLines_4 u n) x1 x2 = some r := hf
      unfold pX5_dirtyLines_4b at hf
      refine lv_iload_n hx hb dX5_dirtyLines_4 rfl (lv_at hl 2 rfl) ?_
      refine lv_bipush (v := 16) hx hb dX5_dirtyLines_5 (by decide) ?_
      refine lv_icmp_ge (tgt := 24) hx hb dX5_dirtyLines_7 (by decide) (fun c101 => ?_) (fun c101 => ?_)
      · rw [if_pos c101] at hf
        refine lv_iload_n hx hb dX5_dirtyLines_24 rfl (lv_at hl 1 rfl) ?_
        cases hf
        exact hend _ _ _ _ hH rfl dX5_dirtyLines_25
      · rw [if_neg c101] at hf
        refine lv_iload_n hx hb dX5_dirtyLines_10 rfl (lv_at hl 1 rfl) ?_
        refine lv_aload_n hx hb dX5_dirtyLines_11 rfl (lv_at hl 0 rfl) ?_
        refine lv_iload_n hx hb dX5_dirtyLines_12 rfl (lv_at hl 2 rfl) ?_
        obtain ⟨y102, h_y102, hf⟩ := bnd hf
        refine cl_iV C0 hH hl.1 (As := [.int x2]) (rest := [.int x1]) (mX5_dirtyIn l D ca a wr u x2 h_y102) gX5_dirtyLines_X5_dirtyIn rfl rfl rfl hd_X5_dirtyIn ⟨Nat.le_of_ble_eq_true rfl, Nat.le_of_ble_eq_true rfl⟩ ⟨Nat.zero_le _, Nat.zero_le _⟩ (vM_X5 C0 hH) rfl (Nat.le_of_ble_eq_true rfl) dX5_dirtyLines_13 (fun H locs hH => ?_)
        refine lv_iadd hx hb dX5_dirtyLines_16 ?_
        refine lv_istore_n (lv' := [(1, .int (x1 + y102)), (0, .ref (a 0)), (2, .int x2)]) hx hb dX5_dirtyLines_17 rfl hl (by decide) rfl (fun ls hl => ?_)
        refine lv_iinc (v := (x2 + 1)) (lv' := [(2, .int (x2 + 1)), (1, .int (x1 + y102)), (0, .ref (a 0))]) hx hb dX5_dirtyLines_18 hl (k := 2) rfl rfl (by decide) rfl (fun ls hl => ?_)
        refine lv_goto (tgt := 4) hx hb dX5_dirtyLines_21 (by decide) ?_
        exact ih _ _ _ _ _ hf hH (lv_sub hl [2, 1, 0] rfl)
  unfold pX5_dirtyLines at hf
  refine lv_iconst (v := 0) hx hb dX5_dirtyLines_0 (by decide) ?_
  refine lv_istore_n (lv' := [(1, .int 0), (0, .ref (a 0))]) hx hb dX5_dirtyLines_1 rfl hl (by decide) rfl (fun ls hl => ?_)
  refine lv_iconst (v := 0) hx hb dX5_dirtyLines_2 (by decide) ?_
  refine lv_istore_n (lv' := [(2, .int 0), (1, .int 0), (0, .ref (a 0))]) hx hb dX5_dirtyLines_3 rfl hl (by decide) rfl (fun ls hl => ?_)
  exact J4 FU _ _ _ _ _ hf hH (lv_sub hl [2, 1, 0] rfl)
def rmX5_dirty : Room := { frames := 5, cells := 0, slots := 0, locals := 110 }
theorem hd_X5_dirty : yX5_dirty.cls = RX5 ∧ yX5_dirty.cls ≠ "java/lang/invoke/MethodHandle" ∧ yX5_dirty.cls ≠ "java/lang/invoke/VarHandle" ∧ (parseMethodDescriptor yX5_dirty.desc).map (fun d => d.parameters.length) = some 0 := by decide +kernel
set_option maxHeartbeats 4000000 in
set_option maxRecDepth 100000 in
theorem mX5_dirty (l : Launch) (D : va_G) (ca : Gp) (a : Nat → Nat) (wr : va_W) (u : Mem) {r : Int32} {u9 : Mem} (hf : pX5_dirty u = some (r, u9)) : Mi l yX5_dirty wsX5_dirty rmX5_dirty D ca [.ref (a 0)] (mW a ca u ++ wr) (mW a ca u9 ++ wr) r := by
  refine Mi_of (own := RX5) (cc := cX5_dirty) (nL := 1) (ty := .int) (by decide) rfl rfl rfl rfl (Nat.le_of_ble_eq_true rfl) ?_
  intro p e s m args below meth c Q A ls C0 hH hl hend
  obtain ⟨hx, hb, hml, hown, hts⟩ := id C0.1
  have hl : lv_has ls 1 [(0, .ref (a 0))] := hl
  unfold pX5_dirty at hf
  refine lv_aload_n hx hb dX5_dirty_0 rfl (lv_at hl 0 rfl) ?_
  refine lv_aload_n hx hb dX5_dirty_1 rfl (lv_at hl 0 rfl) ?_
  obtain ⟨y1, h_y1, hf⟩ := bnd hf
  refine cl_iV C0 hH hl.1 (As := []) (rest := [.ref (a 0)]) (mX5_dirtyLines l D ca a wr u h_y1) gX5_dirty_X5_dirtyLines rfl rfl rfl hd_X5_dirtyLines ⟨Nat.le_of_ble_eq_true rfl, Nat.le_of_ble_eq_true rfl⟩ ⟨Nat.zero_le _, Nat.zero_le _⟩ (vM_X5 C0 hH) rfl (Nat.le_of_ble_eq_true rfl) dX5_dirty_2 (fun H locs hH => ?_)
  obtain ⟨y2, u3, h_y2, hf⟩ := bnd2 hf
  refine cl_iV C0 hH hl.1 (As := [.int y1]) (rest := []) (mX5_told l D ca a wr u y1 h_y2) gX5_dirty_X5_told rfl rfl rfl hd_X5_told ⟨Nat.le_of_ble_eq_true rfl, Nat.le_of_ble_eq_true rfl⟩ ⟨Nat.zero_le _, Nat.zero_le _⟩ (vM_X5 C0 hH) rfl (Nat.le_of_ble_eq_true rfl) dX5_dirty_5 (fun H locs hH => ?_)
  cases hf
  exact hend _ _ _ _ hH rfl dX5_dirty_8
def rmX5_used : Room := { frames := 2, cells := 0, slots := 0, locals := 43 }
theorem hd_X5_used : yX5_used.cls = RX5 ∧ yX5_used.cls ≠ "java/lang/invoke/MethodHandle" ∧ yX5_used.cls ≠ "java/lang/invoke/VarHandle" ∧ (parseMethodDescriptor yX5_used.desc).map (fun d => d.parameters.length) = some 0 := by decide +kernel
theorem inX5_used_X5 : ∀ w ∈ wsX50, w ∈ wsX5_used := by decide +kernel
set_option maxHeartbeats 4000000 in
set_option maxRecDepth 100000 in
theorem mX5_used (l : Launch) (D : va_G) (ca : Gp) (a : Nat → Nat) (wr : va_W) (u : Mem) {r : Int32} {u9 : Mem} (hf : pX5_used u = some (r, u9)) : Mi l yX5_used wsX5_used rmX5_used D ca [.ref (a 0)] (mW a ca u ++ wr) (mW a ca u9 ++ wr) r := by
  refine Mi_of (own := RX5) (cc := cX5_used) (nL := 3) (ty := .int) (by decide) rfl rfl rfl rfl (Nat.le_of_ble_eq_true rfl) ?_
  intro p e s m args below meth c Q A ls C0 hH hl hend
  obtain ⟨hx, hb, hml, hown, hts⟩ := id C0.1
  have hl : lv_has ls 3 [(0, .ref (a 0))] := hl
  have J9 : ∀ (n : Nat) (x1 : Int32) (x2 : Int32) (u : Mem) (H : Heap) (locs : List Loc) (ls : Array Slot), pX5_used_9 n x1 x2 u = some (r, u9) → HS D A s (mW a ca u ++ wr) H locs → lv_has ls 3 [(0, .ref (a 0)), (1, .int x1), (2, .int x2)] → W p l e rmX5_used s m args below meth c H locs 0 0 Q (F0 m 9 ls []) := by
    intro n
    induction n with
    | zero => intro x1 x2 u H locs ls hf; cases hf
    | succ n ih =>
      intro x1 x2 u H locs ls hf hH hl
      have hf : pX5_used_9b (pX5_used_9 n) x1 x2 u = some (r, u9) := hf
      have J29 : ∀ (x2 : Int32) (s0 : Int32) (s1 : Int32) (u : Mem) (H : Heap) (locs : List Loc) (ls : Array Slot), pX5_used_29 (pX5_used_9 n) x2 s0 s1 u = some (r, u9) → HS D A s (mW a ca u ++ wr) H locs → lv_has ls 3 [(0, .ref (a 0)), (2, .int x2)] → W p l e rmX5_used s m args below meth c H locs 0 0 Q (F0 m 29 ls [.int s1, .int s0]) := by
        intro x2 s0 s1 u H locs ls hf hH hl
        unfold pX5_used_29 at hf
        refine lv_iadd hx hb dX5_used_29 ?_
        refine lv_istore_n (lv' := [(1, .int (s0 + s1)), (0, .ref (a 0)), (2, .int x2)]) hx hb dX5_used_30 rfl hl (by decide) rfl (fun ls hl => ?_)
        refine lv_iinc (v := (x2 + 1)) (lv' := [(2, .int (x2 + 1)), (1, .int (s0 + s1)), (0, .ref (a 0))]) hx hb dX5_used_31 hl (k := 2) rfl rfl (by decide) rfl (fun ls hl => ?_)
        refine lv_goto (tgt := 9) hx hb dX5_used_34 (by decide) ?_
        exact ih _ _ _ _ _ _ hf hH (lv_sub hl [2, 1, 0] rfl)
      unfold pX5_used_9b at hf
      refine lv_iload_n hx hb dX5_used_9 rfl (lv_at hl 2 rfl) ?_
      refine lv_bipush (v := 12) hx hb dX5_used_10 (by decide) ?_
      refine lv_icmp_ge (tgt := 37) hx hb dX5_used_12 (by decide) (fun c101 => ?_) (fun c101 => ?_)
      · rw [if_pos c101] at hf
        refine lv_iload_n hx hb dX5_used_37 rfl (lv_at hl 1 rfl) ?_
        cases hf
        exact hend _ _ _ _ hH rfl dX5_used_38
      · rw [if_neg c101] at hf
        refine lv_iload_n hx hb dX5_used_15 rfl (lv_at hl 1 rfl) ?_
        refine lv_aload_n hx hb dX5_used_16 rfl (lv_at hl 0 rfl) ?_
        refine lv_iload_n hx hb dX5_used_17 rfl (lv_at hl 2 rfl) ?_
        obtain ⟨y102, h_y102, hf⟩ := bnd hf
        refine cl_iV C0 hH hl.1 (As := [.int x2]) (rest := [.int x1]) (mX5_isEmpty l D ca a wr u x2 h_y102) gX5_used_X5_isEmpty rfl rfl rfl hd_X5_isEmpty ⟨Nat.le_of_ble_eq_true rfl, Nat.le_of_ble_eq_true rfl⟩ ⟨Nat.zero_le _, Nat.zero_le _⟩ (vM_X5 C0 hH) rfl (Nat.le_of_ble_eq_true rfl) dX5_used_18 (fun H locs hH => ?_)
        refine lv_if_eq (tgt := 28) hx hb dX5_used_21 (by decide) (fun c103 => ?_) (fun c103 => ?_)
        · rw [if_pos c103] at hf
          refine lv_iconst (v := 1) hx hb dX5_used_28 (by decide) ?_
          exact J29 _ _ _ _ _ _ _ hf hH (lv_sub hl [0, 2] rfl)
        · rw [if_neg c103] at hf
          refine lv_iconst (v := 0) hx hb dX5_used_24 (by decide) ?_
          refine lv_goto (tgt := 29) hx hb dX5_used_25 (by decide) ?_
          exact J29 _ _ _ _ _ _ _ hf hH (lv_sub hl [0, 2] rfl)
  unfold pX5_used at hf
  refine lv_aload_n hx hb dX5_used_0 rfl (lv_at hl 0 rfl) ?_
  refine lv_iconst (v := 0) hx hb dX5_used_1 (by decide) ?_
  obtain ⟨u1, h_u1, hf⟩ := bnd hf
  refine pM_X5_thrown C0 hH inX5_used_X5 h_u1 (by decide +kernel : Cond.fieldLink RX5 16 "GatheringCacheModel" "thrown" "I" ∈ wsX5_used) dX5_used_2 (fun H locs hH => ?_)
  refine lv_iconst (v := 0) hx hb dX5_used_5 (by decide) ?_
  refine lv_istore_n (lv' := [(1, .int 0), (0, .ref (a 0))]) hx hb dX5_used_6 rfl hl (by decide) rfl (fun ls hl => ?_)
  refine lv_iconst (v := 0) hx hb dX5_used_7 (by decide) ?_
  refine lv_istore_n (lv' := [(2, .int 0), (1, .int 0), (0, .ref (a 0))]) hx hb dX5_used_8 rfl hl (by decide) rfl (fun ls hl => ?_)
  exact J9 FU _ _ _ _ _ _ hf hH (lv_sub hl [2, 1, 0] rfl)
def rmX5_onDisk : Room := { frames := 2, cells := 0, slots := 0, locals := 42 }
theorem hd_X5_onDisk : yX5_onDisk.cls = RX5 ∧ yX5_onDisk.cls ≠ "java/lang/invoke/MethodHandle" ∧ yX5_onDisk.cls ≠ "java/lang/invoke/VarHandle" ∧ (parseMethodDescriptor yX5_onDisk.desc).map (fun d => d.parameters.length) = some 1 := by decide +kernel
theorem inX5_onDisk_X5 : ∀ w ∈ wsX50, w ∈ wsX5_onDisk := by decide +kernel
set_option maxHeartbeats 4000000 in
set_option maxRecDepth 100000 in
theorem mX5_onDisk (l : Launch) (D : va_G) (ca : Gp) (a : Nat → Nat) (wr : va_W) (u : Mem) (x1 : Int32) {r : Int32} {u9 : Mem} (hf : pX5_onDisk u x1 = some (r, u9)) : Mi l yX5_onDisk wsX5_onDisk rmX5_onDisk D ca [.ref (a 0), .int x1] (mW a ca u ++ wr) (mW a ca u9 ++ wr) r := by
  refine Mi_of (own := RX5) (cc := cX5_onDisk) (nL := 2) (ty := .int) (by decide) rfl rfl rfl rfl (Nat.le_of_ble_eq_true rfl) ?_
  intro p e s m args below meth c Q A ls C0 hH hl hend
  obtain ⟨hx, hb, hml, hown, hts⟩ := id C0.1
  have hl : lv_has ls 2 [(0, .ref (a 0)), (1, .int x1)] := hl
  have J34 : ∀ (s0 : Int32) (u : Mem) (H : Heap) (locs : List Loc) (ls : Array Slot), pX5_onDisk_34 s0 u = some (r, u9) → HS D A s (mW a ca u ++ wr) H locs → lv_has ls 2 [] → W p l e rmX5_onDisk s m args below meth c H locs 0 0 Q (F0 m 34 ls [.int s0]) := by
    intro s0 u H locs ls hf hH hl
    unfold pX5_onDisk_34 at hf
    cases hf
    exact hend _ _ _ _ hH rfl dX5_onDisk_34
  have J13 : ∀ (x1 : Int32) (s1 : Int32) (u : Mem) (H : Heap) (locs : List Loc) (ls : Array Slot), pX5_onDisk_13 x1 s1 u = some (r, u9) → HS D A s (mW a ca u ++ wr) H locs → lv_has ls 2 [(0, .ref (a 0)), (1, .int x1)] → W p l e rmX5_onDisk s m args below meth c H locs 0 0 Q (F0 m 13 ls [.int s1, .ref (a 0)]) := by
    intro x1 s1 u H locs ls hf hH hl
    unfold pX5_onDisk_13 at hf
    obtain ⟨y101, u102, h_y101, hf⟩ := bnd2 hf
    refine cl_iV C0 hH hl.1 (As := [.int s1]) (rest := []) (mX5_holds l D ca a wr u s1 h_y101) gX5_onDisk_X5_holds rfl rfl rfl hd_X5_holds ⟨Nat.le_of_ble_eq_true rfl, Nat.le_of_ble_eq_true rfl⟩ ⟨Nat.zero_le _, Nat.zero_le _⟩ (vM_X5 C0 hH) rfl (Nat.le_of_ble_eq_true rfl) dX5_onDisk_13 (fun H locs hH => ?_)
    refine lv_if_eq (tgt := 33) hx hb dX5_onDisk_16 (by decide) (fun c103 => ?_) (fun c103 => ?_)
    · rw [if_pos c103] at hf
      refine lv_iconst (v := 0) hx hb dX5_onDisk_33 (by decide) ?_
      exact J34 _ _ _ _ _ hf hH (lv_sub hl [] rfl)
    · rw [if_neg c103] at hf
      refine lv_aload_n hx hb dX5_onDisk_19 rfl (lv_at hl 0 rfl) ?_
      refine gM_X5_s C0 hH inX5_onDisk_X5 (by decide +kernel : Cond.fieldLink RX5 7 "GatheringCacheModel" "s" "[I" ∈ wsX5_onDisk) dX5_onDisk_20 ?_
      refine lv_bipush (v := 15) hx hb dX5_onDisk_23 (by decide) ?_
      refine lv_iconst (v := 2) hx hb dX5_onDisk_25 (by decide) ?_
      refine lv_iload_n hx hb dX5_onDisk_26 rfl (lv_at hl 1 rfl) ?_
      refine lv_imul hx hb dX5_onDisk_27 ?_
      refine lv_iadd hx hb dX5_onDisk_28 ?_
      obtain ⟨y104, h_y104, hf⟩ := bnd hf
      refine lM_s C0 hH h_y104 dX5_onDisk_29 ?_
      refine lv_goto (tgt := 34) hx hb dX5_onDisk_30 (by decide) ?_
      exact J34 _ _ _ _ _ hf hH (lv_sub hl [] rfl)
  unfold pX5_onDisk at hf
  refine lv_aload_n hx hb dX5_onDisk_0 rfl (lv_at hl 0 rfl) ?_
  refine lv_iload_n hx hb dX5_onDisk_1 rfl (lv_at hl 1 rfl) ?_
  obtain ⟨y1, h_y1, hf⟩ := bnd hf
  refine cl_iS C0 hH hl.1 (As := [.int x1]) (rest := [.ref (a 0)]) (mX5_isBlock l D ca (mW a ca u ++ wr) x1 h_y1) gX5_onDisk_X5_isBlock rfl rfl rfl hd_X5_isBlock ⟨Nat.le_of_ble_eq_true rfl, Nat.le_of_ble_eq_true rfl⟩ ⟨Nat.zero_le _, Nat.zero_le _⟩ rfl (Nat.le_of_ble_eq_true rfl) dX5_onDisk_2 (fun H locs hH => ?_)
  refine lv_if_eq (tgt := 12) hx hb dX5_onDisk_5 (by decide) (fun c2 => ?_) (fun c2 => ?_)
  · rw [if_pos c2] at hf
    refine lv_iconst (v := 1) hx hb dX5_onDisk_12 (by decide) ?_
    exact J13 _ _ _ _ _ _ hf hH (lv_sub hl [0, 1] rfl)
  · rw [if_neg c2] at hf
    refine lv_iconst (v := 0) hx hb dX5_onDisk_8 (by decide) ?_
    refine lv_goto (tgt := 13) hx hb dX5_onDisk_9 (by decide) ?_
    exact J13 _ _ _ _ _ _ hf hH (lv_sub hl [0, 1] rfl)
def rmX5_found : Room := { frames := 2, cells := 0, slots := 0, locals := 44 }
theorem hd_X5_found : yX5_found.cls = RX5 ∧ yX5_found.cls ≠ "java/lang/invoke/MethodHandle" ∧ yX5_found.cls ≠ "java/lang/invoke/VarHandle" ∧ (parseMethodDescriptor yX5_found.desc).map (fun d => d.parameters.length) = some 1 := by decide +kernel
theorem inX5_found_X5 : ∀ w ∈ wsX50, w ∈ wsX5_found := by decide +kernel
set_option maxHeartbeats 4000000 in
set_option maxRecDepth 100000 in
theorem mX5_found (l : Launch) (D : va_G) (ca : Gp) (a : Nat → Nat) (wr : va_W) (u : Mem) (x1 : Int32) {r : Int32} (hf : pX5_found u x1 = some r) : Mi l yX5_found wsX5_found rmX5_found D ca [.ref (a 0), .int x1] (mW a ca u ++ wr) (mW a ca u ++ wr) r := by
  refine Mi_of (own := RX5) (cc := cX5_found) (nL := 4) (ty := .boolean) (by decide) rfl rfl rfl rfl (Nat.le_of_ble_eq_true rfl) ?_
  intro p e s m args below meth c Q A ls C0 hH hl hend
  obtain ⟨hx, hb, hml, hown, hts⟩ := id C0.1
  have hl : lv_has ls 4 [(0, .ref (a 0)), (1, .int x1)] := hl
  have J76 : ∀ (s0 : Int32) (H : Heap) (locs : List Loc) (ls : Array Slot), pX5_found_76 u s0 = some r → HS D A s (mW a ca u ++ wr) H locs → lv_has ls 4 [] → W p l e rmX5_found s m args below meth c H locs 0 0 Q (F0 m 76 ls [.int s0]) := by
    intro s0 H locs ls hf hH hl
    unfold pX5_found_76 at hf
    obtain ⟨hz, hf⟩ := gd hf
    cases hf
    exact hend _ _ _ _ hH (isz_n hz) dX5_found_76
  have J71 : ∀ (H : Heap) (locs : List Loc) (ls : Array Slot), pX5_found_71 u  = some r → HS D A s (mW a ca u ++ wr) H locs → lv_has ls 4 [] → W p l e rmX5_found s m args below meth c H locs 0 0 Q (F0 m 71 ls []) := by
    intro H locs ls hf hH hl
    unfold pX5_found_71 at hf
    refine lv_iconst (v := 1) hx hb dX5_found_71 (by decide) ?_
    refine lv_goto (tgt := 76) hx hb dX5_found_72 (by decide) ?_
    exact J76 _ _ _ _ hf hH (lv_sub hl [] rfl)
  have J75 : ∀ (H : Heap) (locs : List Loc) (ls : Array Slot), pX5_found_75 u  = some r → HS D A s (mW a ca u ++ wr) H locs → lv_has ls 4 [] → W p l e rmX5_found s m args below meth c H locs 0 0 Q (F0 m 75 ls []) := by
    intro H locs ls hf hH hl
    unfold pX5_found_75 at hf
    refine lv_iconst (v := 0) hx hb dX5_found_75 (by decide) ?_
    exact J76 _ _ _ _ hf hH (lv_sub hl [] rfl)
  have J34 : ∀ (x1 : Int32) (x2 : Int32) (s0 : Int32) (H : Heap) (locs : List Loc) (ls : Array Slot), pX5_found_34 u x1 x2 s0 = some r → HS D A s (mW a ca u ++ wr) H locs → lv_has ls 4 [(0, .ref (a 0)), (1, .int x1), (2, .int x2)] → W p l e rmX5_found s m args below meth c H locs 0 0 Q (F0 m 34 ls [.int s0]) := by
    intro x1 x2 s0 H locs ls hf hH hl
    unfold pX5_found_34 at hf
    refine lv_istore_n (lv' := [(3, .int s0), (0, .ref (a 0)), (1, .int x1), (2, .int x2)]) hx hb dX5_found_34 rfl hl (by decide) rfl (fun ls hl => ?_)
    refine lv_iload_n hx hb dX5_found_35 rfl (lv_at hl 3 rfl) ?_
    refine lv_if_eq (tgt := 71) hx hb dX5_found_36 (by decide) (fun c101 => ?_) (fun c101 => ?_)
    · rw [if_pos c101] at hf
      exact J71 _ _ _ hf hH (lv_sub hl [] rfl)
    · rw [if_neg c101] at hf
      refine lv_aload_n hx hb dX5_found_39 rfl (lv_at hl 1 rfl) ?_
      refine gM_X5_s C0 hH inX5_found_X5 (by decide +kernel : Cond.fieldLink RX5 7 "GatheringCacheModel" "s" "[I" ∈ wsX5_found) dX5_found_40 ?_
      refine lv_bipush (v := 15) hx hb dX5_found_43 (by decide) ?_
      refine lv_iconst (v := 2) hx hb dX5_found_45 (by decide) ?_
      refine lv_iload_n hx hb dX5_found_46 rfl (lv_at hl 2 rfl) ?_
      refine lv_imul hx hb dX5_found_47 ?_
      refine lv_iadd hx hb dX5_found_48 ?_
      refine lv_iconst (v := 1) hx hb dX5_found_49 (by decide) ?_
      refine lv_iadd hx hb dX5_found_50 ?_
      obtain ⟨y102, h_y102, hf⟩ := bnd hf
      refine lM_s C0 hH h_y102 dX5_found_51 ?_
      refine lv_iload_n hx hb dX5_found_52 rfl (lv_at hl 3 rfl) ?_
      refine lv_icmp_eq (tgt := 71) hx hb dX5_found_53 (by decide) (fun c103 => ?_) (fun c103 => ?_)
      · rw [if_pos c103] at hf
        exact J71 _ _ _ hf hH (lv_sub hl [] rfl)
      · rw [if_neg c103] at hf
        refine lv_iload_n hx hb dX5_found_56 rfl (lv_at hl 0 rfl) ?_
        refine lv_iconst (v := (-1)) hx hb dX5_found_57 (by decide) ?_
        refine lv_icmp_eq (tgt := 75) hx hb dX5_found_58 (by decide) (fun c104 => ?_) (fun c104 => ?_)
        · rw [if_pos c104] at hf
          exact J75 _ _ _ hf hH (lv_sub hl [] rfl)
        · rw [if_neg c104] at hf
          refine lv_aload_n hx hb dX5_found_61 rfl (lv_at hl 1 rfl) ?_
          refine lv_iload_n hx hb dX5_found_62 rfl (lv_at hl 0 rfl) ?_
          refine lv_iconst (v := 2) hx hb dX5_found_63 (by decide) ?_
          obtain ⟨y105, h_y105, hf⟩ := bnd hf
          refine cl_iV C0 hH hl.1 (As := [.int s0, .int 2]) (rest := []) (mX5_of l D ca a wr u s0 2 h_y105) gX5_found_X5_of rfl rfl rfl hd_X5_of ⟨Nat.le_of_ble_eq_true rfl, Nat.le_of_ble_eq_true rfl⟩ ⟨Nat.zero_le _, Nat.zero_le _⟩ (vM_X5 C0 hH) rfl (Nat.le_of_ble_eq_true rfl) dX5_found_64 (fun H locs hH => ?_)
          refine lv_iload_n hx hb dX5_found_67 rfl (lv_at hl 3 rfl) ?_
          refine lv_icmp_ne (tgt := 75) hx hb dX5_found_68 (by decide) (fun c106 => ?_) (fun c106 => ?_)
          · rw [if_neg c106] at hf
            exact J75 _ _ _ hf hH (lv_sub hl [] rfl)
          · rw [if_pos c106] at hf
            exact J71 _ _ _ hf hH (lv_sub hl [] rfl)
  unfold pX5_found at hf
  refine lv_aload_n hx hb dX5_found_0 rfl (lv_at hl 0 rfl) ?_
  refine gM_X5_s C0 hH inX5_found_X5 (by decide +kernel : Cond.fieldLink RX5 7 "GatheringCacheModel" "s" "[I" ∈ wsX5_found) dX5_found_1 ?_
  refine lv_sipush (v := 143) hx hb dX5_found_4 (by decide) ?_
  refine lv_iconst (v := 2) hx hb dX5_found_7 (by decide) ?_
  refine lv_iload_n hx hb dX5_found_8 rfl (lv_at hl 1 rfl) ?_
  refine lv_imul hx hb dX5_found_9 ?_
  refine lv_iadd hx hb dX5_found_10 ?_
  refine lv_iconst (v := 1) hx hb dX5_found_11 (by decide) ?_
  refine lv_iadd hx hb dX5_found_12 ?_
  obtain ⟨y1, h_y1, hf⟩ := bnd hf
  refine lM_s C0 hH h_y1 dX5_found_13 ?_
  refine lv_istore_n (lv' := [(2, .int y1), (0, .ref (a 0)), (1, .int x1)]) hx hb dX5_found_14 rfl hl (by decide) rfl (fun ls hl => ?_)
  refine lv_aload_n hx hb dX5_found_15 rfl (lv_at hl 1 rfl) ?_
  refine gM_X5_s C0 hH inX5_found_X5 (by decide +kernel : Cond.fieldLink RX5 7 "GatheringCacheModel" "s" "[I" ∈ wsX5_found) dX5_found_16 ?_
  refine lv_iconst (v := 0) hx hb dX5_found_19 (by decide) ?_
  obtain ⟨y2, h_y2, hf⟩ := bnd hf
  refine lM_s C0 hH h_y2 dX5_found_20 ?_
  refine lv_iconst (v := 1) hx hb dX5_found_21 (by decide) ?_
  refine lv_icmp_ne (tgt := 33) hx hb dX5_found_22 (by decide) (fun c3 => ?_) (fun c3 => ?_)
  · rw [if_neg c3] at hf
    refine lv_iconst (v := (-1)) hx hb dX5_found_33 (by decide) ?_
    exact J34 _ _ _ _ _ _ hf hH (lv_sub hl [1, 2, 0] rfl)
  · rw [if_pos c3] at hf
    refine lv_aload_n hx hb dX5_found_25 rfl (lv_at hl 1 rfl) ?_
    refine lv_iload_n hx hb dX5_found_26 rfl (lv_at hl 2 rfl) ?_
    obtain ⟨y4, h_y4, hf⟩ := bnd hf
    refine cl_iV C0 hH hl.1 (As := [.int x1]) (rest := []) (mX5_lineOf l D ca a wr u x1 h_y4) gX5_found_X5_lineOf rfl rfl rfl hd_X5_lineOf ⟨Nat.le_of_ble_eq_true rfl, Nat.le_of_ble_eq_true rfl⟩ ⟨Nat.zero_le _, Nat.zero_le _⟩ (vM_X5 C0 hH) rfl (Nat.le_of_ble_eq_true rfl) dX5_found_27 (fun H locs hH => ?_)
    refine lv_goto (tgt := 34) hx hb dX5_found_30 (by decide) ?_
    exact J34 _ _ _ _ _ _ hf hH (lv_sub hl [1, 2, 0] rfl)
def rmX5_isFound : Room := { frames := 3, cells := 0, slots := 0, locals := 67 }
theorem hd_X5_isFound : yX5_isFound.cls = RX5 ∧ yX5_isFound.cls ≠ "java/lang/invoke/MethodHandle" ∧ yX5_isFound.cls ≠ "java/lang/invoke/VarHandle" ∧ (parseMethodDescriptor yX5_isFound.desc).map (fun d => d.parameters.length) = some 1 := by decide +kernel
set_option maxHeartbeats 4000000 in
set_option maxRecDepth 100000 in
theorem mX5_isFound (l : Launch) (D : va_G) (ca : Gp) (a : Nat → Nat) (wr : va_W) (u : Mem) (x1 : Int32) {r : Int32} {u9 : Mem} (hf : pX5_isFound u x1 = some (r, u9)) : Mi l yX5_isFound wsX5_isFound rmX5_isFound D ca [.ref (a 0), .int x1] (mW a ca u ++ wr) (mW a ca u9 ++ wr) r := by
  refine Mi_of (own := RX5) (cc := cX5_isFound) (nL := 2) (ty := .boolean) (by decide) rfl rfl rfl rfl (Nat.le_of_ble_eq_true rfl) ?_
  intro p e s m args below meth c Q A ls C0 hH hl hend
  obtain ⟨hx, hb, hml, hown, hts⟩ := id C0.1
  have hl : lv_has ls 2 [(0, .ref (a 0)), (1, .int x1)] := hl
  have J32 : ∀ (s0 : Int32) (u : Mem) (H : Heap) (locs : List Loc) (ls : Array Slot), pX5_isFound_32 s0 u = some (r, u9) → HS D A s (mW a ca u ++ wr) H locs → lv_has ls 2 [] → W p l e rmX5_isFound s m args below meth c H locs 0 0 Q (F0 m 32 ls [.int s0]) := by
    intro s0 u H locs ls hf hH hl
    unfold pX5_isFound_32 at hf
    obtain ⟨hz, hf⟩ := gd hf
    cases hf
    exact hend _ _ _ _ hH (isz_n hz) dX5_isFound_32
  have J31 : ∀ (u : Mem) (H : Heap) (locs : List Loc) (ls : Array Slot), pX5_isFound_31 u = some (r, u9) → HS D A s (mW a ca u ++ wr) H locs → lv_has ls 2 [] → W p l e rmX5_isFound s m args below meth c H locs 0 0 Q (F0 m 31 ls []) := by
    intro u H locs ls hf hH hl
    unfold pX5_isFound_31 at hf
    refine lv_iconst (v := 0) hx hb dX5_isFound_31 (by decide) ?_
    exact J32 _ _ _ _ _ hf hH (lv_sub hl [] rfl)
  have J13 : ∀ (x1 : Int32) (s1 : Int32) (u : Mem) (H : Heap) (locs : List Loc) (ls : Array Slot), pX5_isFound_13 x1 s1 u = some (r, u9) → HS D A s (mW a ca u ++ wr) H locs → lv_has ls 2 [(0, .ref (a 0)), (1, .int x1)] → W p l e rmX5_isFound s m args below meth c H locs 0 0 Q (F0 m 13 ls [.int s1, .ref (a 0)]) := by
    intro x1 s1 u H locs ls hf hH hl
    unfold pX5_isFound_13 at hf
    obtain ⟨y101, u102, h_y101, hf⟩ := bnd2 hf
    refine cl_iV C0 hH hl.1 (As := [.int s1]) (rest := []) (mX5_holds l D ca a wr u s1 h_y101) gX5_isFound_X5_holds rfl rfl rfl hd_X5_holds ⟨Nat.le_of_ble_eq_true rfl, Nat.le_of_ble_eq_true rfl⟩ ⟨Nat.zero_le _, Nat.zero_le _⟩ (vM_X5 C0 hH) rfl (Nat.le_of_ble_eq_true rfl) dX5_isFound_13 (fun H locs hH => ?_)
    refine lv_if_eq (tgt := 31) hx hb dX5_isFound_16 (by decide) (fun c103 => ?_) (fun c103 => ?_)
    · rw [if_pos c103] at hf
      exact J31 _ _ _ _ hf hH (lv_sub hl [] rfl)
    · rw [if_neg c103] at hf
      refine lv_aload_n hx hb dX5_isFound_19 rfl (lv_at hl 0 rfl) ?_
      refine lv_iload_n hx hb dX5_isFound_20 rfl (lv_at hl 1 rfl) ?_
      obtain ⟨y104, h_y104, hf⟩ := bnd hf
      refine cl_iV C0 hH hl.1 (As := [.int x1]) (rest := []) (mX5_found l D ca a wr u102 x1 h_y104) gX5_isFound_X5_found rfl rfl rfl hd_X5_found ⟨Nat.le_of_ble_eq_true rfl, Nat.le_of_ble_eq_true rfl⟩ ⟨Nat.zero_le _, Nat.zero_le _⟩ (vM_X5 C0 hH) rfl (Nat.le_of_ble_eq_true rfl) dX5_isFound_21 (fun H locs hH => ?_)
      refine lv_if_eq (tgt := 31) hx hb dX5_isFound_24 (by decide) (fun c105 => ?_) (fun c105 => ?_)
      · rw [if_pos c105] at hf
        exact J31 _ _ _ _ hf hH (lv_sub hl [] rfl)
      · rw [if_neg c105] at hf
        refine lv_iconst (v := 1) hx hb dX5_isFound_27 (by decide) ?_
        refine lv_goto (tgt := 32) hx hb dX5_isFound_28 (by decide) ?_
        exact J32 _ _ _ _ _ hf hH (lv_sub hl [] rfl)
  unfold pX5_isFound at hf
  refine lv_aload_n hx hb dX5_isFound_0 rfl (lv_at hl 0 rfl) ?_
  refine lv_iload_n hx hb dX5_isFound_1 rfl (lv_at hl 1 rfl) ?_
  obtain ⟨y1, h_y1, hf⟩ := bnd hf
  refine cl_iS C0 hH hl.1 (As := [.int x1]) (rest := [.ref (a 0)]) (mX5_isBlock l D ca (mW a ca u ++ wr) x1 h_y1) gX5_isFound_X5_isBlock rfl rfl rfl hd_X5_isBlock ⟨Nat.le_of_ble_eq_true rfl, Nat.le_of_ble_eq_true rfl⟩ ⟨Nat.zero_le _, Nat.zero_le _⟩ rfl (Nat.le_of_ble_eq_true rfl) dX5_isFound_2 (fun H locs hH => ?_)
  refine lv_if_eq (tgt := 12) hx hb dX5_isFound_5 (by decide) (fun c2 => ?_) (fun c2 => ?_)
  · rw [if_pos c2] at hf
    refine lv_iconst (v := 1) hx hb dX5_isFound_12 (by decide) ?_
    exact J13 _ _ _ _ _ _ hf hH (lv_sub hl [0, 1] rfl)
  · rw [if_neg c2] at hf
    refine lv_iconst (v := 0) hx hb dX5_isFound_8 (by decide) ?_
    refine lv_goto (tgt := 13) hx hb dX5_isFound_9 (by decide) ?_
    exact J13 _ _ _ _ _ _ hf hH (lv_sub hl [0, 1] rfl)
def rmX5_missing : Room := { frames := 3, cells := 0, slots := 0, locals := 67 }
theorem hd_X5_missing : yX5_missing.cls = RX5 ∧ yX5_missing.cls ≠ "java/lang/invoke/MethodHandle" ∧ yX5_missing.cls ≠ "java/lang/invoke/VarHandle" ∧ (parseMethodDescriptor yX5_missing.desc).map (fun d => d.parameters.length) = some 0 := by decide +kernel
theorem inX5_missing_X5 : ∀ w ∈ wsX50, w ∈ wsX5_missing := by decide +kernel
set_option maxHeartbeats 4000000 in
set_option maxRecDepth 100000 in
theorem mX5_missing (l : Launch) (D : va_G) (ca : Gp) (a : Nat → Nat) (wr : va_W) (u : Mem) {r : Int32} {u9 : Mem} (hf : pX5_missing u = some (r, u9)) : Mi l yX5_missing wsX5_missing rmX5_missing D ca [.ref (a 0)] (mW a ca u ++ wr) (mW a ca u9 ++ wr) r := by
  refine Mi_of (own := RX5) (cc := cX5_missing) (nL := 3) (ty := .int) (by decide) rfl rfl rfl rfl (Nat.le_of_ble_eq_true rfl) ?_
  intro p e s m args below meth c Q A ls C0 hH hl hend
  obtain ⟨hx, hb, hml, hown, hts⟩ := id C0.1
  have hl : lv_has ls 3 [(0, .ref (a 0))] := hl
  have J9 : ∀ (n : Nat) (x1 : Int32) (x2 : Int32) (u : Mem) (H : Heap) (locs : List Loc) (ls : Array Slot), pX5_missing_9 n x1 x2 u = some (r, u9) → HS D A s (mW a ca u ++ wr) H locs → lv_has ls 3 [(0, .ref (a 0)), (1, .int x1), (2, .int x2)] → W p l e rmX5_missing s m args below meth c H locs 0 0 Q (F0 m 9 ls []) := by
    intro n
    induction n with
    | zero => intro x1 x2 u H locs ls hf; cases hf
    | succ n ih =>
      intro x1 x2 u H locs ls hf hH hl
      have hf : pX5_missing_9b (pX5_missing_9 n) x1 x2 u = some (r, u9) := hf
      have J29 : ∀ (x2 : Int32) (s0 : Int32) (s1 : Int32) (u : Mem) (H : Heap) (locs : List Loc) (ls : Array Slot), pX5_missing_29 (pX5_missing_9 n) x2 s0 s1 u = some (r, u9) → HS D A s (mW a ca u ++ wr) H locs → lv_has ls 3 [(0, .ref (a 0)), (2, .int x2)] → W p l e rmX5_missing s m args below meth c H locs 0 0 Q (F0 m 29 ls [.int s1, .int s0]) := by
        intro x2 s0 s1 u H locs ls hf hH hl
        unfold pX5_missing_29 at hf
        refine lv_iadd hx hb dX5_missing_29 ?_
        refine lv_istore_n (lv' := [(1, .int (s0 + s1)), (0, .ref (a 0)), (2, .int x2)]) hx hb dX5_missing_30 rfl hl (by decide) rfl (fun ls hl => ?_)
        refine lv_iinc (v := (x2 + 1)) (lv' := [(2, .int (x2 + 1)), (1, .int (s0 + s1)), (0, .ref (a 0))]) hx hb dX5_missing_31 hl (k := 2) rfl rfl (by decide) rfl (fun ls hl => ?_)
        refine lv_goto (tgt := 9) hx hb dX5_missing_34 (by decide) ?_
        exact ih _ _ _ _ _ _ hf hH (lv_sub hl [2, 1, 0] rfl)
      unfold pX5_missing_9b at hf
      refine lv_iload_n hx hb dX5_missing_9 rfl (lv_at hl 2 rfl) ?_
      refine lv_bipush (v := 64) hx hb dX5_missing_10 (by decide) ?_
      refine lv_icmp_ge (tgt := 37) hx hb dX5_missing_12 (by decide) (fun c101 => ?_) (fun c101 => ?_)
      · rw [if_pos c101] at hf
        refine lv_iload_n hx hb dX5_missing_37 rfl (lv_at hl 1 rfl) ?_
        cases hf
        exact hend _ _ _ _ hH rfl dX5_missing_38
      · rw [if_neg c101] at hf
        refine lv_iload_n hx hb dX5_missing_15 rfl (lv_at hl 1 rfl) ?_
        refine lv_aload_n hx hb dX5_missing_16 rfl (lv_at hl 0 rfl) ?_
        refine lv_iload_n hx hb dX5_missing_17 rfl (lv_at hl 2 rfl) ?_
        obtain ⟨y102, h_y102, hf⟩ := bnd hf
        refine cl_iV C0 hH hl.1 (As := [.int x2]) (rest := [.int x1]) (mX5_found l D ca a wr u x2 h_y102) gX5_missing_X5_found rfl rfl rfl hd_X5_found ⟨Nat.le_of_ble_eq_true rfl, Nat.le_of_ble_eq_true rfl⟩ ⟨Nat.zero_le _, Nat.zero_le _⟩ (vM_X5 C0 hH) rfl (Nat.le_of_ble_eq_true rfl) dX5_missing_18 (fun H locs hH => ?_)
        refine lv_if_eq (tgt := 28) hx hb dX5_missing_21 (by decide) (fun c103 => ?_) (fun c103 => ?_)
        · rw [if_pos c103] at hf
          refine lv_iconst (v := 1) hx hb dX5_missing_28 (by decide) ?_
          exact J29 _ _ _ _ _ _ _ hf hH (lv_sub hl [0, 2] rfl)
        · rw [if_neg c103] at hf
          refine lv_iconst (v := 0) hx hb dX5_missing_24 (by decide) ?_
          refine lv_goto (tgt := 29) hx hb dX5_missing_25 (by decide) ?_
          exact J29 _ _ _ _ _ _ _ hf hH (lv_sub hl [0, 2] rfl)
  unfold pX5_missing at hf
  refine lv_aload_n hx hb dX5_missing_0 rfl (lv_at hl 0 rfl) ?_
  refine lv_iconst (v := 0) hx hb dX5_missing_1 (by decide) ?_
  obtain ⟨u1, h_u1, hf⟩ := bnd hf
  refine pM_X5_thrown C0 hH inX5_missing_X5 h_u1 (by decide +kernel : Cond.fieldLink RX5 16 "GatheringCacheModel" "thrown" "I" ∈ wsX5_missing) dX5_missing_2 (fun H locs hH => ?_)
  refine lv_iconst (v := 0) hx hb dX5_missing_5 (by decide) ?_
  refine lv_istore_n (lv' := [(1, .int 0), (0, .ref (a 0))]) hx hb dX5_missing_6 rfl hl (by decide) rfl (fun ls hl => ?_)
  refine lv_iconst (v := 0) hx hb dX5_missing_7 (by decide) ?_
  refine lv_istore_n (lv' := [(2, .int 0), (1, .int 0), (0, .ref (a 0))]) hx hb dX5_missing_8 rfl hl (by decide) rfl (fun ls hl => ?_)
  exact J9 FU _ _ _ _ _ _ hf hH (lv_sub hl [2, 1, 0] rfl)
def rmX5_ifWritten : Room := { frames := 5, cells := 0, slots := 0, locals := 111 }
theorem hd_X5_ifWritten : yX5_ifWritten.cls = RX5 ∧ yX5_ifWritten.cls ≠ "java/lang/invoke/MethodHandle" ∧ yX5_ifWritten.cls ≠ "java/lang/invoke/VarHandle" ∧ (parseMethodDescriptor yX5_ifWritten.desc).map (fun d => d.parameters.length) = some 1 := by decide +kernel
theorem inX5_ifWritten_X5 : ∀ w ∈ wsX50, w ∈ wsX5_ifWritten := by decide +kernel
set_option maxHeartbeats 4000000 in
set_option maxRecDepth 100000 in
theorem mX5_ifWritten (l : Launch) (D : va_G) (ca : Gp) (a : Nat → Nat) (wr : va_W) (u : Mem) (x1 : Int32) {r : Int32} {u9 : Mem} (hf : pX5_ifWritten u x1 = some (r, u9)) : Mi l yX5_ifWritten wsX5_ifWritten rmX5_ifWritten D ca [.ref (a 0), .int x1] (mW a ca u ++ wr) (mW a ca u9 ++ wr) r := by
  refine Mi_of (own := RX5) (cc := cX5_ifWritten) (nL := 3) (ty := .int) (by decide) rfl rfl rfl rfl (Nat.le_of_ble_eq_true rfl) ?_
  intro p e s m args below meth c Q A ls C0 hH hl hend
  obtain ⟨hx, hb, hml, hown, hts⟩ := id C0.1
  have hl : lv_has ls 3 [(0, .ref (a 0)), (1, .int x1)] := hl
  have J84 : ∀ (s0 : Int32) (u : Mem) (H : Heap) (locs : List Loc) (ls : Array Slot), pX5_ifWritten_84 s0 u = some (r, u9) → HS D A s (mW a ca u ++ wr) H locs → lv_has ls 3 [] → W p l e rmX5_ifWritten s m args below meth c H locs 0 0 Q (F0 m 84 ls [.int s0]) := by
    intro s0 u H locs ls hf hH hl
    unfold pX5_ifWritten_84 at hf
    cases hf
    exact hend _ _ _ _ hH rfl dX5_ifWritten_84
  have J68 : ∀ (u : Mem) (H : Heap) (locs : List Loc) (ls : Array Slot), pX5_ifWritten_68 u = some (r, u9) → HS D A s (mW a ca u ++ wr) H locs → lv_has ls 3 [] → W p l e rmX5_ifWritten s m args below meth c H locs 0 0 Q (F0 m 68 ls []) := by
    intro u H locs ls hf hH hl
    unfold pX5_ifWritten_68 at hf
    refine lv_iconst (v := 0) hx hb dX5_ifWritten_68 (by decide) ?_
    refine lv_goto (tgt := 84) hx hb dX5_ifWritten_69 (by decide) ?_
    exact J84 _ _ _ _ _ hf hH (lv_sub hl [] rfl)
  have J13 : ∀ (x1 : Int32) (s1 : Int32) (u : Mem) (H : Heap) (locs : List Loc) (ls : Array Slot), pX5_ifWritten_13 x1 s1 u = some (r, u9) → HS D A s (mW a ca u ++ wr) H locs → lv_has ls 3 [(0, .ref (a 0)), (1, .int x1)] → W p l e rmX5_ifWritten s m args below meth c H locs 0 0 Q (F0 m 13 ls [.int s1, .ref (a 0)]) := by
    intro x1 s1 u H locs ls hf hH hl
    unfold pX5_ifWritten_13 at hf
    obtain ⟨y101, u102, h_y101, hf⟩ := bnd2 hf
    refine cl_iV C0 hH hl.1 (As := [.int s1]) (rest := []) (mX5_holds l D ca a wr u s1 h_y101) gX5_ifWritten_X5_holds rfl rfl rfl hd_X5_holds ⟨Nat.le_of_ble_eq_true rfl, Nat.le_of_ble_eq_true rfl⟩ ⟨Nat.zero_le _, Nat.zero_le _⟩ (vM_X5 C0 hH) rfl (Nat.le_of_ble_eq_true rfl) dX5_ifWritten_13 (fun H locs hH => ?_)
    refine lv_if_ne (tgt := 21) hx hb dX5_ifWritten_16 (by decide) (fun c103 => ?_) (fun c103 => ?_)
    · rw [if_neg c103] at hf
      refine lv_aload_n hx hb dX5_ifWritten_21 rfl (lv_at hl 0 rfl) ?_
      refine gM_X5_s C0 hH inX5_ifWritten_X5 (by decide +kernel : Cond.fieldLink RX5 7 "GatheringCacheModel" "s" "[I" ∈ wsX5_ifWritten) dX5_ifWritten_22 ?_
      refine lv_iconst (v := 1) hx hb dX5_ifWritten_25 (by decide) ?_
      obtain ⟨y104, h_y104, hf⟩ := bnd hf
      refine lM_s C0 hH h_y104 dX5_ifWritten_26 ?_
      refine lv_if_ne (tgt := 32) hx hb dX5_ifWritten_27 (by decide) (fun c105 => ?_) (fun c105 => ?_)
      · rw [if_neg c105] at hf
        refine lv_aload_n hx hb dX5_ifWritten_32 rfl (lv_at hl 0 rfl) ?_
        obtain ⟨y106, h_y106, hf⟩ := bnd hf
        refine cl_iV C0 hH hl.1 (As := []) (rest := []) (mX5_isGathered l D ca a wr u102 h_y106) gX5_ifWritten_X5_isGathered rfl rfl rfl hd_X5_isGathered ⟨Nat.le_of_ble_eq_true rfl, Nat.le_of_ble_eq_true rfl⟩ ⟨Nat.zero_le _, Nat.zero_le _⟩ (vM_X5 C0 hH) rfl (Nat.le_of_ble_eq_true rfl) dX5_ifWritten_33 (fun H locs hH => ?_)
        refine lv_if_ne (tgt := 44) hx hb dX5_ifWritten_36 (by decide) (fun c107 => ?_) (fun c107 => ?_)
        · rw [if_neg c107] at hf
          refine lv_iload_n hx hb dX5_ifWritten_44 rfl (lv_at hl 1 rfl) ?_
          refine lv_iconst (v := 4) hx hb dX5_ifWritten_45 (by decide) ?_
          refine lv_idiv hx hb dX5_ifWritten_46 (by decide) ?_
          refine lv_iconst (v := 4) hx hb dX5_ifWritten_47 (by decide) ?_
          refine lv_irem hx hb dX5_ifWritten_48 (by decide) ?_
          refine lv_istore_n (lv' := [(2, .int ((x1 / 4) - (x1 / 4) / 4 * 4)), (0, .ref (a 0)), (1, .int x1)]) hx hb dX5_ifWritten_49 rfl hl (by decide) rfl (fun ls hl => ?_)
          refine lv_aload_n hx hb dX5_ifWritten_50 rfl (lv_at hl 1 rfl) ?_
          refine lv_iload_n hx hb dX5_ifWritten_51 rfl (lv_at hl 2 rfl) ?_
          obtain ⟨y108, h_y108, hf⟩ := bnd hf
          refine cl_iV C0 hH hl.1 (As := [.int x1]) (rest := []) (mX5_lineOf l D ca a wr u102 x1 h_y108) gX5_ifWritten_X5_lineOf rfl rfl rfl hd_X5_lineOf ⟨Nat.le_of_ble_eq_true rfl, Nat.le_of_ble_eq_true rfl⟩ ⟨Nat.zero_le _, Nat.zero_le _⟩ (vM_X5 C0 hH) rfl (Nat.le_of_ble_eq_true rfl) dX5_ifWritten_52 (fun H locs hH => ?_)
          refine lv_iconst (v := (-1)) hx hb dX5_ifWritten_55 (by decide) ?_
          refine lv_icmp_ne (tgt := 68) hx hb dX5_ifWritten_56 (by decide) (fun c109 => ?_) (fun c109 => ?_)
          · rw [if_neg c109] at hf
            exact J68 _ _ _ _ hf hH (lv_sub hl [] rfl)
          · rw [if_pos c109] at hf
            refine lv_aload_n hx hb dX5_ifWritten_59 rfl (lv_at hl 1 rfl) ?_
            refine lv_iload_n hx hb dX5_ifWritten_60 rfl (lv_at hl 0 rfl) ?_
            obtain ⟨y110, h_y110, hf⟩ := bnd hf
            refine cl_iV C0 hH hl.1 (As := [.int ((x1 / 4) - (x1 / 4) / 4 * 4)]) (rest := []) (mX5_taken l D ca a wr u102 ((x1 / 4) - (x1 / 4) / 4 * 4) h_y110) gX5_ifWritten_X5_taken rfl rfl rfl hd_X5_taken ⟨Nat.le_of_ble_eq_true rfl, Nat.le_of_ble_eq_true rfl⟩ ⟨Nat.zero_le _, Nat.zero_le _⟩ (vM_X5 C0 hH) rfl (Nat.le_of_ble_eq_true rfl) dX5_ifWritten_61 (fun H locs hH => ?_)
            refine lv_iconst (v := (-1)) hx hb dX5_ifWritten_64 (by decide) ?_
            refine lv_icmp_eq (tgt := 72) hx hb dX5_ifWritten_65 (by decide) (fun c111 => ?_) (fun c111 => ?_)
            · rw [if_pos c111] at hf
              refine lv_aload_n hx hb dX5_ifWritten_72 rfl (lv_at hl 1 rfl) ?_
              refine lv_aload_n hx hb dX5_ifWritten_73 rfl (lv_at hl 1 rfl) ?_
              refine lv_iload_n hx hb dX5_ifWritten_74 rfl (lv_at hl 0 rfl) ?_
              obtain ⟨y112, h_y112, hf⟩ := bnd hf
              refine cl_iV C0 hH hl.1 (As := [.int ((x1 / 4) - (x1 / 4) / 4 * 4)]) (rest := [.ref (a 0)]) (mX5_fullest l D ca a wr u102 ((x1 / 4) - (x1 / 4) / 4 * 4) h_y112) gX5_ifWritten_X5_fullest rfl rfl rfl hd_X5_fullest ⟨Nat.le_of_ble_eq_true rfl, Nat.le_of_ble_eq_true rfl⟩ ⟨Nat.zero_le _, Nat.zero_le _⟩ (vM_X5 C0 hH) rfl (Nat.le_of_ble_eq_true rfl) dX5_ifWritten_75 (fun H locs hH => ?_)
              obtain ⟨y113, h_y113, hf⟩ := bnd hf
              refine cl_iV C0 hH hl.1 (As := [.int y112]) (rest := []) (mX5_dirtyIn l D ca a wr u102 y112 h_y113) gX5_ifWritten_X5_dirtyIn rfl rfl rfl hd_X5_dirtyIn ⟨Nat.le_of_ble_eq_true rfl, Nat.le_of_ble_eq_true rfl⟩ ⟨Nat.zero_le _, Nat.zero_le _⟩ (vM_X5 C0 hH) rfl (Nat.le_of_ble_eq_true rfl) dX5_ifWritten_78 (fun H locs hH => ?_)
              obtain ⟨y114, h_y114, hf⟩ := bnd hf
              refine cl_iS C0 hH hl.1 (As := [.int y113]) (rest := []) (mX5_cost l D ca (mW a ca u102 ++ wr) y113 h_y114) gX5_ifWritten_X5_cost rfl rfl rfl hd_X5_cost ⟨Nat.le_of_ble_eq_true rfl, Nat.le_of_ble_eq_true rfl⟩ ⟨Nat.zero_le _, Nat.zero_le _⟩ rfl (Nat.le_of_ble_eq_true rfl) dX5_ifWritten_81 (fun H locs hH => ?_)
              exact J84 _ _ _ _ _ hf hH (lv_sub hl [] rfl)
            · rw [if_neg c111] at hf
              exact J68 _ _ _ _ hf hH (lv_sub hl [] rfl)
        · rw [if_pos c107] at hf
          refine lv_iconst (v := 1) hx hb dX5_ifWritten_39 (by decide) ?_
          obtain ⟨y115, h_y115, hf⟩ := bnd hf
          refine cl_iS C0 hH hl.1 (As := [.int 1]) (rest := []) (mX5_cost l D ca (mW a ca u102 ++ wr) 1 h_y115) gX5_ifWritten_X5_cost rfl rfl rfl hd_X5_cost ⟨Nat.le_of_ble_eq_true rfl, Nat.le_of_ble_eq_true rfl⟩ ⟨Nat.zero_le _, Nat.zero_le _⟩ rfl (Nat.le_of_ble_eq_true rfl) dX5_ifWritten_40 (fun H locs hH => ?_)
          cases hf
          exact hend _ _ _ _ hH rfl dX5_ifWritten_43
      · rw [if_pos c105] at hf
        refine lv_iconst (v := (-1)) hx hb dX5_ifWritten_30 (by decide) ?_
        cases hf
        exact hend _ _ _ _ hH rfl dX5_ifWritten_31
    · rw [if_pos c103] at hf
      refine lv_iconst (v := 0) hx hb dX5_ifWritten_19 (by decide) ?_
      cases hf
      exact hend _ _ _ _ hH rfl dX5_ifWritten_20
  unfold pX5_ifWritten at hf
  refine lv_aload_n hx hb dX5_ifWritten_0 rfl (lv_at hl 0 rfl) ?_
  refine lv_iload_n hx hb dX5_ifWritten_1 rfl (lv_at hl 1 rfl) ?_
  obtain ⟨y1, h_y1, hf⟩ := bnd hf
  refine cl_iS C0 hH hl.1 (As := [.int x1]) (rest := [.ref (a 0)]) (mX5_isBlock l D ca (mW a ca u ++ wr) x1 h_y1) gX5_ifWritten_X5_isBlock rfl rfl rfl hd_X5_isBlock ⟨Nat.le_of_ble_eq_true rfl, Nat.le_of_ble_eq_true rfl⟩ ⟨Nat.zero_le _, Nat.zero_le _⟩ rfl (Nat.le_of_ble_eq_true rfl) dX5_ifWritten_2 (fun H locs hH => ?_)
  refine lv_if_eq (tgt := 12) hx hb dX5_ifWritten_5 (by decide) (fun c2 => ?_) (fun c2 => ?_)
  · rw [if_pos c2] at hf
    refine lv_iconst (v := 1) hx hb dX5_ifWritten_12 (by decide) ?_
    exact J13 _ _ _ _ _ _ hf hH (lv_sub hl [0, 1] rfl)
  · rw [if_neg c2] at hf
    refine lv_iconst (v := 0) hx hb dX5_ifWritten_8 (by decide) ?_
    refine lv_goto (tgt := 13) hx hb dX5_ifWritten_9 (by decide) ?_
    exact J13 _ _ _ _ _ _ hf hH (lv_sub hl [0, 1] rfl)
def rmX5_ifDestaged : Room := { frames := 4, cells := 0, slots := 0, locals := 88 }
theorem hd_X5_ifDestaged : yX5_ifDestaged.cls = RX5 ∧ yX5_ifDestaged.cls ≠ "java/lang/invoke/MethodHandle" ∧ yX5_ifDestaged.cls ≠ "java/lang/invoke/VarHandle" ∧ (parseMethodDescriptor yX5_ifDestaged.desc).map (fun d => d.parameters.length) = some 0 := by decide +kernel
theorem inX5_ifDestaged_X5 : ∀ w ∈ wsX50, w ∈ wsX5_ifDestaged := by decide +kernel
set_option maxHeartbeats 4000000 in
set_option maxRecDepth 100000 in
theorem mX5_ifDestaged (l : Launch) (D : va_G) (ca : Gp) (a : Nat → Nat) (wr : va_W) (u : Mem) {r : Int32} {u9 : Mem} (hf : pX5_ifDestaged u = some (r, u9)) : Mi l yX5_ifDestaged wsX5_ifDestaged rmX5_ifDestaged D ca [.ref (a 0)] (mW a ca u ++ wr) (mW a ca u9 ++ wr) r := by
  refine Mi_of (own := RX5) (cc := cX5_ifDestaged) (nL := 3) (ty := .int) (by decide) rfl rfl rfl rfl (Nat.le_of_ble_eq_true rfl) ?_
  intro p e s m args below meth c Q A ls C0 hH hl hend
  obtain ⟨hx, hb, hml, hown, hts⟩ := id C0.1
  have hl : lv_has ls 3 [(0, .ref (a 0))] := hl
  have J44 : ∀ (s0 : Int32) (u : Mem) (H : Heap) (locs : List Loc) (ls : Array Slot), pX5_ifDestaged_44 s0 u = some (r, u9) → HS D A s (mW a ca u ++ wr) H locs → lv_has ls 3 [] → W p l e rmX5_ifDestaged s m args below meth c H locs 0 0 Q (F0 m 44 ls [.int s0]) := by
    intro s0 u H locs ls hf hH hl
    unfold pX5_ifDestaged_44 at hf
    cases hf
    exact hend _ _ _ _ hH rfl dX5_ifDestaged_44
  have J9 : ∀ (n : Nat) (x1 : Int32) (x2 : Int32) (u : Mem) (H : Heap) (locs : List Loc) (ls : Array Slot), pX5_ifDestaged_9 n x1 x2 u = some (r, u9) → HS D A s (mW a ca u ++ wr) H locs → lv_has ls 3 [(0, .ref (a 0)), (1, .int x1), (2, .int x2)] → W p l e rmX5_ifDestaged s m args below meth c H locs 0 0 Q (F0 m 9 ls []) := by
    intro n
    induction n with
    | zero => intro x1 x2 u H locs ls hf; cases hf
    | succ n ih =>
      intro x1 x2 u H locs ls hf hH hl
      have hf : pX5_ifDestaged_9b (pX5_ifDestaged_9 n) x1 x2 u = some (r, u9) := hf
      unfold pX5_ifDestaged_9b at hf
      refine lv_iload_n hx hb dX5_ifDestaged_9 rfl (lv_at hl 2 rfl) ?_
      refine lv_bipush (v := 16) hx hb dX5_ifDestaged_10 (by decide) ?_
      refine lv_icmp_ge (tgt := 32) hx hb dX5_ifDestaged_12 (by decide) (fun c101 => ?_) (fun c101 => ?_)
      · rw [if_pos c101] at hf
        refine lv_aload_n hx hb dX5_ifDestaged_32 rfl (lv_at hl 0 rfl) ?_
        obtain ⟨y102, h_y102, hf⟩ := bnd hf
        refine cl_iV C0 hH hl.1 (As := []) (rest := []) (mX5_isCharging l D ca a wr u h_y102) gX5_ifDestaged_X5_isCharging rfl rfl rfl hd_X5_isCharging ⟨Nat.le_of_ble_eq_true rfl, Nat.le_of_ble_eq_true rfl⟩ ⟨Nat.zero_le _, Nat.zero_le _⟩ (vM_X5 C0 hH) rfl (Nat.le_of_ble_eq_true rfl) dX5_ifDestaged_33 (fun H locs hH => ?_)
        refine lv_if_eq (tgt := 43) hx hb dX5_ifDestaged_36 (by decide) (fun c103 => ?_) (fun c103 => ?_)
        · rw [if_pos c103] at hf
          refine lv_iconst (v := (-1)) hx hb dX5_ifDestaged_43 (by decide) ?_
          exact J44 _ _ _ _ _ hf hH (lv_sub hl [] rfl)
        · rw [if_neg c103] at hf
          refine lv_iload_n hx hb dX5_ifDestaged_39 rfl (lv_at hl 1 rfl) ?_
          refine lv_goto (tgt := 44) hx hb dX5_ifDestaged_40 (by decide) ?_
          exact J44 _ _ _ _ _ hf hH (lv_sub hl [] rfl)
      · rw [if_neg c101] at hf
        refine lv_iload_n hx hb dX5_ifDestaged_15 rfl (lv_at hl 1 rfl) ?_
        refine lv_aload_n hx hb dX5_ifDestaged_16 rfl (lv_at hl 0 rfl) ?_
        refine lv_iload_n hx hb dX5_ifDestaged_17 rfl (lv_at hl 2 rfl) ?_
        obtain ⟨y104, h_y104, hf⟩ := bnd hf
        refine cl_iV C0 hH hl.1 (As := [.int x2]) (rest := [.int x1]) (mX5_dirtyIn l D ca a wr u x2 h_y104) gX5_ifDestaged_X5_dirtyIn rfl rfl rfl hd_X5_dirtyIn ⟨Nat.le_of_ble_eq_true rfl, Nat.le_of_ble_eq_true rfl⟩ ⟨Nat.zero_le _, Nat.zero_le _⟩ (vM_X5 C0 hH) rfl (Nat.le_of_ble_eq_true rfl) dX5_ifDestaged_18 (fun H locs hH => ?_)
        obtain ⟨y105, h_y105, hf⟩ := bnd hf
        refine cl_iS C0 hH hl.1 (As := [.int y104]) (rest := [.int x1]) (mX5_cost l D ca (mW a ca u ++ wr) y104 h_y105) gX5_ifDestaged_X5_cost rfl rfl rfl hd_X5_cost ⟨Nat.le_of_ble_eq_true rfl, Nat.le_of_ble_eq_true rfl⟩ ⟨Nat.zero_le _, Nat.zero_le _⟩ rfl (Nat.le_of_ble_eq_true rfl) dX5_ifDestaged_21 (fun H locs hH => ?_)
        refine lv_iadd hx hb dX5_ifDestaged_24 ?_
        refine lv_istore_n (lv' := [(1, .int (x1 + y105)), (0, .ref (a 0)), (2, .int x2)]) hx hb dX5_ifDestaged_25 rfl hl (by decide) rfl (fun ls hl => ?_)
        refine lv_iinc (v := (x2 + 1)) (lv' := [(2, .int (x2 + 1)), (1, .int (x1 + y105)), (0, .ref (a 0))]) hx hb dX5_ifDestaged_26 hl (k := 2) rfl rfl (by decide) rfl (fun ls hl => ?_)
        refine lv_goto (tgt := 9) hx hb dX5_ifDestaged_29 (by decide) ?_
        exact ih _ _ _ _ _ _ hf hH (lv_sub hl [2, 1, 0] rfl)
  unfold pX5_ifDestaged at hf
  refine lv_aload_n hx hb dX5_ifDestaged_0 rfl (lv_at hl 0 rfl) ?_
  refine lv_iconst (v := 0) hx hb dX5_ifDestaged_1 (by decide) ?_
  obtain ⟨u1, h_u1, hf⟩ := bnd hf
  refine pM_X5_thrown C0 hH inX5_ifDestaged_X5 h_u1 (by decide +kernel : Cond.fieldLink RX5 16 "GatheringCacheModel" "thrown" "I" ∈ wsX5_ifDestaged) dX5_ifDestaged_2 (fun H locs hH => ?_)
  refine lv_iconst (v := 0) hx hb dX5_ifDestaged_5 (by decide) ?_
  refine lv_istore_n (lv' := [(1, .int 0), (0, .ref (a 0))]) hx hb dX5_ifDestaged_6 rfl hl (by decide) rfl (fun ls hl => ?_)
  refine lv_iconst (v := 0) hx hb dX5_ifDestaged_7 (by decide) ?_
  refine lv_istore_n (lv' := [(2, .int 0), (1, .int 0), (0, .ref (a 0))]) hx hb dX5_ifDestaged_8 rfl hl (by decide) rfl (fun ls hl => ?_)
  exact J9 FU _ _ _ _ _ _ hf hH (lv_sub hl [2, 1, 0] rfl)
def rmX5_ticksToLoss : Room := { frames := 5, cells := 0, slots := 0, locals := 110 }
theorem hd_X5_ticksToLoss : yX5_ticksToLoss.cls = RX5 ∧ yX5_ticksToLoss.cls ≠ "java/lang/invoke/MethodHandle" ∧ yX5_ticksToLoss.cls ≠ "java/lang/invoke/VarHandle" ∧ (parseMethodDescriptor yX5_ticksToLoss.desc).map (fun d => d.parameters.length) = some 0 := by decide +kernel
theorem inX5_ticksToLoss_X5 : ∀ w ∈ wsX50, w ∈ wsX5_ticksToLoss := by decide +kernel
set_option maxHeartbeats 4000000 in
set_option maxRecDepth 100000 in
theorem mX5_ticksToLoss (l : Launch) (D : va_G) (ca : Gp) (a : Nat → Nat) (wr : va_W) (u : Mem) {r : Int32} {u9 : Mem} (hf : pX5_ticksToLoss u = some (r, u9)) : Mi l yX5_ticksToLoss wsX5_ticksToLoss rmX5_ticksToLoss D ca [.ref (a 0)] (mW a ca u ++ wr) (mW a ca u9 ++ wr) r := by
  refine Mi_of (own := RX5) (cc := cX5_ticksToLoss) (nL := 1) (ty := .int) (by decide) rfl rfl rfl rfl (Nat.le_of_ble_eq_true rfl) ?_
  intro p e s m args below meth c Q A ls C0 hH hl hend
  obtain ⟨hx, hb, hml, hown, hts⟩ := id C0.1
  have hl : lv_has ls 1 [(0, .ref (a 0))] := hl
  have J25 : ∀ (s1 : Int32) (u : Mem) (H : Heap) (locs : List Loc) (ls : Array Slot), pX5_ticksToLoss_25 s1 u = some (r, u9) → HS D A s (mW a ca u ++ wr) H locs → lv_has ls 1 [] → W p l e rmX5_ticksToLoss s m args below meth c H locs 0 0 Q (F0 m 25 ls [.int s1, .ref (a 0)]) := by
    intro s1 u H locs ls hf hH hl
    unfold pX5_ticksToLoss_25 at hf
    obtain ⟨y201, u202, h_y201, hf⟩ := bnd2 hf
    refine cl_iV C0 hH hl.1 (As := [.int s1]) (rest := []) (mX5_told l D ca a wr u s1 h_y201) gX5_ticksToLoss_X5_told rfl rfl rfl hd_X5_told ⟨Nat.le_of_ble_eq_true rfl, Nat.le_of_ble_eq_true rfl⟩ ⟨Nat.zero_le _, Nat.zero_le _⟩ (vM_X5 C0 hH) rfl (Nat.le_of_ble_eq_true rfl) dX5_ticksToLoss_25 (fun H locs hH => ?_)
    cases hf
    exact hend _ _ _ _ hH rfl dX5_ticksToLoss_28
  have J15 : ∀ (u : Mem) (H : Heap) (locs : List Loc) (ls : Array Slot), pX5_ticksToLoss_15 u = some (r, u9) → HS D A s (mW a ca u ++ wr) H locs → lv_has ls 1 [] → W p l e rmX5_ticksToLoss s m args below meth c H locs 0 0 Q (F0 m 15 ls [.ref (a 0)]) := by
    intro u H locs ls hf hH hl
    unfold pX5_ticksToLoss_15 at hf
    refine lv_iconst (v := (-1)) hx hb dX5_ticksToLoss_15 (by decide) ?_
    refine lv_goto (tgt := 25) hx hb dX5_ticksToLoss_16 (by decide) ?_
    exact J25 _ _ _ _ _ hf hH (lv_sub hl [] rfl)
  unfold pX5_ticksToLoss at hf
  refine lv_aload_n hx hb dX5_ticksToLoss_0 rfl (lv_at hl 0 rfl) ?_
  refine lv_aload_n hx hb dX5_ticksToLoss_1 rfl (lv_at hl 0 rfl) ?_
  obtain ⟨y1, h_y1, hf⟩ := bnd hf
  refine cl_iV C0 hH hl.1 (As := []) (rest := [.ref (a 0)]) (mX5_dirtyLines l D ca a wr u h_y1) gX5_ticksToLoss_X5_dirtyLines rfl rfl rfl hd_X5_dirtyLines ⟨Nat.le_of_ble_eq_true rfl, Nat.le_of_ble_eq_true rfl⟩ ⟨Nat.zero_le _, Nat.zero_le _⟩ (vM_X5 C0 hH) rfl (Nat.le_of_ble_eq_true rfl) dX5_ticksToLoss_2 (fun H locs hH => ?_)
  refine lv_if_eq (tgt := 15) hx hb dX5_ticksToLoss_5 (by decide) (fun c2 => ?_) (fun c2 => ?_)
  · rw [if_pos c2] at hf
    exact J15 _ _ _ _ hf hH (lv_sub hl [] rfl)
  · rw [if_neg c2] at hf
    refine lv_aload_n hx hb dX5_ticksToLoss_8 rfl (lv_at hl 0 rfl) ?_
    obtain ⟨y3, h_y3, hf⟩ := bnd hf
    refine cl_iV C0 hH hl.1 (As := []) (rest := [.ref (a 0)]) (mX5_isCharging l D ca a wr u h_y3) gX5_ticksToLoss_X5_isCharging rfl rfl rfl hd_X5_isCharging ⟨Nat.le_of_ble_eq_true rfl, Nat.le_of_ble_eq_true rfl⟩ ⟨Nat.zero_le _, Nat.zero_le _⟩ (vM_X5 C0 hH) rfl (Nat.le_of_ble_eq_true rfl) dX5_ticksToLoss_9 (fun H locs hH => ?_)
    refine lv_if_eq (tgt := 19) hx hb dX5_ticksToLoss_12 (by decide) (fun c4 => ?_) (fun c4 => ?_)
    · rw [if_pos c4] at hf
      refine lv_aload_n hx hb dX5_ticksToLoss_19 rfl (lv_at hl 0 rfl) ?_
      refine gM_X5_s C0 hH inX5_ticksToLoss_X5 (by decide +kernel : Cond.fieldLink RX5 7 "GatheringCacheModel" "s" "[I" ∈ wsX5_ticksToLoss) dX5_ticksToLoss_20 ?_
      refine lv_iconst (v := 3) hx hb dX5_ticksToLoss_23 (by decide) ?_
      obtain ⟨y5, h_y5, hf⟩ := bnd hf
      refine lM_s C0 hH h_y5 dX5_ticksToLoss_24 ?_
      exact J25 _ _ _ _ _ hf hH (lv_sub hl [] rfl)
    · rw [if_neg c4] at hf
      exact J15 _ _ _ _ hf hH (lv_sub hl [] rfl)
def rmX5_count : Room := { frames := 1, cells := 0, slots := 0, locals := 22 }
theorem hd_X5_count : yX5_count.cls = RX5 ∧ yX5_count.cls ≠ "java/lang/invoke/MethodHandle" ∧ yX5_count.cls ≠ "java/lang/invoke/VarHandle" ∧ (parseMethodDescriptor yX5_count.desc).map (fun d => d.parameters.length) = some 1 := by decide +kernel
theorem inX5_count_X5 : ∀ w ∈ wsX50, w ∈ wsX5_count := by decide +kernel
set_option maxHeartbeats 4000000 in
set_option maxRecDepth 100000 in
theorem mX5_count (l : Launch) (D : va_G) (ca : Gp) (a : Nat → Nat) (wr : va_W) (u : Mem) (x1 : Int32) {r : Int32} {u9 : Mem} (hf : pX5_count u x1 = some (r, u9)) : Mi l yX5_count wsX5_count rmX5_count D ca [.ref (a 0), .int x1] (mW a ca u ++ wr) (mW a ca u9 ++ wr) r := by
  refine Mi_of (own := RX5) (cc := cX5_count) (nL := 2) (ty := .int) (by decide) rfl rfl rfl rfl (Nat.le_of_ble_eq_true rfl) ?_
  intro p e s m args below meth c Q A ls C0 hH hl hend
  obtain ⟨hx, hb, hml, hown, hts⟩ := id C0.1
  have hl : lv_has ls 2 [(0, .ref (a 0)), (1, .int x1)] := hl
  have J35 : ∀ (s0 : Int32) (u : Mem) (H : Heap) (locs : List Loc) (ls : Array Slot), pX5_count_35 s0 u = some (r, u9) → HS D A s (mW a ca u ++ wr) H locs → lv_has ls 2 [] → W p l e rmX5_count s m args below meth c H locs 0 0 Q (F0 m 35 ls [.int s0]) := by
    intro s0 u H locs ls hf hH hl
    unfold pX5_count_35 at hf
    cases hf
    exact hend _ _ _ _ hH rfl dX5_count_35
  have J16 : ∀ (x1 : Int32) (s1 : Int32) (u : Mem) (H : Heap) (locs : List Loc) (ls : Array Slot), pX5_count_16 x1 s1 u = some (r, u9) → HS D A s (mW a ca u ++ wr) H locs → lv_has ls 2 [(0, .ref (a 0)), (1, .int x1)] → W p l e rmX5_count s m args below meth c H locs 0 0 Q (F0 m 16 ls [.int s1, .ref (a 0)]) := by
    intro x1 s1 u H locs ls hf hH hl
    unfold pX5_count_16 at hf
    obtain ⟨y101, u102, h_y101, hf⟩ := bnd2 hf
    refine cl_iV C0 hH hl.1 (As := [.int s1]) (rest := []) (mX5_holds l D ca a wr u s1 h_y101) gX5_count_X5_holds rfl rfl rfl hd_X5_holds ⟨Nat.le_of_ble_eq_true rfl, Nat.le_of_ble_eq_true rfl⟩ ⟨Nat.zero_le _, Nat.zero_le _⟩ (vM_X5 C0 hH) rfl (Nat.le_of_ble_eq_true rfl) dX5_count_16 (fun H locs hH => ?_)
    refine lv_if_eq (tgt := 34) hx hb dX5_count_19 (by decide) (fun c103 => ?_) (fun c103 => ?_)
    · rw [if_pos c103] at hf
      refine lv_iconst (v := 0) hx hb dX5_count_34 (by decide) ?_
      exact J35 _ _ _ _ _ hf hH (lv_sub hl [] rfl)
    · rw [if_neg c103] at hf
      refine lv_aload_n hx hb dX5_count_22 rfl (lv_at hl 0 rfl) ?_
      refine gM_X5_s C0 hH inX5_count_X5 (by decide +kernel : Cond.fieldLink RX5 7 "GatheringCacheModel" "s" "[I" ∈ wsX5_count) dX5_count_23 ?_
      refine lv_bipush (v := 6) hx hb dX5_count_26 (by decide) ?_
      refine lv_iload_n hx hb dX5_count_28 rfl (lv_at hl 1 rfl) ?_
      refine lv_iadd hx hb dX5_count_29 ?_
      obtain ⟨y104, h_y104, hf⟩ := bnd hf
      refine lM_s C0 hH h_y104 dX5_count_30 ?_
      refine lv_goto (tgt := 35) hx hb dX5_count_31 (by decide) ?_
      exact J35 _ _ _ _ _ hf hH (lv_sub hl [] rfl)
  unfold pX5_count at hf
  refine lv_aload_n hx hb dX5_count_0 rfl (lv_at hl 0 rfl) ?_
  refine lv_iload_n hx hb dX5_count_1 rfl (lv_at hl 1 rfl) ?_
  refine lv_iconst (v := 0) hx hb dX5_count_2 (by decide) ?_
  refine lv_bipush (v := 7) hx hb dX5_count_3 (by decide) ?_
  obtain ⟨y1, h_y1, hf⟩ := bnd hf
  refine cl_iS C0 hH hl.1 (As := [.int x1, .int 0, .int 7]) (rest := [.ref (a 0)]) (mX5_in l D ca (mW a ca u ++ wr) x1 0 7 h_y1) gX5_count_X5_in rfl rfl rfl hd_X5_in ⟨Nat.le_of_ble_eq_true rfl, Nat.le_of_ble_eq_true rfl⟩ ⟨Nat.zero_le _, Nat.zero_le _⟩ rfl (Nat.le_of_ble_eq_true rfl) dX5_count_5 (fun H locs hH => ?_)
  refine lv_if_eq (tgt := 15) hx hb dX5_count_8 (by decide) (fun c2 => ?_) (fun c2 => ?_)
  · rw [if_pos c2] at hf
    refine lv_iconst (v := 1) hx hb dX5_count_15 (by decide) ?_
    exact J16 _ _ _ _ _ _ hf hH (lv_sub hl [0, 1] rfl)
  · rw [if_neg c2] at hf
    refine lv_iconst (v := 0) hx hb dX5_count_11 (by decide) ?_
    refine lv_goto (tgt := 16) hx hb dX5_count_12 (by decide) ?_
    exact J16 _ _ _ _ _ _ hf hH (lv_sub hl [0, 1] rfl)
def rmX5_savedStates : Room := { frames := 1, cells := 0, slots := 0, locals := 21 }
theorem hd_X5_savedStates : yX5_savedStates.cls = RX5 ∧ yX5_savedStates.cls ≠ "java/lang/invoke/MethodHandle" ∧ yX5_savedStates.cls ≠ "java/lang/invoke/VarHandle" ∧ (parseMethodDescriptor yX5_savedStates.desc).map (fun d => d.parameters.length) = some 0 := by decide +kernel
theorem inX5_savedStates_X5 : ∀ w ∈ wsX50, w ∈ wsX5_savedStates := by decide +kernel
set_option maxHeartbeats 4000000 in
set_option maxRecDepth 100000 in
theorem mX5_savedStates (l : Launch) (D : va_G) (ca : Gp) (a : Nat → Nat) (wr : va_W) (u : Mem) {r : Int32} {u9 : Mem} (hf : pX5_savedStates u = some (r, u9)) : Mi l yX5_savedStates wsX5_savedStates rmX5_savedStates D ca [.ref (a 0)] (mW a ca u ++ wr) (mW a ca u9 ++ wr) r := by
  refine Mi_of (own := RX5) (cc := cX5_savedStates) (nL := 1) (ty := .int) (by decide) rfl rfl rfl rfl (Nat.le_of_ble_eq_true rfl) ?_
  intro p e s m args below meth c Q A ls C0 hH hl hend
  obtain ⟨hx, hb, hml, hown, hts⟩ := id C0.1
  have hl : lv_has ls 1 [(0, .ref (a 0))] := hl
  unfold pX5_savedStates at hf
  refine lv_aload_n hx hb dX5_savedStates_0 rfl (lv_at hl 0 rfl) ?_
  refine lv_aload_n hx hb dX5_savedStates_1 rfl (lv_at hl 0 rfl) ?_
  refine gM_X5_saved C0 hH inX5_savedStates_X5 (by decide +kernel : Cond.fieldLink RX5 90 "GatheringCacheModel" "saved" "I" ∈ wsX5_savedStates) dX5_savedStates_2 ?_
  obtain ⟨y1, u2, h_y1, hf⟩ := bnd2 hf
  refine cl_iV C0 hH hl.1 (As := [.int (u 0 1)]) (rest := []) (mX5_told l D ca a wr u (u 0 1) h_y1) gX5_savedStates_X5_told rfl rfl rfl hd_X5_told ⟨Nat.le_of_ble_eq_true rfl, Nat.le_of_ble_eq_true rfl⟩ ⟨Nat.zero_le _, Nat.zero_le _⟩ (vM_X5 C0 hH) rfl (Nat.le_of_ble_eq_true rfl) dX5_savedStates_5 (fun H locs hH => ?_)
  cases hf
  exact hend _ _ _ _ hH rfl dX5_savedStates_8
def rmX5_textLength : Room := { frames := 1, cells := 0, slots := 0, locals := 21 }
theorem hd_X5_textLength : yX5_textLength.cls = RX5 ∧ yX5_textLength.cls ≠ "java/lang/invoke/MethodHandle" ∧ yX5_textLength.cls ≠ "java/lang/invoke/VarHandle" ∧ (parseMethodDescriptor yX5_textLength.desc).map (fun d => d.parameters.length) = some 0 := by decide +kernel
theorem inX5_textLength_X5 : ∀ w ∈ wsX50, w ∈ wsX5_textLength := by decide +kernel
set_option maxHeartbeats 4000000 in
set_option maxRecDepth 100000 in
theorem mX5_textLength (l : Launch) (D : va_G) (ca : Gp) (a : Nat → Nat) (wr : va_W) (u : Mem) {r : Int32} {u9 : Mem} (hf : pX5_textLength u = some (r, u9)) : Mi l yX5_textLength wsX5_textLength rmX5_textLength D ca [.ref (a 0)] (mW a ca u ++ wr) (mW a ca u9 ++ wr) r := by
  refine Mi_of (own := RX5) (cc := cX5_textLength) (nL := 1) (ty := .int) (by decide) rfl rfl rfl rfl (Nat.le_of_ble_eq_true rfl) ?_
  intro p e s m args below meth c Q A ls C0 hH hl hend
  obtain ⟨hx, hb, hml, hown, hts⟩ := id C0.1
  have hl : lv_has ls 1 [(0, .ref (a 0))] := hl
  unfold pX5_textLength at hf
  refine lv_aload_n hx hb dX5_textLength_0 rfl (lv_at hl 0 rfl) ?_
  refine lv_aload_n hx hb dX5_textLength_1 rfl (lv_at hl 0 rfl) ?_
  refine gM_X5_length C0 hH inX5_textLength_X5 (by decide +kernel : Cond.fieldLink RX5 125 "GatheringCacheModel" "length" "I" ∈ wsX5_textLength) dX5_textLength_2 ?_
  obtain ⟨y1, u2, h_y1, hf⟩ := bnd2 hf
  refine cl_iV C0 hH hl.1 (As := [.int (u 0 2)]) (rest := []) (mX5_told l D ca a wr u (u 0 2) h_y1) gX5_textLength_X5_told rfl rfl rfl hd_X5_told ⟨Nat.le_of_ble_eq_true rfl, Nat.le_of_ble_eq_true rfl⟩ ⟨Nat.zero_le _, Nat.zero_le _⟩ (vM_X5 C0 hH) rfl (Nat.le_of_ble_eq_true rfl) dX5_textLength_5 (fun H locs hH => ?_)
  cases hf
  exact hend _ _ _ _ hH rfl dX5_textLength_8
