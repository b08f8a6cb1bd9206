/-! CONTRACTS, by program. -/
def rmX5_loses : Room := { frames := 2, cells := 0, slots := 0, locals := 43 }
theorem hd_X5_loses : yX5_loses.cls = RX5 ∧ yX5_loses.cls ≠ "java/lang/invoke/MethodHandle" ∧ yX5_loses.cls ≠ "java/lang/invoke/VarHandle" ∧ (parseMethodDescriptor yX5_loses.desc).map (fun d => d.parameters.length) = some 0 := by decide +kernel
theorem inX5_loses_X5 : ∀ w ∈ wsX50, w ∈ wsX5_loses := by decide +kernel
set_option maxHeartbeats 4000000 in
set_option maxRecDepth 100000 in
theorem mX5_loses (l : Launch) (D : va_G) (ca : Gp) (a : Nat → Nat) (wr : va_W) (u : Mem) {u9 : Mem} (hf : pX5_loses u = some u9) : Mv l yX5_loses wsX5_loses rmX5_loses D ca [.ref (a 0)] (mW a ca u ++ wr) (mW a ca u9 ++ wr) := by
  refine Mv_of (own := RX5) (cc := cX5_loses) (nL := 2) (by decide) rfl rfl rfl rfl (Nat.le_of_ble_eq_true rfl) ?_
  intro p e s m args below meth c Q A ls C0 hH hl hend
  obtain ⟨hx, hb, hml, hown, hts⟩ := id C0.1
  have hl : lv_has ls 2 [(0, .ref (a 0))] := hl
  have J2 : ∀ (n : Nat) (x1 : Int32) (u : Mem) (H : Heap) (locs : List Loc) (ls : Array Slot), pX5_loses_2 n x1 u = some u9 → HS D A s (mW a ca u ++ wr) H locs → lv_has ls 2 [(0, .ref (a 0)), (1, .int x1)] → W p l e rmX5_loses s m args below meth c H locs 0 0 Q (F0 m 2 ls []) := by
    intro n
    induction n with
    | zero => intro x1 u H locs ls hf; cases hf
    | succ n ih =>
      intro x1 u H locs ls hf hH hl
      have hf : pX5_loses_2b (pX5_loses_2 n) x1 u = some u9 := hf
      have J39 : ∀ (x1 : Int32) (s1 : Int32) (s2 : Int32) (s3 : Int32) (u : Mem) (H : Heap) (locs : List Loc) (ls : Array Slot), pX5_loses_39 (pX5_loses_2 n) x1 s1 s2 s3 u = some u9 → HS D A s (mW a ca u ++ wr) H locs → lv_has ls 2 [(0, .ref (a 0)), (1, .int x1)] → W p l e rmX5_loses s m args below meth c H locs 0 0 Q (F0 m 39 ls [.int s3, .int s2, .int s1, .ref (a 1)]) := by
        intro x1 s1 s2 s3 u H locs ls hf hH hl
        unfold pX5_loses_39 at hf
        refine lv_iadd hx hb dX5_loses_39 ?_
        obtain ⟨u301, h_u301, hf⟩ := bnd hf
        refine sM_s C0 hH h_u301 dX5_loses_40 (fun H locs hH => ?_)
        refine lv_aload_n hx hb dX5_loses_41 rfl (lv_at hl 0 rfl) ?_
        refine lv_iload_n hx hb dX5_loses_42 rfl (lv_at hl 1 rfl) ?_
        refine lv_iconst (v := 0) hx hb dX5_loses_43 (by decide) ?_
        refine lv_iconst (v := (-1)) hx hb dX5_loses_44 (by decide) ?_
        obtain ⟨u302, h_u302, hf⟩ := bnd hf
        refine cl_vV C0 hH hl.1 (As := [.int x1, .int 0, .int (-1)]) (rest := []) (mX5_lay l D ca a wr u301 x1 0 (-1) h_u302) gX5_loses_X5_lay rfl rfl rfl hd_X5_lay ⟨Nat.le_of_ble_eq_true rfl, Nat.le_of_ble_eq_true rfl⟩ ⟨Nat.zero_le _, Nat.zero_le _⟩ (vM_X5 C0 hH) rfl (Nat.le_of_ble_eq_true rfl) dX5_loses_45 (fun H locs hH => ?_)
        refine lv_iinc (v := (x1 + 1)) (lv' := [(1, .int (x1 + 1)), (0, .ref (a 0))]) hx hb dX5_loses_48 hl (k := 1) rfl rfl (by decide) rfl (fun ls hl => ?_)
        refine lv_goto (tgt := 2) hx hb dX5_loses_51 (by decide) ?_
        exact ih _ _ _ _ _ hf hH (lv_sub hl [1, 0] rfl)
      have J38 : ∀ (x1 : Int32) (s1 : Int32) (s2 : Int32) (u : Mem) (H : Heap) (locs : List Loc) (ls : Array Slot), pX5_loses_38 (pX5_loses_2 n) x1 s1 s2 u = some u9 → HS D A s (mW a ca u ++ wr) H locs → lv_has ls 2 [(0, .ref (a 0)), (1, .int x1)] → W p l e rmX5_loses s m args below meth c H locs 0 0 Q (F0 m 38 ls [.int s2, .int s1, .ref (a 1)]) := by
        intro x1 s1 s2 u H locs ls hf hH hl
        unfold pX5_loses_38 at hf
        refine lv_iconst (v := 0) hx hb dX5_loses_38 (by decide) ?_
        exact J39 _ _ _ _ _ _ _ _ hf hH (lv_sub hl [0, 1] rfl)
      unfold pX5_loses_2b at hf
      refine lv_iload_n hx hb dX5_loses_2 rfl (lv_at hl 1 rfl) ?_
      refine lv_bipush (v := 12) hx hb dX5_loses_3 (by decide) ?_
      refine lv_icmp_ge (tgt := 54) hx hb dX5_loses_5 (by decide) (fun c101 => ?_) (fun c101 => ?_)
      · rw [if_pos c101] at hf
        cases hf
        exact hend _ _ _ _ hH dX5_loses_54
      · rw [if_neg c101] at hf
        refine lv_aload_n hx hb dX5_loses_8 rfl (lv_at hl 0 rfl) ?_
        refine gM_X5_s C0 hH inX5_loses_X5 (by decide +kernel : Cond.fieldLink RX5 7 "GatheringCacheModel" "s" "[I" ∈ wsX5_loses) dX5_loses_9 ?_
        refine lv_bipush (v := 12) hx hb dX5_loses_12 (by decide) ?_
        refine lv_dup2_11 hx hb dX5_loses_14 rfl rfl ?_
        obtain ⟨y102, h_y102, hf⟩ := bnd hf
        refine lM_s C0 hH h_y102 dX5_loses_15 ?_
        refine lv_aload_n hx hb dX5_loses_16 rfl (lv_at hl 0 rfl) ?_
        refine lv_iload_n hx hb dX5_loses_17 rfl (lv_at hl 1 rfl) ?_
        obtain ⟨y103, h_y103, hf⟩ := bnd hf
        refine cl_iV C0 hH hl.1 (As := [.int x1]) (rest := [.int y102, .int 12, .ref (a 1)]) (mX5_isEmpty l D ca a wr u x1 h_y103) gX5_loses_X5_isEmpty rfl rfl rfl hd_X5_isEmpty ⟨Nat.le_of_ble_eq_true rfl, Nat.le_of_ble_eq_true rfl⟩ ⟨Nat.zero_le _, Nat.zero_le _⟩ (vM_X5 C0 hH) rfl (Nat.le_of_ble_eq_true rfl) dX5_loses_18 (fun H locs hH => ?_)
        refine lv_if_ne (tgt := 38) hx hb dX5_loses_21 (by decide) (fun c104 => ?_) (fun c104 => ?_)
        · rw [if_neg c104] at hf
          exact J38 _ _ _ _ _ _ _ hf hH (lv_sub hl [0, 1] rfl)
        · rw [if_pos c104] at hf
          refine lv_aload_n hx hb dX5_loses_24 rfl (lv_at hl 0 rfl) ?_
          refine lv_iload_n hx hb dX5_loses_25 rfl (lv_at hl 1 rfl) ?_
          refine lv_iconst (v := 4) hx hb dX5_loses_26 (by decide) ?_
          obtain ⟨y105, h_y105, hf⟩ := bnd hf
          refine cl_iV C0 hH hl.1 (As := [.int x1, .int 4]) (rest := [.int y102, .int 12, .ref (a 1)]) (mX5_of l D ca a wr u x1 4 h_y105) gX5_loses_X5_of rfl rfl rfl hd_X5_of ⟨Nat.le_of_ble_eq_true rfl, Nat.le_of_ble_eq_true rfl⟩ ⟨Nat.zero_le _, Nat.zero_le _⟩ (vM_X5 C0 hH) rfl (Nat.le_of_ble_eq_true rfl) dX5_loses_27 (fun H locs hH => ?_)
          refine lv_iconst (v := 1) hx hb dX5_loses_30 (by decide) ?_
          refine lv_icmp_ne (tgt := 38) hx hb dX5_loses_31 (by decide) (fun c106 => ?_) (fun c106 => ?_)
          · rw [if_neg c106] at hf
            exact J38 _ _ _ _ _ _ _ hf hH (lv_sub hl [0, 1] rfl)
          · rw [if_pos c106] at hf
            refine lv_iconst (v := 1) hx hb dX5_loses_34 (by decide) ?_
            refine lv_goto (tgt := 39) hx hb dX5_loses_35 (by decide) ?_
            exact J39 _ _ _ _ _ _ _ _ hf hH (lv_sub hl [0, 1] rfl)
  unfold pX5_loses at hf
  refine lv_iconst (v := 0) hx hb dX5_loses_0 (by decide) ?_
  refine lv_istore_n (lv' := [(1, .int 0), (0, .ref (a 0))]) hx hb dX5_loses_1 rfl hl (by decide) rfl (fun ls hl => ?_)
  exact J2 FU _ _ _ _ _ hf hH (lv_sub hl [1, 0] rfl)
def rmX5_tick : Room := { frames := 3, cells := 0, slots := 0, locals := 64 }
theorem hd_X5_tick : yX5_tick.cls = RX5 ∧ yX5_tick.cls ≠ "java/lang/invoke/MethodHandle" ∧ yX5_tick.cls ≠ "java/lang/invoke/VarHandle" ∧ (parseMethodDescriptor yX5_tick.desc).map (fun d => d.parameters.length) = some 0 := by decide +kernel
theorem inX5_tick_X5 : ∀ w ∈ wsX50, w ∈ wsX5_tick := by decide +kernel
set_option maxHeartbeats 4000000 in
set_option maxRecDepth 100000 in
theorem mX5_tick (l : Launch) (D : va_G) (ca : Gp) (a : Nat → Nat) (wr : va_W) (u : Mem) {u9 : Mem} (hf : pX5_tick u = some u9) : Mv l yX5_tick wsX5_tick rmX5_tick D ca [.ref (a 0)] (mW a ca u ++ wr) (mW a ca u9 ++ wr) := by
  refine Mv_of (own := RX5) (cc := cX5_tick) (nL := 2) (by decide) rfl rfl rfl rfl (Nat.le_of_ble_eq_true rfl) ?_
  intro p e s m args below meth c Q A ls C0 hH hl hend
  obtain ⟨hx, hb, hml, hown, hts⟩ := id C0.1
  have hl : lv_has ls 2 [(0, .ref (a 0))] := hl
  have J77 : ∀ (u : Mem) (H : Heap) (locs : List Loc) (ls : Array Slot), pX5_tick_77 u = some u9 → HS D A s (mW a ca u ++ wr) H locs → lv_has ls 2 [] → W p l e rmX5_tick s m args below meth c H locs 0 0 Q (F0 m 77 ls []) := by
    intro u H locs ls hf hH hl
    unfold pX5_tick_77 at hf
    cases hf
    exact hend _ _ _ _ hH dX5_tick_77
  have J41 : ∀ (s1 : Int32) (s2 : Int32) (u : Mem) (H : Heap) (locs : List Loc) (ls : Array Slot), pX5_tick_41 s1 s2 u = some u9 → HS D A s (mW a ca u ++ wr) H locs → lv_has ls 2 [] → W p l e rmX5_tick s m args below meth c H locs 0 0 Q (F0 m 41 ls [.int s2, .int s1, .ref (a 1)]) := by
    intro s1 s2 u H locs ls hf hH hl
    unfold pX5_tick_41 at hf
    obtain ⟨u101, h_u101, hf⟩ := bnd hf
    refine sM_s C0 hH h_u101 dX5_tick_41 (fun H locs hH => ?_)
    refine lv_goto (tgt := 77) hx hb dX5_tick_42 (by decide) ?_
    exact J77 _ _ _ _ hf hH (lv_sub hl [] rfl)
  unfold pX5_tick at hf
  refine lv_aload_n hx hb dX5_tick_0 rfl (lv_at hl 0 rfl) ?_
  obtain ⟨y1, h_y1, hf⟩ := bnd hf
  refine cl_iV C0 hH hl.1 (As := []) (rest := []) (mX5_isCharging l D ca a wr u h_y1) gX5_tick_X5_isCharging rfl rfl rfl hd_X5_isCharging ⟨Nat.le_of_ble_eq_true rfl, Nat.le_of_ble_eq_true rfl⟩ ⟨Nat.zero_le _, Nat.zero_le _⟩ (vM_X5 C0 hH) rfl (Nat.le_of_ble_eq_true rfl) dX5_tick_1 (fun H locs hH => ?_)
  refine lv_if_eq (tgt := 45) hx hb dX5_tick_4 (by decide) (fun c2 => ?_) (fun c2 => ?_)
  · rw [if_pos c2] at hf
    refine lv_aload_n hx hb dX5_tick_45 rfl (lv_at hl 0 rfl) ?_
    refine gM_X5_s C0 hH inX5_tick_X5 (by decide +kernel : Cond.fieldLink RX5 7 "GatheringCacheModel" "s" "[I" ∈ wsX5_tick) dX5_tick_46 ?_
    refine lv_iconst (v := 3) hx hb dX5_tick_49 (by decide) ?_
    obtain ⟨y3, h_y3, hf⟩ := bnd hf
    refine lM_s C0 hH h_y3 dX5_tick_50 ?_
    refine lv_if_le (tgt := 77) hx hb dX5_tick_51 (by decide) (fun c4 => ?_) (fun c4 => ?_)
    · rw [if_pos c4] at hf
      exact J77 _ _ _ _ hf hH (lv_sub hl [] rfl)
    · rw [if_neg c4] at hf
      refine lv_aload_n hx hb dX5_tick_54 rfl (lv_at hl 0 rfl) ?_
      refine gM_X5_s C0 hH inX5_tick_X5 (by decide +kernel : Cond.fieldLink RX5 7 "GatheringCacheModel" "s" "[I" ∈ wsX5_tick) dX5_tick_55 ?_
      refine lv_iconst (v := 3) hx hb dX5_tick_58 (by decide) ?_
      refine lv_dup2_11 hx hb dX5_tick_59 rfl rfl ?_
      obtain ⟨y5, h_y5, hf⟩ := bnd hf
      refine lM_s C0 hH h_y5 dX5_tick_60 ?_
      refine lv_iconst (v := 1) hx hb dX5_tick_61 (by decide) ?_
      refine lv_isub hx hb dX5_tick_62 ?_
      obtain ⟨u6, h_u6, hf⟩ := bnd hf
      refine sM_s C0 hH h_u6 dX5_tick_63 (fun H locs hH => ?_)
      refine lv_aload_n hx hb dX5_tick_64 rfl (lv_at hl 0 rfl) ?_
      refine gM_X5_s C0 hH inX5_tick_X5 (by decide +kernel : Cond.fieldLink RX5 7 "GatheringCacheModel" "s" "[I" ∈ wsX5_tick) dX5_tick_65 ?_
      refine lv_iconst (v := 3) hx hb dX5_tick_68 (by decide) ?_
      obtain ⟨y7, h_y7, hf⟩ := bnd hf
      refine lM_s C0 hH h_y7 dX5_tick_69 ?_
      refine lv_if_ne (tgt := 77) hx hb dX5_tick_70 (by decide) (fun c8 => ?_) (fun c8 => ?_)
      · rw [if_neg c8] at hf
        exact J77 _ _ _ _ hf hH (lv_sub hl [] rfl)
      · rw [if_pos c8] at hf
        refine lv_aload_n hx hb dX5_tick_73 rfl (lv_at hl 0 rfl) ?_
        obtain ⟨u9, h_u9, hf⟩ := bnd hf
        refine cl_vV C0 hH hl.1 (As := []) (rest := []) (mX5_loses l D ca a wr u6 h_u9) gX5_tick_X5_loses rfl rfl rfl hd_X5_loses ⟨Nat.le_of_ble_eq_true rfl, Nat.le_of_ble_eq_true rfl⟩ ⟨Nat.zero_le _, Nat.zero_le _⟩ (vM_X5 C0 hH) rfl (Nat.le_of_ble_eq_true rfl) dX5_tick_74 (fun H locs hH => ?_)
        exact J77 _ _ _ _ hf hH (lv_sub hl [] rfl)
  · rw [if_neg c2] at hf
    refine lv_aload_n hx hb dX5_tick_7 rfl (lv_at hl 0 rfl) ?_
    refine gM_X5_s C0 hH inX5_tick_X5 (by decide +kernel : Cond.fieldLink RX5 7 "GatheringCacheModel" "s" "[I" ∈ wsX5_tick) dX5_tick_8 ?_
    refine lv_iconst (v := 3) hx hb dX5_tick_11 (by decide) ?_
    obtain ⟨y10, h_y10, hf⟩ := bnd hf
    refine lM_s C0 hH h_y10 dX5_tick_12 ?_
    refine lv_iconst (v := 2) hx hb dX5_tick_13 (by decide) ?_
    refine lv_iadd hx hb dX5_tick_14 ?_
    refine lv_istore_n (lv' := [(1, .int (y10 + 2)), (0, .ref (a 0))]) hx hb dX5_tick_15 rfl hl (by decide) rfl (fun ls hl => ?_)
    refine lv_aload_n hx hb dX5_tick_16 rfl (lv_at hl 1 rfl) ?_
    refine gM_X5_s C0 hH inX5_tick_X5 (by decide +kernel : Cond.fieldLink RX5 7 "GatheringCacheModel" "s" "[I" ∈ wsX5_tick) dX5_tick_17 ?_
    refine lv_iconst (v := 3) hx hb dX5_tick_20 (by decide) ?_
    refine lv_iload_n hx hb dX5_tick_21 rfl (lv_at hl 0 rfl) ?_
    refine lv_aload_n hx hb dX5_tick_22 rfl (lv_at hl 1 rfl) ?_
    refine gM_X5_s C0 hH inX5_tick_X5 (by decide +kernel : Cond.fieldLink RX5 7 "GatheringCacheModel" "s" "[I" ∈ wsX5_tick) dX5_tick_23 ?_
    refine lv_iconst (v := 2) hx hb dX5_tick_26 (by decide) ?_
    obtain ⟨y11, h_y11, hf⟩ := bnd hf
    refine lM_s C0 hH h_y11 dX5_tick_27 ?_
    refine lv_icmp_le (tgt := 40) hx hb dX5_tick_28 (by decide) (fun c12 => ?_) (fun c12 => ?_)
    · rw [if_pos c12] at hf
      refine lv_iload_n hx hb dX5_tick_40 rfl (lv_at hl 0 rfl) ?_
      exact J41 _ _ _ _ _ _ hf hH (lv_sub hl [] rfl)
    · rw [if_neg c12] at hf
      refine lv_aload_n hx hb dX5_tick_31 rfl (lv_at hl 1 rfl) ?_
      refine gM_X5_s C0 hH inX5_tick_X5 (by decide +kernel : Cond.fieldLink RX5 7 "GatheringCacheModel" "s" "[I" ∈ wsX5_tick) dX5_tick_32 ?_
      refine lv_iconst (v := 2) hx hb dX5_tick_35 (by decide) ?_
      obtain ⟨y13, h_y13, hf⟩ := bnd hf
      refine lM_s C0 hH h_y13 dX5_tick_36 ?_
      refine lv_goto (tgt := 41) hx hb dX5_tick_37 (by decide) ?_
      exact J41 _ _ _ _ _ _ hf hH (lv_sub hl [] rfl)
def rmX5_passes : Room := { frames := 4, cells := 0, slots := 0, locals := 85 }
theorem hd_X5_passes : yX5_passes.cls = RX5 ∧ yX5_passes.cls ≠ "java/lang/invoke/MethodHandle" ∧ yX5_passes.cls ≠ "java/lang/invoke/VarHandle" ∧ (parseMethodDescriptor yX5_passes.desc).map (fun d => d.parameters.length) = some 1 := by decide +kernel
theorem inX5_passes_X5 : ∀ w ∈ wsX50, w ∈ wsX5_passes := by decide +kernel
set_option maxHeartbeats 4000000 in
set_option maxRecDepth 100000 in
theorem mX5_passes (l : Launch) (D : va_G) (ca : Gp) (a : Nat → Nat) (wr : va_W) (u : Mem) (x1 : Int32) {r : Int32} {u9 : Mem} (hf : pX5_passes u x1 = some (r, u9)) : Mi l yX5_passes wsX5_passes rmX5_passes D ca [.ref (a 0), .int x1] (mW a ca u ++ wr) (mW a ca u9 ++ wr) r := by
  refine Mi_of (own := RX5) (cc := cX5_passes) (nL := 3) (ty := .int) (by decide) rfl rfl rfl rfl (Nat.le_of_ble_eq_true rfl) ?_
  intro p e s m args below meth c Q A ls C0 hH hl hend
  obtain ⟨hx, hb, hml, hown, hts⟩ := id C0.1
  have hl : lv_has ls 3 [(0, .ref (a 0)), (1, .int x1)] := hl
  have J2 : ∀ (x1 : Int32) (n : Nat) (x2 : Int32) (u : Mem) (H : Heap) (locs : List Loc) (ls : Array Slot), pX5_passes_2 x1 n x2 u = some (r, u9) → HS D A s (mW a ca u ++ wr) H locs → lv_has ls 3 [(0, .ref (a 0)), (1, .int x1), (2, .int x2)] → W p l e rmX5_passes s m args below meth c H locs 0 0 Q (F0 m 2 ls []) := by
    intro x1 n
    induction n with
    | zero => intro x2 u H locs ls hf; cases hf
    | succ n ih =>
      intro x2 u H locs ls hf hH hl
      have hf : pX5_passes_2b x1 (pX5_passes_2 x1 n) x2 u = some (r, u9) := hf
      unfold pX5_passes_2b at hf
      refine lv_iload_n hx hb dX5_passes_2 rfl (lv_at hl 2 rfl) ?_
      refine lv_iload_n hx hb dX5_passes_3 rfl (lv_at hl 1 rfl) ?_
      refine lv_icmp_ge (tgt := 17) hx hb dX5_passes_4 (by decide) (fun c101 => ?_) (fun c101 => ?_)
      · rw [if_pos c101] at hf
        refine lv_aload_n hx hb dX5_passes_17 rfl (lv_at hl 0 rfl) ?_
        refine gM_X5_s C0 hH inX5_passes_X5 (by decide +kernel : Cond.fieldLink RX5 7 "GatheringCacheModel" "s" "[I" ∈ wsX5_passes) dX5_passes_18 ?_
        refine lv_iconst (v := 3) hx hb dX5_passes_21 (by decide) ?_
        obtain ⟨y102, h_y102, hf⟩ := bnd hf
        refine lM_s C0 hH h_y102 dX5_passes_22 ?_
        cases hf
        exact hend _ _ _ _ hH rfl dX5_passes_23
      · rw [if_neg c101] at hf
        refine lv_aload_n hx hb dX5_passes_7 rfl (lv_at hl 0 rfl) ?_
        obtain ⟨u103, h_u103, hf⟩ := bnd hf
        refine cl_vV C0 hH hl.1 (As := []) (rest := []) (mX5_tick l D ca a wr u h_u103) gX5_passes_X5_tick rfl rfl rfl hd_X5_tick ⟨Nat.le_of_ble_eq_true rfl, Nat.le_of_ble_eq_true rfl⟩ ⟨Nat.zero_le _, Nat.zero_le _⟩ (vM_X5 C0 hH) rfl (Nat.le_of_ble_eq_true rfl) dX5_passes_8 (fun H locs hH => ?_)
        refine lv_iinc (v := (x2 + 1)) (lv' := [(2, .int (x2 + 1)), (0, .ref (a 0)), (1, .int x1)]) hx hb dX5_passes_11 hl (k := 2) rfl rfl (by decide) rfl (fun ls hl => ?_)
        refine lv_goto (tgt := 2) hx hb dX5_passes_14 (by decide) ?_
        exact ih _ _ _ _ _ hf hH (lv_sub hl [1, 2, 0] rfl)
  unfold pX5_passes at hf
  refine lv_iconst (v := 0) hx hb dX5_passes_0 (by decide) ?_
  refine lv_istore_n (lv' := [(2, .int 0), (0, .ref (a 0)), (1, .int x1)]) hx hb dX5_passes_1 rfl hl (by decide) rfl (fun ls hl => ?_)
  exact J2 _ FU _ _ _ _ _ hf hH (lv_sub hl [1, 2, 0] rfl)
def rmX5_powers : Room := { frames := 5, cells := 0, slots := 0, locals := 110 }
theorem hd_X5_powers : yX5_powers.cls = RX5 ∧ yX5_powers.cls ≠ "java/lang/invoke/MethodHandle" ∧ yX5_powers.cls ≠ "java/lang/invoke/VarHandle" ∧ (parseMethodDescriptor yX5_powers.desc).map (fun d => d.parameters.length) = some 1 := by decide +kernel
theorem inX5_powers_X5 : ∀ w ∈ wsX50, w ∈ wsX5_powers := by decide +kernel
set_option maxHeartbeats 4000000 in
set_option maxRecDepth 100000 in
theorem mX5_powers (l : Launch) (D : va_G) (ca : Gp) (a : Nat → Nat) (wr : va_W) (u : Mem) (x1 : Int32) {r : Int32} {u9 : Mem} (hf : pX5_powers u x1 = some (r, u9)) : Mi l yX5_powers wsX5_powers rmX5_powers D ca [.ref (a 0), .int x1] (mW a ca u ++ wr) (mW a ca u9 ++ wr) r := by
  refine Mi_of (own := RX5) (cc := cX5_powers) (nL := 3) (ty := .int) (by decide) rfl rfl rfl rfl (Nat.le_of_ble_eq_true rfl) ?_
  intro p e s m args below meth c Q A ls C0 hH hl hend
  obtain ⟨hx, hb, hml, hown, hts⟩ := id C0.1
  have hl : lv_has ls 3 [(0, .ref (a 0)), (1, .int x1)] := hl
  have J67 : ∀ (s0 : Int32) (u : Mem) (H : Heap) (locs : List Loc) (ls : Array Slot), pX5_powers_67 s0 u = some (r, u9) → HS D A s (mW a ca u ++ wr) H locs → lv_has ls 3 [] → W p l e rmX5_powers s m args below meth c H locs 0 0 Q (F0 m 67 ls [.int s0]) := by
    intro s0 u H locs ls hf hH hl
    unfold pX5_powers_67 at hf
    cases hf
    exact hend _ _ _ _ hH rfl dX5_powers_67
  have J66 : ∀ (u : Mem) (H : Heap) (locs : List Loc) (ls : Array Slot), pX5_powers_66 u = some (r, u9) → HS D A s (mW a ca u ++ wr) H locs → lv_has ls 3 [] → W p l e rmX5_powers s m args below meth c H locs 0 0 Q (F0 m 66 ls []) := by
    intro u H locs ls hf hH hl
    unfold pX5_powers_66 at hf
    refine lv_iconst (v := 0) hx hb dX5_powers_66 (by decide) ?_
    exact J67 _ _ _ _ _ hf hH (lv_sub hl [] rfl)
  have J33 : ∀ (x2 : Int32) (s1 : Int32) (s2 : Int32) (u : Mem) (H : Heap) (locs : List Loc) (ls : Array Slot), pX5_powers_33 x2 s1 s2 u = some (r, u9) → HS D A s (mW a ca u ++ wr) H locs → lv_has ls 3 [(0, .ref (a 0)), (2, .int x2)] → W p l e rmX5_powers s m args below meth c H locs 0 0 Q (F0 m 33 ls [.int s2, .int s1, .ref (a 1)]) := by
    intro x2 s1 s2 u H locs ls hf hH hl
    unfold pX5_powers_33 at hf
    obtain ⟨u301, h_u301, hf⟩ := bnd hf
    refine sM_s C0 hH h_u301 dX5_powers_33 (fun H locs hH => ?_)
    refine lv_iload_n hx hb dX5_powers_34 rfl (lv_at hl 1 rfl) ?_
    refine lv_if_eq (tgt := 66) hx hb dX5_powers_35 (by decide) (fun c302 => ?_) (fun c302 => ?_)
    · rw [if_pos c302] at hf
      exact J66 _ _ _ _ hf hH (lv_sub hl [] rfl)
    · rw [if_neg c302] at hf
      refine lv_aload_n hx hb dX5_powers_38 rfl (lv_at hl 0 rfl) ?_
      refine gM_X5_s C0 hH inX5_powers_X5 (by decide +kernel : Cond.fieldLink RX5 7 "GatheringCacheModel" "s" "[I" ∈ wsX5_powers) dX5_powers_39 ?_
      refine lv_iconst (v := 0) hx hb dX5_powers_42 (by decide) ?_
      obtain ⟨y303, h_y303, hf⟩ := bnd hf
      refine lM_s C0 hH h_y303 dX5_powers_43 ?_
      refine lv_iconst (v := 1) hx hb dX5_powers_44 (by decide) ?_
      refine lv_icmp_ne (tgt := 66) hx hb dX5_powers_45 (by decide) (fun c304 => ?_) (fun c304 => ?_)
      · rw [if_neg c304] at hf
        exact J66 _ _ _ _ hf hH (lv_sub hl [] rfl)
      · rw [if_pos c304] at hf
        refine lv_aload_n hx hb dX5_powers_48 rfl (lv_at hl 0 rfl) ?_
        refine gM_X5_s C0 hH inX5_powers_X5 (by decide +kernel : Cond.fieldLink RX5 7 "GatheringCacheModel" "s" "[I" ∈ wsX5_powers) dX5_powers_49 ?_
        refine lv_iconst (v := 3) hx hb dX5_powers_52 (by decide) ?_
        obtain ⟨y305, h_y305, hf⟩ := bnd hf
        refine lM_s C0 hH h_y305 dX5_powers_53 ?_
        refine lv_bipush (v := 20) hx hb dX5_powers_54 (by decide) ?_
        refine lv_icmp_ge (tgt := 66) hx hb dX5_powers_56 (by decide) (fun c306 => ?_) (fun c306 => ?_)
        · rw [if_pos c306] at hf
          exact J66 _ _ _ _ hf hH (lv_sub hl [] rfl)
        · rw [if_neg c306] at hf
          refine lv_aload_n hx hb dX5_powers_59 rfl (lv_at hl 0 rfl) ?_
          obtain ⟨y307, u308, h_y307, hf⟩ := bnd2 hf
          refine cl_iV C0 hH hl.1 (As := []) (rest := []) (mX5_destagesAll l D ca a wr u301 h_y307) gX5_powers_X5_destagesAll rfl rfl rfl hd_X5_destagesAll ⟨Nat.le_of_ble_eq_true rfl, Nat.le_of_ble_eq_true rfl⟩ ⟨Nat.zero_le _, Nat.zero_le _⟩ (vM_X5 C0 hH) rfl (Nat.le_of_ble_eq_true rfl) dX5_powers_60 (fun H locs hH => ?_)
          refine lv_goto (tgt := 67) hx hb dX5_powers_63 (by decide) ?_
          exact J67 _ _ _ _ _ hf hH (lv_sub hl [] rfl)
  have J18 : ∀ (x1 : Int32) (s0 : Int32) (u : Mem) (H : Heap) (locs : List Loc) (ls : Array Slot), pX5_powers_18 x1 s0 u = some (r, u9) → HS D A s (mW a ca u ++ wr) H locs → lv_has ls 3 [(0, .ref (a 0)), (1, .int x1)] → W p l e rmX5_powers s m args below meth c H locs 0 0 Q (F0 m 18 ls [.int s0]) := by
    intro x1 s0 u H locs ls hf hH hl
    unfold pX5_powers_18 at hf
    refine lv_istore_n (lv' := [(2, .int s0), (0, .ref (a 0)), (1, .int x1)]) hx hb dX5_powers_18 rfl hl (by decide) rfl (fun ls hl => ?_)
    refine lv_aload_n hx hb dX5_powers_19 rfl (lv_at hl 1 rfl) ?_
    refine gM_X5_s C0 hH inX5_powers_X5 (by decide +kernel : Cond.fieldLink RX5 7 "GatheringCacheModel" "s" "[I" ∈ wsX5_powers) dX5_powers_20 ?_
    refine lv_iconst (v := 1) hx hb dX5_powers_23 (by decide) ?_
    refine lv_iload_n hx hb dX5_powers_24 rfl (lv_at hl 2 rfl) ?_
    refine lv_if_eq (tgt := 32) hx hb dX5_powers_25 (by decide) (fun c201 => ?_) (fun c201 => ?_)
    · rw [if_pos c201] at hf
      refine lv_iconst (v := 0) hx hb dX5_powers_32 (by decide) ?_
      exact J33 _ _ _ _ _ _ _ hf hH (lv_sub hl [1, 0] rfl)
    · rw [if_neg c201] at hf
      refine lv_iconst (v := 1) hx hb dX5_powers_28 (by decide) ?_
      refine lv_goto (tgt := 33) hx hb dX5_powers_29 (by decide) ?_
      exact J33 _ _ _ _ _ _ _ hf hH (lv_sub hl [1, 0] rfl)
  have J17 : ∀ (x1 : Int32) (u : Mem) (H : Heap) (locs : List Loc) (ls : Array Slot), pX5_powers_17 x1 u = some (r, u9) → HS D A s (mW a ca u ++ wr) H locs → lv_has ls 3 [(0, .ref (a 0)), (1, .int x1)] → W p l e rmX5_powers s m args below meth c H locs 0 0 Q (F0 m 17 ls []) := by
    intro x1 u H locs ls hf hH hl
    unfold pX5_powers_17 at hf
    refine lv_iconst (v := 0) hx hb dX5_powers_17 (by decide) ?_
    exact J18 _ _ _ _ _ _ hf hH (lv_sub hl [0, 1] rfl)
  unfold pX5_powers at hf
  refine lv_iload_n hx hb dX5_powers_0 rfl (lv_at hl 1 rfl) ?_
  refine lv_if_eq (tgt := 17) hx hb dX5_powers_1 (by decide) (fun c1 => ?_) (fun c1 => ?_)
  · rw [if_pos c1] at hf
    exact J17 _ _ _ _ _ hf hH (lv_sub hl [0, 1] rfl)
  · rw [if_neg c1] at hf
    refine lv_aload_n hx hb dX5_powers_4 rfl (lv_at hl 0 rfl) ?_
    refine gM_X5_s C0 hH inX5_powers_X5 (by decide +kernel : Cond.fieldLink RX5 7 "GatheringCacheModel" "s" "[I" ∈ wsX5_powers) dX5_powers_5 ?_
    refine lv_iconst (v := 1) hx hb dX5_powers_8 (by decide) ?_
    obtain ⟨y2, h_y2, hf⟩ := bnd hf
    refine lM_s C0 hH h_y2 dX5_powers_9 ?_
    refine lv_if_ne (tgt := 17) hx hb dX5_powers_10 (by decide) (fun c3 => ?_) (fun c3 => ?_)
    · rw [if_neg c3] at hf
      exact J17 _ _ _ _ _ hf hH (lv_sub hl [0, 1] rfl)
    · rw [if_pos c3] at hf
      refine lv_iconst (v := 1) hx hb dX5_powers_13 (by decide) ?_
      refine lv_goto (tgt := 18) hx hb dX5_powers_14 (by decide) ?_
      exact J18 _ _ _ _ _ _ hf hH (lv_sub hl [0, 1] rfl)
def rmX5_movesStick : Room := { frames := 2, cells := 0, slots := 0, locals := 43 }
theorem hd_X5_movesStick : yX5_movesStick.cls = RX5 ∧ yX5_movesStick.cls ≠ "java/lang/invoke/MethodHandle" ∧ yX5_movesStick.cls ≠ "java/lang/invoke/VarHandle" ∧ (parseMethodDescriptor yX5_movesStick.desc).map (fun d => d.parameters.length) = some 1 := by decide +kernel
theorem inX5_movesStick_X5 : ∀ w ∈ wsX50, w ∈ wsX5_movesStick := by decide +kernel
set_option maxHeartbeats 4000000 in
set_option maxRecDepth 100000 in
theorem mX5_movesStick (l : Launch) (D : va_G) (ca : Gp) (a : Nat → Nat) (wr : va_W) (u : Mem) (x1 : Int32) {r : Int32} {u9 : Mem} (hf : pX5_movesStick u x1 = some (r, u9)) : Mi l yX5_movesStick wsX5_movesStick rmX5_movesStick D ca [.ref (a 0), .int x1] (mW a ca u ++ wr) (mW a ca u9 ++ wr) r := by
  refine Mi_of (own := RX5) (cc := cX5_movesStick) (nL := 4) (ty := .int) (by decide) rfl rfl rfl rfl (Nat.le_of_ble_eq_true rfl) ?_
  intro p e s m args below meth c Q A ls C0 hH hl hend
  obtain ⟨hx, hb, hml, hown, hts⟩ := id C0.1
  have hl : lv_has ls 4 [(0, .ref (a 0)), (1, .int x1)] := hl
  have J88 : ∀ (x2 : Int32) (s1 : Int32) (s2 : Int32) (u : Mem) (H : Heap) (locs : List Loc) (ls : Array Slot), pX5_movesStick_88 x2 s1 s2 u = some (r, u9) → HS D A s (mW a ca u ++ wr) H locs → lv_has ls 4 [(2, .int x2)] → W p l e rmX5_movesStick s m args below meth c H locs 0 0 Q (F0 m 88 ls [.int s2, .int s1, .ref (a 1)]) := by
    intro x2 s1 s2 u H locs ls hf hH hl
    unfold pX5_movesStick_88 at hf
    obtain ⟨u401, h_u401, hf⟩ := bnd hf
    refine sM_s C0 hH h_u401 dX5_movesStick_88 (fun H locs hH => ?_)
    refine lv_iload_n hx hb dX5_movesStick_89 rfl (lv_at hl 0 rfl) ?_
    cases hf
    exact hend _ _ _ _ hH rfl dX5_movesStick_90
  have J74 : ∀ (x1 : Int32) (x2 : Int32) (u : Mem) (H : Heap) (locs : List Loc) (ls : Array Slot), pX5_movesStick_74 x1 x2 u = some (r, u9) → HS D A s (mW a ca u ++ wr) H locs → lv_has ls 4 [(0, .ref (a 0)), (1, .int x1), (2, .int x2)] → W p l e rmX5_movesStick s m args below meth c H locs 0 0 Q (F0 m 74 ls []) := by
    intro x1 x2 u H locs ls hf hH hl
    unfold pX5_movesStick_74 at hf
    refine lv_aload_n hx hb dX5_movesStick_74 rfl (lv_at hl 0 rfl) ?_
    refine gM_X5_s C0 hH inX5_movesStick_X5 (by decide +kernel : Cond.fieldLink RX5 7 "GatheringCacheModel" "s" "[I" ∈ wsX5_movesStick) dX5_movesStick_75 ?_
    refine lv_iconst (v := 0) hx hb dX5_movesStick_78 (by decide) ?_
    refine lv_iload_n hx hb dX5_movesStick_79 rfl (lv_at hl 1 rfl) ?_
    refine lv_if_eq (tgt := 87) hx hb dX5_movesStick_80 (by decide) (fun c301 => ?_) (fun c301 => ?_)
    · rw [if_pos c301] at hf
      refine lv_iconst (v := 0) hx hb dX5_movesStick_87 (by decide) ?_
      exact J88 _ _ _ _ _ _ _ hf hH (lv_sub hl [2] rfl)
    · rw [if_neg c301] at hf
      refine lv_iconst (v := 1) hx hb dX5_movesStick_83 (by decide) ?_
      refine lv_goto (tgt := 88) hx hb dX5_movesStick_84 (by decide) ?_
      exact J88 _ _ _ _ _ _ _ hf hH (lv_sub hl [2] rfl)
  have J4 : ∀ (x1 : Int32) (n : Nat) (x2 : Int32) (x3 : Int32) (u : Mem) (H : Heap) (locs : List Loc) (ls : Array Slot), pX5_movesStick_4 x1 n x2 x3 u = some (r, u9) → HS D A s (mW a ca u ++ wr) H locs → lv_has ls 4 [(0, .ref (a 0)), (1, .int x1), (2, .int x2), (3, .int x3)] → W p l e rmX5_movesStick s m args below meth c H locs 0 0 Q (F0 m 4 ls []) := by
    intro x1 n
    induction n with
    | zero => intro x2 x3 u H locs ls hf; cases hf
    | succ n ih =>
      intro x2 x3 u H locs ls hf hH hl
      have hf : pX5_movesStick_4b x1 (pX5_movesStick_4 x1 n) x2 x3 u = some (r, u9) := hf
      have J68 : ∀ (x2 : Int32) (x3 : Int32) (u : Mem) (H : Heap) (locs : List Loc) (ls : Array Slot), pX5_movesStick_68 x1 (pX5_movesStick_4 x1 n) x2 x3 u = some (r, u9) → HS D A s (mW a ca u ++ wr) H locs → lv_has ls 4 [(0, .ref (a 0)), (1, .int x1), (2, .int x2), (3, .int x3)] → W p l e rmX5_movesStick s m args below meth c H locs 0 0 Q (F0 m 68 ls []) := by
        intro x2 x3 u H locs ls hf hH hl
        unfold pX5_movesStick_68 at hf
        refine lv_iinc (v := (x3 + 1)) (lv' := [(3, .int (x3 + 1)), (0, .ref (a 0)), (1, .int x1), (2, .int x2)]) hx hb dX5_movesStick_68 hl (k := 3) rfl rfl (by decide) rfl (fun ls hl => ?_)
        refine lv_goto (tgt := 4) hx hb dX5_movesStick_71 (by decide) ?_
        exact ih _ _ _ _ _ _ hf hH (lv_sub hl [1, 2, 3, 0] rfl)
      unfold pX5_movesStick_4b at hf
      refine lv_iload_n hx hb dX5_movesStick_4 rfl (lv_at hl 3 rfl) ?_
      refine lv_bipush (v := 12) hx hb dX5_movesStick_5 (by decide) ?_
      refine lv_icmp_ge (tgt := 74) hx hb dX5_movesStick_7 (by decide) (fun c101 => ?_) (fun c101 => ?_)
      · rw [if_pos c101] at hf
        exact J74 _ _ _ _ _ _ hf hH (lv_sub hl [0, 1, 2] rfl)
      · rw [if_neg c101] at hf
        refine lv_iload_n hx hb dX5_movesStick_10 rfl (lv_at hl 1 rfl) ?_
        refine lv_if_eq (tgt := 74) hx hb dX5_movesStick_11 (by decide) (fun c102 => ?_) (fun c102 => ?_)
        · rw [if_pos c102] at hf
          exact J74 _ _ _ _ _ _ hf hH (lv_sub hl [0, 1, 2] rfl)
        · rw [if_neg c102] at hf
          refine lv_aload_n hx hb dX5_movesStick_14 rfl (lv_at hl 0 rfl) ?_
          refine gM_X5_s C0 hH inX5_movesStick_X5 (by decide +kernel : Cond.fieldLink RX5 7 "GatheringCacheModel" "s" "[I" ∈ wsX5_movesStick) dX5_movesStick_15 ?_
          refine lv_iconst (v := 0) hx hb dX5_movesStick_18 (by decide) ?_
          obtain ⟨y103, h_y103, hf⟩ := bnd hf
          refine lM_s C0 hH h_y103 dX5_movesStick_19 ?_
          refine lv_if_ne (tgt := 74) hx hb dX5_movesStick_20 (by decide) (fun c104 => ?_) (fun c104 => ?_)
          · rw [if_neg c104] at hf
            exact J74 _ _ _ _ _ _ hf hH (lv_sub hl [0, 1, 2] rfl)
          · rw [if_pos c104] at hf
            refine lv_aload_n hx hb dX5_movesStick_23 rfl (lv_at hl 0 rfl) ?_
            refine lv_iload_n hx hb dX5_movesStick_24 rfl (lv_at hl 3 rfl) ?_
            obtain ⟨y105, h_y105, hf⟩ := bnd hf
            refine cl_iV C0 hH hl.1 (As := [.int x3]) (rest := []) (mX5_isEmpty l D ca a wr u x3 h_y105) gX5_movesStick_X5_isEmpty rfl rfl rfl hd_X5_isEmpty ⟨Nat.le_of_ble_eq_true rfl, Nat.le_of_ble_eq_true rfl⟩ ⟨Nat.zero_le _, Nat.zero_le _⟩ (vM_X5 C0 hH) rfl (Nat.le_of_ble_eq_true rfl) dX5_movesStick_25 (fun H locs hH => ?_)
            refine lv_if_ne (tgt := 68) hx hb dX5_movesStick_28 (by decide) (fun c106 => ?_) (fun c106 => ?_)
            · rw [if_neg c106] at hf
              exact J68 _ _ _ _ _ _ hf hH (lv_sub hl [0, 1, 2, 3] rfl)
            · rw [if_pos c106] at hf
              refine lv_aload_n hx hb dX5_movesStick_31 rfl (lv_at hl 0 rfl) ?_
              refine lv_iload_n hx hb dX5_movesStick_32 rfl (lv_at hl 3 rfl) ?_
              refine lv_iconst (v := 2) hx hb dX5_movesStick_33 (by decide) ?_
              obtain ⟨y107, h_y107, hf⟩ := bnd hf
              refine cl_iV C0 hH hl.1 (As := [.int x3, .int 2]) (rest := []) (mX5_of l D ca a wr u x3 2 h_y107) gX5_movesStick_X5_of rfl rfl rfl hd_X5_of ⟨Nat.le_of_ble_eq_true rfl, Nat.le_of_ble_eq_true rfl⟩ ⟨Nat.zero_le _, Nat.zero_le _⟩ (vM_X5 C0 hH) rfl (Nat.le_of_ble_eq_true rfl) dX5_movesStick_34 (fun H locs hH => ?_)
              refine lv_aload_n hx hb dX5_movesStick_37 rfl (lv_at hl 0 rfl) ?_
              refine gM_X5_s C0 hH inX5_movesStick_X5 (by decide +kernel : Cond.fieldLink RX5 7 "GatheringCacheModel" "s" "[I" ∈ wsX5_movesStick) dX5_movesStick_38 ?_
              refine lv_bipush (v := 15) hx hb dX5_movesStick_41 (by decide) ?_
              refine lv_iconst (v := 2) hx hb dX5_movesStick_43 (by decide) ?_
              refine lv_aload_n hx hb dX5_movesStick_44 rfl (lv_at hl 0 rfl) ?_
              refine lv_iload_n hx hb dX5_movesStick_45 rfl (lv_at hl 3 rfl) ?_
              refine lv_iconst (v := 0) hx hb dX5_movesStick_46 (by decide) ?_
              obtain ⟨y108, h_y108, hf⟩ := bnd hf
              refine cl_iV C0 hH hl.1 (As := [.int x3, .int 0]) (rest := [.int 2, .int 15, .ref (a 1), .int y107]) (mX5_of l D ca a wr u x3 0 h_y108) gX5_movesStick_X5_of rfl rfl rfl hd_X5_of ⟨Nat.le_of_ble_eq_true rfl, Nat.le_of_ble_eq_true rfl⟩ ⟨Nat.zero_le _, Nat.zero_le _⟩ (vM_X5 C0 hH) rfl (Nat.le_of_ble_eq_true rfl) dX5_movesStick_47 (fun H locs hH => ?_)
              refine lv_imul hx hb dX5_movesStick_50 ?_
              refine lv_iadd hx hb dX5_movesStick_51 ?_
              refine lv_iconst (v := 1) hx hb dX5_movesStick_52 (by decide) ?_
              refine lv_iadd hx hb dX5_movesStick_53 ?_
              obtain ⟨y109, h_y109, hf⟩ := bnd hf
              refine lM_s C0 hH h_y109 dX5_movesStick_54 ?_
              refine lv_icmp_ge (tgt := 68) hx hb dX5_movesStick_55 (by decide) (fun c110 => ?_) (fun c110 => ?_)
              · rw [if_pos c110] at hf
                exact J68 _ _ _ _ _ _ hf hH (lv_sub hl [0, 1, 2, 3] rfl)
              · rw [if_neg c110] at hf
                refine lv_aload_n hx hb dX5_movesStick_58 rfl (lv_at hl 0 rfl) ?_
                refine lv_iload_n hx hb dX5_movesStick_59 rfl (lv_at hl 3 rfl) ?_
                refine lv_iconst (v := 0) hx hb dX5_movesStick_60 (by decide) ?_
                refine lv_iconst (v := (-1)) hx hb dX5_movesStick_61 (by decide) ?_
                obtain ⟨u111, h_u111, hf⟩ := bnd hf
                refine cl_vV C0 hH hl.1 (As := [.int x3, .int 0, .int (-1)]) (rest := []) (mX5_lay l D ca a wr u x3 0 (-1) h_u111) gX5_movesStick_X5_lay rfl rfl rfl hd_X5_lay ⟨Nat.le_of_ble_eq_true rfl, Nat.le_of_ble_eq_true rfl⟩ ⟨Nat.zero_le _, Nat.zero_le _⟩ (vM_X5 C0 hH) rfl (Nat.le_of_ble_eq_true rfl) dX5_movesStick_62 (fun H locs hH => ?_)
                refine lv_iinc (v := (x2 + 1)) (lv' := [(2, .int (x2 + 1)), (0, .ref (a 0)), (1, .int x1), (3, .int x3)]) hx hb dX5_movesStick_65 hl (k := 2) rfl rfl (by decide) rfl (fun ls hl => ?_)
                exact J68 _ _ _ _ _ _ hf hH (lv_sub hl [1, 2, 0, 3] rfl)
  unfold pX5_movesStick at hf
  refine lv_iconst (v := 0) hx hb dX5_movesStick_0 (by decide) ?_
  refine lv_istore_n (lv' := [(2, .int 0), (0, .ref (a 0)), (1, .int x1)]) hx hb dX5_movesStick_1 rfl hl (by decide) rfl (fun ls hl => ?_)
  refine lv_iconst (v := 0) hx hb dX5_movesStick_2 (by decide) ?_
  refine lv_istore_n (lv' := [(3, .int 0), (2, .int 0), (0, .ref (a 0)), (1, .int x1)]) hx hb dX5_movesStick_3 rfl hl (by decide) rfl (fun ls hl => ?_)
  exact J4 _ FU _ _ _ _ _ _ hf hH (lv_sub hl [2, 3, 1, 0] rfl)
def rmX5_copies : Room := { frames := 0, cells := 0, slots := 0, locals := 0 }
theorem hd_X5_copies : yX5_copies.cls = RX5 ∧ yX5_copies.cls ≠ "java/lang/invoke/MethodHandle" ∧ yX5_copies.cls ≠ "java/lang/invoke/VarHandle" ∧ (parseMethodDescriptor yX5_copies.desc).map (fun d => d.parameters.length) = some 2 := by decide +kernel
theorem inX5_copies_X5 : ∀ w ∈ wsX50, w ∈ wsX5_copies := by decide +kernel
set_option maxHeartbeats 4000000 in
set_option maxRecDepth 100000 in
theorem mX5_copies (l : Launch) (D : va_G) (ca : Gp) (a : Nat → Nat) (wr : va_W) (u : Mem) (x1 : Int32) (x2 : Int32) {u9 : Mem} (hf : pX5_copies u x1 x2 = some u9) : Mv l yX5_copies wsX5_copies rmX5_copies D ca [.ref (a 0), .int x1, .int x2] (mW a ca u ++ wr) (mW a ca u9 ++ wr) := by
  refine Mv_of (own := RX5) (cc := cX5_copies) (nL := 4) (by decide) rfl rfl rfl rfl (Nat.le_of_ble_eq_true rfl) ?_
  intro p e s m args below meth c Q A ls C0 hH hl hend
  obtain ⟨hx, hb, hml, hown, hts⟩ := id C0.1
  have hl : lv_has ls 4 [(0, .ref (a 0)), (1, .int x1), (2, .int x2)] := hl
  have J2 : ∀ (x1 : Int32) (x2 : Int32) (n : Nat) (x3 : Int32) (u : Mem) (H : Heap) (locs : List Loc) (ls : Array Slot), pX5_copies_2 x1 x2 n x3 u = some u9 → HS D A s (mW a ca u ++ wr) H locs → lv_has ls 4 [(0, .ref (a 0)), (1, .int x1), (2, .int x2), (3, .int x3)] → W p l e rmX5_copies s m args below meth c H locs 0 0 Q (F0 m 2 ls []) := by
    intro x1 x2 n
    induction n with
    | zero => intro x3 u H locs ls hf; cases hf
    | succ n ih =>
      intro x3 u H locs ls hf hH hl
      have hf : pX5_copies_2b x1 x2 (pX5_copies_2 x1 x2 n) x3 u = some u9 := hf
      unfold pX5_copies_2b at hf
      refine lv_iload_n hx hb dX5_copies_2 rfl (lv_at hl 3 rfl) ?_
      refine lv_sipush (v := 331) hx hb dX5_copies_3 (by decide) ?_
      refine lv_icmp_ge (tgt := 39) hx hb dX5_copies_6 (by decide) (fun c101 => ?_) (fun c101 => ?_)
      · rw [if_pos c101] at hf
        cases hf
        exact hend _ _ _ _ hH dX5_copies_39
      · rw [if_neg c101] at hf
        refine lv_aload_n hx hb dX5_copies_9 rfl (lv_at hl 0 rfl) ?_
        refine gM_X5_s C0 hH inX5_copies_X5 (by decide +kernel : Cond.fieldLink RX5 7 "GatheringCacheModel" "s" "[I" ∈ wsX5_copies) dX5_copies_10 ?_
        refine lv_sipush (v := 331) hx hb dX5_copies_13 (by decide) ?_
        refine lv_iload_n hx hb dX5_copies_16 rfl (lv_at hl 2 rfl) ?_
        refine lv_imul hx hb dX5_copies_17 ?_
        refine lv_iload_n hx hb dX5_copies_18 rfl (lv_at hl 3 rfl) ?_
        refine lv_iadd hx hb dX5_copies_19 ?_
        refine lv_aload_n hx hb dX5_copies_20 rfl (lv_at hl 0 rfl) ?_
        refine gM_X5_s C0 hH inX5_copies_X5 (by decide +kernel : Cond.fieldLink RX5 7 "GatheringCacheModel" "s" "[I" ∈ wsX5_copies) dX5_copies_21 ?_
        refine lv_sipush (v := 331) hx hb dX5_copies_24 (by decide) ?_
        refine lv_iload_n hx hb dX5_copies_27 rfl (lv_at hl 1 rfl) ?_
        refine lv_imul hx hb dX5_copies_28 ?_
        refine lv_iload_n hx hb dX5_copies_29 rfl (lv_at hl 3 rfl) ?_
        refine lv_iadd hx hb dX5_copies_30 ?_
        obtain ⟨y102, h_y102, hf⟩ := bnd hf
        refine lM_s C0 hH h_y102 dX5_copies_31 ?_
        obtain ⟨u103, h_u103, hf⟩ := bnd hf
        refine sM_s C0 hH h_u103 dX5_copies_32 (fun H locs hH => ?_)
        refine lv_iinc (v := (x3 + 1)) (lv' := [(3, .int (x3 + 1)), (0, .ref (a 0)), (1, .int x1), (2, .int x2)]) hx hb dX5_copies_33 hl (k := 3) rfl rfl (by decide) rfl (fun ls hl => ?_)
        refine lv_goto (tgt := 2) hx hb dX5_copies_36 (by decide) ?_
        exact ih _ _ _ _ _ hf hH (lv_sub hl [1, 2, 3, 0] rfl)
  unfold pX5_copies at hf
  refine lv_iconst (v := 0) hx hb dX5_copies_0 (by decide) ?_
  refine lv_istore_n (lv' := [(3, .int 0), (0, .ref (a 0)), (1, .int x1), (2, .int x2)]) hx hb dX5_copies_1 rfl hl (by decide) rfl (fun ls hl => ?_)
  exact J2 _ _ FU _ _ _ _ _ hf hH (lv_sub hl [1, 2, 3, 0] rfl)
def rmX5_keeps : Room := { frames := 1, cells := 0, slots := 0, locals := 23 }
theorem hd_X5_keeps : yX5_keeps.cls = RX5 ∧ yX5_keeps.cls ≠ "java/lang/invoke/MethodHandle" ∧ yX5_keeps.cls ≠ "java/lang/invoke/VarHandle" ∧ (parseMethodDescriptor yX5_keeps.desc).map (fun d => d.parameters.length) = some 0 := by decide +kernel
theorem inX5_keeps_X5 : ∀ w ∈ wsX50, w ∈ wsX5_keeps := by decide +kernel
set_option maxHeartbeats 4000000 in
set_option maxRecDepth 100000 in
theorem mX5_keeps (l : Launch) (D : va_G) (ca : Gp) (a : Nat → Nat) (wr : va_W) (u : Mem) {u9 : Mem} (hf : pX5_keeps u = some u9) : Mv l yX5_keeps wsX5_keeps rmX5_keeps D ca [.ref (a 0)] (mW a ca u ++ wr) (mW a ca u9 ++ wr) := by
  refine Mv_of (own := RX5) (cc := cX5_keeps) (nL := 2) (by decide) rfl rfl rfl rfl (Nat.le_of_ble_eq_true rfl) ?_
  intro p e s m args below meth c Q A ls C0 hH hl hend
  obtain ⟨hx, hb, hml, hown, hts⟩ := id C0.1
  have hl : lv_has ls 2 [(0, .ref (a 0))] := hl
  have J50 : ∀ (s1 : Int32) (s2 : Int32) (u : Mem) (H : Heap) (locs : List Loc) (ls : Array Slot), pX5_keeps_50 s1 s2 u = some u9 → HS D A s (mW a ca u ++ wr) H locs → lv_has ls 2 [(0, .ref (a 0))] → W p l e rmX5_keeps s m args below meth c H locs 0 0 Q (F0 m 50 ls [.int s2, .int s1, .ref (a 0)]) := by
    intro s1 s2 u H locs ls hf hH hl
    unfold pX5_keeps_50 at hf
    refine lv_iadd hx hb dX5_keeps_50 ?_
    obtain ⟨u301, h_u301, hf⟩ := bnd hf
    refine pM_X5_saved C0 hH inX5_keeps_X5 h_u301 (by decide +kernel : Cond.fieldLink RX5 90 "GatheringCacheModel" "saved" "I" ∈ wsX5_keeps) dX5_keeps_51 (fun H locs hH => ?_)
    refine lv_aload_n hx hb dX5_keeps_54 rfl (lv_at hl 0 rfl) ?_
    refine lv_iconst (v := 0) hx hb dX5_keeps_55 (by decide) ?_
    refine lv_aload_n hx hb dX5_keeps_56 rfl (lv_at hl 0 rfl) ?_
    refine gM_X5_saved C0 hH inX5_keeps_X5 (by decide +kernel : Cond.fieldLink RX5 90 "GatheringCacheModel" "saved" "I" ∈ wsX5_keeps) dX5_keeps_57 ?_
    obtain ⟨u302, h_u302, hf⟩ := bnd hf
    refine cl_vV C0 hH hl.1 (As := [.int 0, .int (u301 0 1)]) (rest := []) (mX5_copies l D ca a wr u301 0 (u301 0 1) h_u302) gX5_keeps_X5_copies rfl rfl rfl hd_X5_copies ⟨Nat.le_of_ble_eq_true rfl, Nat.le_of_ble_eq_true rfl⟩ ⟨Nat.zero_le _, Nat.zero_le _⟩ (vM_X5 C0 hH) rfl (Nat.le_of_ble_eq_true rfl) dX5_keeps_60 (fun H locs hH => ?_)
    cases hf
    exact hend _ _ _ _ hH dX5_keeps_63
  have J31 : ∀ (u : Mem) (H : Heap) (locs : List Loc) (ls : Array Slot), pX5_keeps_31 u = some u9 → HS D A s (mW a ca u ++ wr) H locs → lv_has ls 2 [(0, .ref (a 0))] → W p l e rmX5_keeps s m args below meth c H locs 0 0 Q (F0 m 31 ls []) := by
    intro u H locs ls hf hH hl
    unfold pX5_keeps_31 at hf
    refine lv_aload_n hx hb dX5_keeps_31 rfl (lv_at hl 0 rfl) ?_
    refine lv_dup hx hb dX5_keeps_32 rfl ?_
    refine gM_X5_saved C0 hH inX5_keeps_X5 (by decide +kernel : Cond.fieldLink RX5 90 "GatheringCacheModel" "saved" "I" ∈ wsX5_keeps) dX5_keeps_33 ?_
    refine lv_aload_n hx hb dX5_keeps_36 rfl (lv_at hl 0 rfl) ?_
    refine gM_X5_saved C0 hH inX5_keeps_X5 (by decide +kernel : Cond.fieldLink RX5 90 "GatheringCacheModel" "saved" "I" ∈ wsX5_keeps) dX5_keeps_37 ?_
    refine lv_bipush (v := 6) hx hb dX5_keeps_40 (by decide) ?_
    refine lv_icmp_ge (tgt := 49) hx hb dX5_keeps_42 (by decide) (fun c201 => ?_) (fun c201 => ?_)
    · rw [if_pos c201] at hf
      refine lv_iconst (v := 0) hx hb dX5_keeps_49 (by decide) ?_
      exact J50 _ _ _ _ _ _ hf hH (lv_sub hl [0] rfl)
    · rw [if_neg c201] at hf
      refine lv_iconst (v := 1) hx hb dX5_keeps_45 (by decide) ?_
      refine lv_goto (tgt := 50) hx hb dX5_keeps_46 (by decide) ?_
      exact J50 _ _ _ _ _ _ hf hH (lv_sub hl [0] rfl)
  have J2 : ∀ (n : Nat) (x1 : Int32) (u : Mem) (H : Heap) (locs : List Loc) (ls : Array Slot), pX5_keeps_2 n x1 u = some u9 → HS D A s (mW a ca u ++ wr) H locs → lv_has ls 2 [(0, .ref (a 0)), (1, .int x1)] → W p l e rmX5_keeps s m args below meth c H locs 0 0 Q (F0 m 2 ls []) := by
    intro n
    induction n with
    | zero => intro x1 u H locs ls hf; cases hf
    | succ n ih =>
      intro x1 u H locs ls hf hH hl
      have hf : pX5_keeps_2b (pX5_keeps_2 n) x1 u = some u9 := hf
      unfold pX5_keeps_2b at hf
      refine lv_iload_n hx hb dX5_keeps_2 rfl (lv_at hl 1 rfl) ?_
      refine lv_bipush (v := 6) hx hb dX5_keeps_3 (by decide) ?_
      refine lv_icmp_ge (tgt := 31) hx hb dX5_keeps_5 (by decide) (fun c101 => ?_) (fun c101 => ?_)
      · rw [if_pos c101] at hf
        exact J31 _ _ _ _ hf hH (lv_sub hl [0] rfl)
      · rw [if_neg c101] at hf
        refine lv_aload_n hx hb dX5_keeps_8 rfl (lv_at hl 0 rfl) ?_
        refine gM_X5_saved C0 hH inX5_keeps_X5 (by decide +kernel : Cond.fieldLink RX5 90 "GatheringCacheModel" "saved" "I" ∈ wsX5_keeps) dX5_keeps_9 ?_
        refine lv_bipush (v := 6) hx hb dX5_keeps_12 (by decide) ?_
        refine lv_icmp_ne (tgt := 31) hx hb dX5_keeps_14 (by decide) (fun c102 => ?_) (fun c102 => ?_)
        · rw [if_neg c102] at hf
          exact J31 _ _ _ _ hf hH (lv_sub hl [0] rfl)
        · rw [if_pos c102] at hf
          refine lv_aload_n hx hb dX5_keeps_17 rfl (lv_at hl 0 rfl) ?_
          refine lv_iload_n hx hb dX5_keeps_18 rfl (lv_at hl 1 rfl) ?_
          refine lv_iconst (v := 1) hx hb dX5_keeps_19 (by decide) ?_
          refine lv_iadd hx hb dX5_keeps_20 ?_
          refine lv_iload_n hx hb dX5_keeps_21 rfl (lv_at hl 1 rfl) ?_
          obtain ⟨u103, h_u103, hf⟩ := bnd hf
          refine cl_vV C0 hH hl.1 (As := [.int (x1 + 1), .int x1]) (rest := []) (mX5_copies l D ca a wr u (x1 + 1) x1 h_u103) gX5_keeps_X5_copies rfl rfl rfl hd_X5_copies ⟨Nat.le_of_ble_eq_true rfl, Nat.le_of_ble_eq_true rfl⟩ ⟨Nat.zero_le _, Nat.zero_le _⟩ (vM_X5 C0 hH) rfl (Nat.le_of_ble_eq_true rfl) dX5_keeps_22 (fun H locs hH => ?_)
          refine lv_iinc (v := (x1 + 1)) (lv' := [(1, .int (x1 + 1)), (0, .ref (a 0))]) hx hb dX5_keeps_25 hl (k := 1) rfl rfl (by decide) rfl (fun ls hl => ?_)
          refine lv_goto (tgt := 2) hx hb dX5_keeps_28 (by decide) ?_
          exact ih _ _ _ _ _ hf hH (lv_sub hl [1, 0] rfl)
  unfold pX5_keeps at hf
  refine lv_iconst (v := 1) hx hb dX5_keeps_0 (by decide) ?_
  refine lv_istore_n (lv' := [(1, .int 1), (0, .ref (a 0))]) hx hb dX5_keeps_1 rfl hl (by decide) rfl (fun ls hl => ?_)
  exact J2 FU _ _ _ _ _ hf hH (lv_sub hl [1, 0] rfl)
def rmX5_write : Room := { frames := 6, cells := 0, slots := 0, locals := 136 }
theorem hd_X5_write : yX5_write.cls = RX5 ∧ yX5_write.cls ≠ "java/lang/invoke/MethodHandle" ∧ yX5_write.cls ≠ "java/lang/invoke/VarHandle" ∧ (parseMethodDescriptor yX5_write.desc).map (fun d => d.parameters.length) = some 2 := by decide +kernel
theorem inX5_write_X5 : ∀ w ∈ wsX50, w ∈ wsX5_write := by decide +kernel
set_option maxHeartbeats 4000000 in
set_option maxRecDepth 100000 in
theorem mX5_write (l : Launch) (D : va_G) (ca : Gp) (a : Nat → Nat) (wr : va_W) (u : Mem) (x1 : Int32) (x2 : Int32) {r : Int32} {u9 : Mem} (hf : pX5_write u x1 x2 = some (r, u9)) : Mi l yX5_write wsX5_write rmX5_write D ca [.ref (a 0), .int x1, .int x2] (mW a ca u ++ wr) (mW a ca u9 ++ wr) r := by
  refine Mi_of (own := RX5) (cc := cX5_write) (nL := 3) (ty := .int) (by decide) rfl rfl rfl rfl (Nat.le_of_ble_eq_true rfl) ?_
  intro p e s m args below meth c Q A ls C0 hH hl hend
  obtain ⟨hx, hb, hml, hown, hts⟩ := id C0.1
  have hl : lv_has ls 3 [(0, .ref (a 0)), (1, .int x1), (2, .int x2)] := hl
  have J41 : ∀ (x1 : Int32) (x2 : Int32) (s1 : Int32) (u : Mem) (H : Heap) (locs : List Loc) (ls : Array Slot), pX5_write_41 x1 x2 s1 u = some (r, u9) → HS D A s (mW a ca u ++ wr) H locs → lv_has ls 3 [(0, .ref (a 0)), (1, .int x1), (2, .int x2)] → W p l e rmX5_write s m args below meth c H locs 0 0 Q (F0 m 41 ls [.int s1, .ref (a 0)]) := by
    intro x1 x2 s1 u H locs ls hf hH hl
    unfold pX5_write_41 at hf
    obtain ⟨y101, u102, h_y101, hf⟩ := bnd2 hf
    refine cl_iV C0 hH hl.1 (As := [.int s1]) (rest := []) (mX5_holds l D ca a wr u s1 h_y101) gX5_write_X5_holds rfl rfl rfl hd_X5_holds ⟨Nat.le_of_ble_eq_true rfl, Nat.le_of_ble_eq_true rfl⟩ ⟨Nat.zero_le _, Nat.zero_le _⟩ (vM_X5 C0 hH) rfl (Nat.le_of_ble_eq_true rfl) dX5_write_41 (fun H locs hH => ?_)
    refine lv_if_ne (tgt := 49) hx hb dX5_write_44 (by decide) (fun c103 => ?_) (fun c103 => ?_)
    · rw [if_neg c103] at hf
      refine lv_aload_n hx hb dX5_write_49 rfl (lv_at hl 0 rfl) ?_
      obtain ⟨u104, h_u104, hf⟩ := bnd hf
      refine cl_vV C0 hH hl.1 (As := []) (rest := []) (mX5_keeps l D ca a wr u102 h_u104) gX5_write_X5_keeps rfl rfl rfl hd_X5_keeps ⟨Nat.le_of_ble_eq_true rfl, Nat.le_of_ble_eq_true rfl⟩ ⟨Nat.zero_le _, Nat.zero_le _⟩ (vM_X5 C0 hH) rfl (Nat.le_of_ble_eq_true rfl) dX5_write_50 (fun H locs hH => ?_)
      refine lv_aload_n hx hb dX5_write_53 rfl (lv_at hl 0 rfl) ?_
      refine lv_iload_n hx hb dX5_write_54 rfl (lv_at hl 1 rfl) ?_
      refine lv_iload_n hx hb dX5_write_55 rfl (lv_at hl 2 rfl) ?_
      obtain ⟨y105, u106, h_y105, hf⟩ := bnd2 hf
      refine cl_iV C0 hH hl.1 (As := [.int x1, .int x2]) (rest := []) (mX5_writes l D ca a wr u104 x1 x2 h_y105) gX5_write_X5_writes rfl rfl rfl hd_X5_writes ⟨Nat.le_of_ble_eq_true rfl, Nat.le_of_ble_eq_true rfl⟩ ⟨Nat.zero_le _, Nat.zero_le _⟩ (vM_X5 C0 hH) rfl (Nat.le_of_ble_eq_true rfl) dX5_write_56 (fun H locs hH => ?_)
      cases hf
      exact hend _ _ _ _ hH rfl dX5_write_59
    · rw [if_pos c103] at hf
      refine lv_iconst (v := 0) hx hb dX5_write_47 (by decide) ?_
      cases hf
      exact hend _ _ _ _ hH rfl dX5_write_48
  unfold pX5_write at hf
  refine lv_aload_n hx hb dX5_write_0 rfl (lv_at hl 0 rfl) ?_
  refine lv_iload_n hx hb dX5_write_1 rfl (lv_at hl 1 rfl) ?_
  obtain ⟨y1, h_y1, hf⟩ := bnd hf
  refine cl_iS C0 hH hl.1 (As := [.int x1]) (rest := [.ref (a 0)]) (mX5_isBlock l D ca (mW a ca u ++ wr) x1 h_y1) gX5_write_X5_isBlock rfl rfl rfl hd_X5_isBlock ⟨Nat.le_of_ble_eq_true rfl, Nat.le_of_ble_eq_true rfl⟩ ⟨Nat.zero_le _, Nat.zero_le _⟩ rfl (Nat.le_of_ble_eq_true rfl) dX5_write_2 (fun H locs hH => ?_)
  refine lv_if_ne (tgt := 12) hx hb dX5_write_5 (by decide) (fun c2 => ?_) (fun c2 => ?_)
  · rw [if_neg c2] at hf
    refine lv_iload_n hx hb dX5_write_12 rfl (lv_at hl 2 rfl) ?_
    refine lv_iconst (v := 0) hx hb dX5_write_13 (by decide) ?_
    refine lv_sipush (v := 999) hx hb dX5_write_14 (by decide) ?_
    obtain ⟨y3, h_y3, hf⟩ := bnd hf
    refine cl_iS C0 hH hl.1 (As := [.int x2, .int 0, .int 999]) (rest := [.ref (a 0)]) (mX5_in l D ca (mW a ca u ++ wr) x2 0 999 h_y3) gX5_write_X5_in rfl rfl rfl hd_X5_in ⟨Nat.le_of_ble_eq_true rfl, Nat.le_of_ble_eq_true rfl⟩ ⟨Nat.zero_le _, Nat.zero_le _⟩ rfl (Nat.le_of_ble_eq_true rfl) dX5_write_17 (fun H locs hH => ?_)
    refine lv_if_ne (tgt := 27) hx hb dX5_write_20 (by decide) (fun c4 => ?_) (fun c4 => ?_)
    · rw [if_neg c4] at hf
      refine lv_aload_n hx hb dX5_write_27 rfl (lv_at hl 0 rfl) ?_
      refine gM_X5_s C0 hH inX5_write_X5 (by decide +kernel : Cond.fieldLink RX5 7 "GatheringCacheModel" "s" "[I" ∈ wsX5_write) dX5_write_28 ?_
      refine lv_iconst (v := 1) hx hb dX5_write_31 (by decide) ?_
      obtain ⟨y5, h_y5, hf⟩ := bnd hf
      refine lM_s C0 hH h_y5 dX5_write_32 ?_
      refine lv_if_ne (tgt := 40) hx hb dX5_write_33 (by decide) (fun c6 => ?_) (fun c6 => ?_)
      · rw [if_neg c6] at hf
        refine lv_iconst (v := 0) hx hb dX5_write_40 (by decide) ?_
        exact J41 _ _ _ _ _ _ _ hf hH (lv_sub hl [0, 1, 2] rfl)
      · rw [if_pos c6] at hf
        refine lv_iconst (v := 3) hx hb dX5_write_36 (by decide) ?_
        refine lv_goto (tgt := 41) hx hb dX5_write_37 (by decide) ?_
        exact J41 _ _ _ _ _ _ _ hf hH (lv_sub hl [0, 1, 2] rfl)
    · rw [if_pos c4] at hf
      refine lv_iconst (v := 2) hx hb dX5_write_23 (by decide) ?_
      refine lv_goto (tgt := 41) hx hb dX5_write_24 (by decide) ?_
      exact J41 _ _ _ _ _ _ _ hf hH (lv_sub hl [0, 1, 2] rfl)
  · rw [if_pos c2] at hf
    refine lv_iconst (v := 1) hx hb dX5_write_8 (by decide) ?_
    refine lv_goto (tgt := 41) hx hb dX5_write_9 (by decide) ?_
    exact J41 _ _ _ _ _ _ _ hf hH (lv_sub hl [0, 1, 2] rfl)
def rmX5_read : Room := { frames := 3, cells := 0, slots := 0, locals := 66 }
theorem hd_X5_read : yX5_read.cls = RX5 ∧ yX5_read.cls ≠ "java/lang/invoke/MethodHandle" ∧ yX5_read.cls ≠ "java/lang/invoke/VarHandle" ∧ (parseMethodDescriptor yX5_read.desc).map (fun d => d.parameters.length) = some 1 := by decide +kernel
theorem inX5_read_X5 : ∀ w ∈ wsX50, w ∈ wsX5_read := by decide +kernel
set_option maxHeartbeats 4000000 in
set_option maxRecDepth 100000 in
theorem mX5_read (l : Launch) (D : va_G) (ca : Gp) (a : Nat → Nat) (wr : va_W) (u : Mem) (x1 : Int32) {r : Int32} {u9 : Mem} (hf : pX5_read u x1 = some (r, u9)) : Mi l yX5_read wsX5_read rmX5_read D ca [.ref (a 0), .int x1] (mW a ca u ++ wr) (mW a ca u9 ++ wr) r := by
  refine Mi_of (own := RX5) (cc := cX5_read) (nL := 2) (ty := .int) (by decide) rfl rfl rfl rfl (Nat.le_of_ble_eq_true rfl) ?_
  intro p e s m args below meth c Q A ls C0 hH hl hend
  obtain ⟨hx, hb, hml, hown, hts⟩ := id C0.1
  have hl : lv_has ls 2 [(0, .ref (a 0)), (1, .int x1)] := hl
  have J26 : ∀ (x1 : Int32) (s1 : Int32) (u : Mem) (H : Heap) (locs : List Loc) (ls : Array Slot), pX5_read_26 x1 s1 u = some (r, u9) → HS D A s (mW a ca u ++ wr) H locs → lv_has ls 2 [(0, .ref (a 0)), (1, .int x1)] → W p l e rmX5_read s m args below meth c H locs 0 0 Q (F0 m 26 ls [.int s1, .ref (a 0)]) := by
    intro x1 s1 u H locs ls hf hH hl
    unfold pX5_read_26 at hf
    obtain ⟨y101, u102, h_y101, hf⟩ := bnd2 hf
    refine cl_iV C0 hH hl.1 (As := [.int s1]) (rest := []) (mX5_holds l D ca a wr u s1 h_y101) gX5_read_X5_holds rfl rfl rfl hd_X5_holds ⟨Nat.le_of_ble_eq_true rfl, Nat.le_of_ble_eq_true rfl⟩ ⟨Nat.zero_le _, Nat.zero_le _⟩ (vM_X5 C0 hH) rfl (Nat.le_of_ble_eq_true rfl) dX5_read_26 (fun H locs hH => ?_)
    refine lv_if_ne (tgt := 34) hx hb dX5_read_29 (by decide) (fun c103 => ?_) (fun c103 => ?_)
    · rw [if_neg c103] at hf
      refine lv_aload_n hx hb dX5_read_34 rfl (lv_at hl 0 rfl) ?_
      obtain ⟨u104, h_u104, hf⟩ := bnd hf
      refine cl_vV C0 hH hl.1 (As := []) (rest := []) (mX5_keeps l D ca a wr u102 h_u104) gX5_read_X5_keeps rfl rfl rfl hd_X5_keeps ⟨Nat.le_of_ble_eq_true rfl, Nat.le_of_ble_eq_true rfl⟩ ⟨Nat.zero_le _, Nat.zero_le _⟩ (vM_X5 C0 hH) rfl (Nat.le_of_ble_eq_true rfl) dX5_read_35 (fun H locs hH => ?_)
      refine lv_aload_n hx hb dX5_read_38 rfl (lv_at hl 0 rfl) ?_
      refine lv_iload_n hx hb dX5_read_39 rfl (lv_at hl 1 rfl) ?_
      obtain ⟨y105, u106, h_y105, hf⟩ := bnd2 hf
      refine cl_iV C0 hH hl.1 (As := [.int x1]) (rest := []) (mX5_reads l D ca a wr u104 x1 h_y105) gX5_read_X5_reads rfl rfl rfl hd_X5_reads ⟨Nat.le_of_ble_eq_true rfl, Nat.le_of_ble_eq_true rfl⟩ ⟨Nat.zero_le _, Nat.zero_le _⟩ (vM_X5 C0 hH) rfl (Nat.le_of_ble_eq_true rfl) dX5_read_40 (fun H locs hH => ?_)
      cases hf
      exact hend _ _ _ _ hH rfl dX5_read_43
    · rw [if_pos c103] at hf
      refine lv_iconst (v := 0) hx hb dX5_read_32 (by decide) ?_
      cases hf
      exact hend _ _ _ _ hH rfl dX5_read_33
  unfold pX5_read at hf
  refine lv_aload_n hx hb dX5_read_0 rfl (lv_at hl 0 rfl) ?_
  refine lv_iload_n hx hb dX5_read_1 rfl (lv_at hl 1 rfl) ?_
  obtain ⟨y1, h_y1, hf⟩ := bnd hf
  refine cl_iS C0 hH hl.1 (As := [.int x1]) (rest := [.ref (a 0)]) (mX5_isBlock l D ca (mW a ca u ++ wr) x1 h_y1) gX5_read_X5_isBlock rfl rfl rfl hd_X5_isBlock ⟨Nat.le_of_ble_eq_true rfl, Nat.le_of_ble_eq_true rfl⟩ ⟨Nat.zero_le _, Nat.zero_le _⟩ rfl (Nat.le_of_ble_eq_true rfl) dX5_read_2 (fun H locs hH => ?_)
  refine lv_if_ne (tgt := 12) hx hb dX5_read_5 (by decide) (fun c2 => ?_) (fun c2 => ?_)
  · rw [if_neg c2] at hf
    refine lv_aload_n hx hb dX5_read_12 rfl (lv_at hl 0 rfl) ?_
    refine gM_X5_s C0 hH inX5_read_X5 (by decide +kernel : Cond.fieldLink RX5 7 "GatheringCacheModel" "s" "[I" ∈ wsX5_read) dX5_read_13 ?_
    refine lv_iconst (v := 1) hx hb dX5_read_16 (by decide) ?_
    obtain ⟨y3, h_y3, hf⟩ := bnd hf
    refine lM_s C0 hH h_y3 dX5_read_17 ?_
    refine lv_if_ne (tgt := 25) hx hb dX5_read_18 (by decide) (fun c4 => ?_) (fun c4 => ?_)
    · rw [if_neg c4] at hf
      refine lv_iconst (v := 0) hx hb dX5_read_25 (by decide) ?_
      exact J26 _ _ _ _ _ _ hf hH (lv_sub hl [0, 1] rfl)
    · rw [if_pos c4] at hf
      refine lv_iconst (v := 2) hx hb dX5_read_21 (by decide) ?_
      refine lv_goto (tgt := 26) hx hb dX5_read_22 (by decide) ?_
      exact J26 _ _ _ _ _ _ hf hH (lv_sub hl [0, 1] rfl)
  · rw [if_pos c2] at hf
    refine lv_iconst (v := 1) hx hb dX5_read_8 (by decide) ?_
    refine lv_goto (tgt := 26) hx hb dX5_read_9 (by decide) ?_
    exact J26 _ _ _ _ _ _ hf hH (lv_sub hl [0, 1] rfl)
def rmX5_destage : Room := { frames := 4, cells := 0, slots := 0, locals := 88 }
theorem hd_X5_destage : yX5_destage.cls = RX5 ∧ yX5_destage.cls ≠ "java/lang/invoke/MethodHandle" ∧ yX5_destage.cls ≠ "java/lang/invoke/VarHandle" ∧ (parseMethodDescriptor yX5_destage.desc).map (fun d => d.parameters.length) = some 1 := by decide +kernel
set_option maxHeartbeats 4000000 in
set_option maxRecDepth 100000 in
theorem mX5_destage (l : Launch) (D : va_G) (ca : Gp) (a : Nat → Nat) (wr : va_W) (u : Mem) (x1 : Int32) {r : Int32} {u9 : Mem} (hf : pX5_destage u x1 = some (r, u9)) : Mi l yX5_destage wsX5_destage rmX5_destage D ca [.ref (a 0), .int x1] (mW a ca u ++ wr) (mW a ca u9 ++ wr) r := by
  refine Mi_of (own := RX5) (cc := cX5_destage) (nL := 2) (ty := .int) (by decide) rfl rfl rfl rfl (Nat.le_of_ble_eq_true rfl) ?_
  intro p e s m args below meth c Q A ls C0 hH hl hend
  obtain ⟨hx, hb, hml, hown, hts⟩ := id C0.1
  have hl : lv_has ls 2 [(0, .ref (a 0)), (1, .int x1)] := hl
  have J24 : ∀ (x1 : Int32) (s1 : Int32) (u : Mem) (H : Heap) (locs : List Loc) (ls : Array Slot), pX5_destage_24 x1 s1 u = some (r, u9) → HS D A s (mW a ca u ++ wr) H locs → lv_has ls 2 [(0, .ref (a 0)), (1, .int x1)] → W p l e rmX5_destage s m args below meth c H locs 0 0 Q (F0 m 24 ls [.int s1, .ref (a 0)]) := by
    intro x1 s1 u H locs ls hf hH hl
    unfold pX5_destage_24 at hf
    obtain ⟨y101, u102, h_y101, hf⟩ := bnd2 hf
    refine cl_iV C0 hH hl.1 (As := [.int s1]) (rest := []) (mX5_holds l D ca a wr u s1 h_y101) gX5_destage_X5_holds rfl rfl rfl hd_X5_holds ⟨Nat.le_of_ble_eq_true rfl, Nat.le_of_ble_eq_true rfl⟩ ⟨Nat.zero_le _, Nat.zero_le _⟩ (vM_X5 C0 hH) rfl (Nat.le_of_ble_eq_true rfl) dX5_destage_24 (fun H locs hH => ?_)
    refine lv_if_ne (tgt := 32) hx hb dX5_destage_27 (by decide) (fun c103 => ?_) (fun c103 => ?_)
    · rw [if_neg c103] at hf
      refine lv_aload_n hx hb dX5_destage_32 rfl (lv_at hl 0 rfl) ?_
      obtain ⟨u104, h_u104, hf⟩ := bnd hf
      refine cl_vV C0 hH hl.1 (As := []) (rest := []) (mX5_keeps l D ca a wr u102 h_u104) gX5_destage_X5_keeps rfl rfl rfl hd_X5_keeps ⟨Nat.le_of_ble_eq_true rfl, Nat.le_of_ble_eq_true rfl⟩ ⟨Nat.zero_le _, Nat.zero_le _⟩ (vM_X5 C0 hH) rfl (Nat.le_of_ble_eq_true rfl) dX5_destage_33 (fun H locs hH => ?_)
      refine lv_aload_n hx hb dX5_destage_36 rfl (lv_at hl 0 rfl) ?_
      refine lv_iload_n hx hb dX5_destage_37 rfl (lv_at hl 1 rfl) ?_
      obtain ⟨y105, u106, h_y105, hf⟩ := bnd2 hf
      refine cl_iV C0 hH hl.1 (As := [.int x1]) (rest := []) (mX5_destages l D ca a wr u104 x1 h_y105) gX5_destage_X5_destages rfl rfl rfl hd_X5_destages ⟨Nat.le_of_ble_eq_true rfl, Nat.le_of_ble_eq_true rfl⟩ ⟨Nat.zero_le _, Nat.zero_le _⟩ (vM_X5 C0 hH) rfl (Nat.le_of_ble_eq_true rfl) dX5_destage_38 (fun H locs hH => ?_)
      cases hf
      exact hend _ _ _ _ hH rfl dX5_destage_41
    · rw [if_pos c103] at hf
      refine lv_iconst (v := 0) hx hb dX5_destage_30 (by decide) ?_
      cases hf
      exact hend _ _ _ _ hH rfl dX5_destage_31
  unfold pX5_destage at hf
  refine lv_aload_n hx hb dX5_destage_0 rfl (lv_at hl 0 rfl) ?_
  refine lv_iload_n hx hb dX5_destage_1 rfl (lv_at hl 1 rfl) ?_
  obtain ⟨y1, h_y1, hf⟩ := bnd hf
  refine cl_iS C0 hH hl.1 (As := [.int x1]) (rest := [.ref (a 0)]) (mX5_isStripe l D ca (mW a ca u ++ wr) x1 h_y1) gX5_destage_X5_isStripe rfl rfl rfl hd_X5_isStripe ⟨Nat.le_of_ble_eq_true rfl, Nat.le_of_ble_eq_true rfl⟩ ⟨Nat.zero_le _, Nat.zero_le _⟩ rfl (Nat.le_of_ble_eq_true rfl) dX5_destage_2 (fun H locs hH => ?_)
  refine lv_if_ne (tgt := 12) hx hb dX5_destage_5 (by decide) (fun c2 => ?_) (fun c2 => ?_)
  · rw [if_neg c2] at hf
    refine lv_aload_n hx hb dX5_destage_12 rfl (lv_at hl 0 rfl) ?_
    obtain ⟨y3, h_y3, hf⟩ := bnd hf
    refine cl_iV C0 hH hl.1 (As := []) (rest := [.ref (a 0)]) (mX5_isCharging l D ca a wr u h_y3) gX5_destage_X5_isCharging rfl rfl rfl hd_X5_isCharging ⟨Nat.le_of_ble_eq_true rfl, Nat.le_of_ble_eq_true rfl⟩ ⟨Nat.zero_le _, Nat.zero_le _⟩ (vM_X5 C0 hH) rfl (Nat.le_of_ble_eq_true rfl) dX5_destage_13 (fun H locs hH => ?_)
    refine lv_if_ne (tgt := 23) hx hb dX5_destage_16 (by decide) (fun c4 => ?_) (fun c4 => ?_)
    · rw [if_neg c4] at hf
      refine lv_iconst (v := 0) hx hb dX5_destage_23 (by decide) ?_
      exact J24 _ _ _ _ _ _ hf hH (lv_sub hl [0, 1] rfl)
    · rw [if_pos c4] at hf
      refine lv_iconst (v := 2) hx hb dX5_destage_19 (by decide) ?_
      refine lv_goto (tgt := 24) hx hb dX5_destage_20 (by decide) ?_
      exact J24 _ _ _ _ _ _ hf hH (lv_sub hl [0, 1] rfl)
  · rw [if_pos c2] at hf
    refine lv_iconst (v := 1) hx hb dX5_destage_8 (by decide) ?_
    refine lv_goto (tgt := 24) hx hb dX5_destage_9 (by decide) ?_
    exact J24 _ _ _ _ _ _ hf hH (lv_sub hl [0, 1] rfl)
def rmX5_destageAll : Room := { frames := 5, cells := 0, slots := 0, locals := 110 }
theorem hd_X5_destageAll : yX5_destageAll.cls = RX5 ∧ yX5_destageAll.cls ≠ "java/lang/invoke/MethodHandle" ∧ yX5_destageAll.cls ≠ "java/lang/invoke/VarHandle" ∧ (parseMethodDescriptor yX5_destageAll.desc).map (fun d => d.parameters.length) = some 0 := by decide +kernel
set_option maxHeartbeats 4000000 in
set_option maxRecDepth 100000 in
theorem mX5_destageAll (l : Launch) (D : va_G) (ca : Gp) (a : Nat → Nat) (wr : va_W) (u : Mem) {r : Int32} {u9 : Mem} (hf : pX5_destageAll u = some (r, u9)) : Mi l yX5_destageAll wsX5_destageAll rmX5_destageAll D ca [.ref (a 0)] (mW a ca u ++ wr) (mW a ca u9 ++ wr) r := by
  refine Mi_of (own := RX5) (cc := cX5_destageAll) (nL := 1) (ty := .int) (by decide) rfl rfl rfl rfl (Nat.le_of_ble_eq_true rfl) ?_
  intro p e s m args below meth c Q A ls C0 hH hl hend
  obtain ⟨hx, hb, hml, hown, hts⟩ := id C0.1
  have hl : lv_has ls 1 [(0, .ref (a 0))] := hl
  have J13 : ∀ (s1 : Int32) (u : Mem) (H : Heap) (locs : List Loc) (ls : Array Slot), pX5_destageAll_13 s1 u = some (r, u9) → HS D A s (mW a ca u ++ wr) H locs → lv_has ls 1 [(0, .ref (a 0))] → W p l e rmX5_destageAll s m args below meth c H locs 0 0 Q (F0 m 13 ls [.int s1, .ref (a 0)]) := by
    intro s1 u H locs ls hf hH hl
    unfold pX5_destageAll_13 at hf
    obtain ⟨y101, u102, h_y101, hf⟩ := bnd2 hf
    refine cl_iV C0 hH hl.1 (As := [.int s1]) (rest := []) (mX5_holds l D ca a wr u s1 h_y101) gX5_destageAll_X5_holds rfl rfl rfl hd_X5_holds ⟨Nat.le_of_ble_eq_true rfl, Nat.le_of_ble_eq_true rfl⟩ ⟨Nat.zero_le _, Nat.zero_le _⟩ (vM_X5 C0 hH) rfl (Nat.le_of_ble_eq_true rfl) dX5_destageAll_13 (fun H locs hH => ?_)
    refine lv_if_ne (tgt := 21) hx hb dX5_destageAll_16 (by decide) (fun c103 => ?_) (fun c103 => ?_)
    · rw [if_neg c103] at hf
      refine lv_aload_n hx hb dX5_destageAll_21 rfl (lv_at hl 0 rfl) ?_
      obtain ⟨u104, h_u104, hf⟩ := bnd hf
      refine cl_vV C0 hH hl.1 (As := []) (rest := []) (mX5_keeps l D ca a wr u102 h_u104) gX5_destageAll_X5_keeps rfl rfl rfl hd_X5_keeps ⟨Nat.le_of_ble_eq_true rfl, Nat.le_of_ble_eq_true rfl⟩ ⟨Nat.zero_le _, Nat.zero_le _⟩ (vM_X5 C0 hH) rfl (Nat.le_of_ble_eq_true rfl) dX5_destageAll_22 (fun H locs hH => ?_)
      refine lv_aload_n hx hb dX5_destageAll_25 rfl (lv_at hl 0 rfl) ?_
      obtain ⟨y105, u106, h_y105, hf⟩ := bnd2 hf
      refine cl_iV C0 hH hl.1 (As := []) (rest := []) (mX5_destagesAll l D ca a wr u104 h_y105) gX5_destageAll_X5_destagesAll rfl rfl rfl hd_X5_destagesAll ⟨Nat.le_of_ble_eq_true rfl, Nat.le_of_ble_eq_true rfl⟩ ⟨Nat.zero_le _, Nat.zero_le _⟩ (vM_X5 C0 hH) rfl (Nat.le_of_ble_eq_true rfl) dX5_destageAll_26 (fun H locs hH => ?_)
      cases hf
      exact hend _ _ _ _ hH rfl dX5_destageAll_29
    · rw [if_pos c103] at hf
      refine lv_iconst (v := 0) hx hb dX5_destageAll_19 (by decide) ?_
      cases hf
      exact hend _ _ _ _ hH rfl dX5_destageAll_20
  unfold pX5_destageAll at hf
  refine lv_aload_n hx hb dX5_destageAll_0 rfl (lv_at hl 0 rfl) ?_
  refine lv_aload_n hx hb dX5_destageAll_1 rfl (lv_at hl 0 rfl) ?_
  obtain ⟨y1, h_y1, hf⟩ := bnd hf
  refine cl_iV C0 hH hl.1 (As := []) (rest := [.ref (a 0)]) (mX5_isCharging l D ca a wr u h_y1) gX5_destageAll_X5_isCharging rfl rfl rfl hd_X5_isCharging ⟨Nat.le_of_ble_eq_true rfl, Nat.le_of_ble_eq_true rfl⟩ ⟨Nat.zero_le _, Nat.zero_le _⟩ (vM_X5 C0 hH) rfl (Nat.le_of_ble_eq_true rfl) dX5_destageAll_2 (fun H locs hH => ?_)
  refine lv_if_eq (tgt := 12) hx hb dX5_destageAll_5 (by decide) (fun c2 => ?_) (fun c2 => ?_)
  · rw [if_pos c2] at hf
    refine lv_iconst (v := 1) hx hb dX5_destageAll_12 (by decide) ?_
    exact J13 _ _ _ _ _ hf hH (lv_sub hl [0] rfl)
  · rw [if_neg c2] at hf
    refine lv_iconst (v := 0) hx hb dX5_destageAll_8 (by decide) ?_
    refine lv_goto (tgt := 13) hx hb dX5_destageAll_9 (by decide) ?_
    exact J13 _ _ _ _ _ hf hH (lv_sub hl [0] rfl)
def rmX5_pass : Room := { frames := 5, cells := 0, slots := 0, locals := 107 }
theorem hd_X5_pass : yX5_pass.cls = RX5 ∧ yX5_pass.cls ≠ "java/lang/invoke/MethodHandle" ∧ yX5_pass.cls ≠ "java/lang/invoke/VarHandle" ∧ (parseMethodDescriptor yX5_pass.desc).map (fun d => d.parameters.length) = some 1 := by decide +kernel
set_option maxHeartbeats 4000000 in
set_option maxRecDepth 100000 in
theorem mX5_pass (l : Launch) (D : va_G) (ca : Gp) (a : Nat → Nat) (wr : va_W) (u : Mem) (x1 : Int32) {r : Int32} {u9 : Mem} (hf : pX5_pass u x1 = some (r, u9)) : Mi l yX5_pass wsX5_pass rmX5_pass D ca [.ref (a 0), .int x1] (mW a ca u ++ wr) (mW a ca u9 ++ wr) r := by
  refine Mi_of (own := RX5) (cc := cX5_pass) (nL := 2) (ty := .int) (by decide) rfl rfl rfl rfl (Nat.le_of_ble_eq_true rfl) ?_
  intro p e s m args below meth c Q A ls C0 hH hl hend
  obtain ⟨hx, hb, hml, hown, hts⟩ := id C0.1
  have hl : lv_has ls 2 [(0, .ref (a 0)), (1, .int x1)] := hl
  have J16 : ∀ (x1 : Int32) (s1 : Int32) (u : Mem) (H : Heap) (locs : List Loc) (ls : Array Slot), pX5_pass_16 x1 s1 u = some (r, u9) → HS D A s (mW a ca u ++ wr) H locs → lv_has ls 2 [(0, .ref (a 0)), (1, .int x1)] → W p l e rmX5_pass s m args below meth c H locs 0 0 Q (F0 m 16 ls [.int s1, .ref (a 0)]) := by
    intro x1 s1 u H locs ls hf hH hl
    unfold pX5_pass_16 at hf
    obtain ⟨y101, u102, h_y101, hf⟩ := bnd2 hf
    refine cl_iV C0 hH hl.1 (As := [.int s1]) (rest := []) (mX5_holds l D ca a wr u s1 h_y101) gX5_pass_X5_holds rfl rfl rfl hd_X5_holds ⟨Nat.le_of_ble_eq_true rfl, Nat.le_of_ble_eq_true rfl⟩ ⟨Nat.zero_le _, Nat.zero_le _⟩ (vM_X5 C0 hH) rfl (Nat.le_of_ble_eq_true rfl) dX5_pass_16 (fun H locs hH => ?_)
    refine lv_if_ne (tgt := 24) hx hb dX5_pass_19 (by decide) (fun c103 => ?_) (fun c103 => ?_)
    · rw [if_neg c103] at hf
      refine lv_aload_n hx hb dX5_pass_24 rfl (lv_at hl 0 rfl) ?_
      obtain ⟨u104, h_u104, hf⟩ := bnd hf
      refine cl_vV C0 hH hl.1 (As := []) (rest := []) (mX5_keeps l D ca a wr u102 h_u104) gX5_pass_X5_keeps rfl rfl rfl hd_X5_keeps ⟨Nat.le_of_ble_eq_true rfl, Nat.le_of_ble_eq_true rfl⟩ ⟨Nat.zero_le _, Nat.zero_le _⟩ (vM_X5 C0 hH) rfl (Nat.le_of_ble_eq_true rfl) dX5_pass_25 (fun H locs hH => ?_)
      refine lv_aload_n hx hb dX5_pass_28 rfl (lv_at hl 0 rfl) ?_
      refine lv_iload_n hx hb dX5_pass_29 rfl (lv_at hl 1 rfl) ?_
      obtain ⟨y105, u106, h_y105, hf⟩ := bnd2 hf
      refine cl_iV C0 hH hl.1 (As := [.int x1]) (rest := []) (mX5_passes l D ca a wr u104 x1 h_y105) gX5_pass_X5_passes rfl rfl rfl hd_X5_passes ⟨Nat.le_of_ble_eq_true rfl, Nat.le_of_ble_eq_true rfl⟩ ⟨Nat.zero_le _, Nat.zero_le _⟩ (vM_X5 C0 hH) rfl (Nat.le_of_ble_eq_true rfl) dX5_pass_30 (fun H locs hH => ?_)
      cases hf
      exact hend _ _ _ _ hH rfl dX5_pass_33
    · rw [if_pos c103] at hf
      refine lv_iconst (v := 0) hx hb dX5_pass_22 (by decide) ?_
      cases hf
      exact hend _ _ _ _ hH rfl dX5_pass_23
  unfold pX5_pass at hf
  refine lv_aload_n hx hb dX5_pass_0 rfl (lv_at hl 0 rfl) ?_
  refine lv_iload_n hx hb dX5_pass_1 rfl (lv_at hl 1 rfl) ?_
  refine lv_iconst (v := 1) hx hb dX5_pass_2 (by decide) ?_
  refine lv_bipush (v := 99) hx hb dX5_pass_3 (by decide) ?_
  obtain ⟨y1, h_y1, hf⟩ := bnd hf
  refine cl_iS C0 hH hl.1 (As := [.int x1, .int 1, .int 99]) (rest := [.ref (a 0)]) (mX5_in l D ca (mW a ca u ++ wr) x1 1 99 h_y1) gX5_pass_X5_in rfl rfl rfl hd_X5_in ⟨Nat.le_of_ble_eq_true rfl, Nat.le_of_ble_eq_true rfl⟩ ⟨Nat.zero_le _, Nat.zero_le _⟩ rfl (Nat.le_of_ble_eq_true rfl) dX5_pass_5 (fun H locs hH => ?_)
  refine lv_if_eq (tgt := 15) hx hb dX5_pass_8 (by decide) (fun c2 => ?_) (fun c2 => ?_)
  · rw [if_pos c2] at hf
    refine lv_iconst (v := 1) hx hb dX5_pass_15 (by decide) ?_
    exact J16 _ _ _ _ _ _ hf hH (lv_sub hl [0, 1] rfl)
  · rw [if_neg c2] at hf
    refine lv_iconst (v := 0) hx hb dX5_pass_11 (by decide) ?_
    refine lv_goto (tgt := 16) hx hb dX5_pass_12 (by decide) ?_
    exact J16 _ _ _ _ _ _ hf hH (lv_sub hl [0, 1] rfl)
def rmX5_setLimit : Room := { frames := 2, cells := 0, slots := 0, locals := 44 }
theorem hd_X5_setLimit : yX5_setLimit.cls = RX5 ∧ yX5_setLimit.cls ≠ "java/lang/invoke/MethodHandle" ∧ yX5_setLimit.cls ≠ "java/lang/invoke/VarHandle" ∧ (parseMethodDescriptor yX5_setLimit.desc).map (fun d => d.parameters.length) = some 1 := by decide +kernel
theorem inX5_setLimit_X5 : ∀ w ∈ wsX50, w ∈ wsX5_setLimit := by decide +kernel
set_option maxHeartbeats 4000000 in
set_option maxRecDepth 100000 in
theorem mX5_setLimit (l : Launch) (D : va_G) (ca : Gp) (a : Nat → Nat) (wr : va_W) (u : Mem) (x1 : Int32) {r : Int32} {u9 : Mem} (hf : pX5_setLimit u x1 = some (r, u9)) : Mi l yX5_setLimit wsX5_setLimit rmX5_setLimit D ca [.ref (a 0), .int x1] (mW a ca u ++ wr) (mW a ca u9 ++ wr) r := by
  refine Mi_of (own := RX5) (cc := cX5_setLimit) (nL := 2) (ty := .int) (by decide) rfl rfl rfl rfl (Nat.le_of_ble_eq_true rfl) ?_
  intro p e s m args below meth c Q A ls C0 hH hl hend
  obtain ⟨hx, hb, hml, hown, hts⟩ := id C0.1
  have hl : lv_has ls 2 [(0, .ref (a 0)), (1, .int x1)] := hl
  have J60 : ∀ (s1 : Int32) (s2 : Int32) (u : Mem) (H : Heap) (locs : List Loc) (ls : Array Slot), pX5_setLimit_60 s1 s2 u = some (r, u9) → HS D A s (mW a ca u ++ wr) H locs → lv_has ls 2 [(0, .ref (a 0))] → W p l e rmX5_setLimit s m args below meth c H locs 0 0 Q (F0 m 60 ls [.int s2, .int s1, .ref (a 1)]) := by
    intro s1 s2 u H locs ls hf hH hl
    unfold pX5_setLimit_60 at hf
    obtain ⟨u201, h_u201, hf⟩ := bnd hf
    refine sM_s C0 hH h_u201 dX5_setLimit_60 (fun H locs hH => ?_)
    refine lv_aload_n hx hb dX5_setLimit_61 rfl (lv_at hl 0 rfl) ?_
    refine gM_X5_s C0 hH inX5_setLimit_X5 (by decide +kernel : Cond.fieldLink RX5 7 "GatheringCacheModel" "s" "[I" ∈ wsX5_setLimit) dX5_setLimit_62 ?_
    refine lv_iconst (v := 3) hx hb dX5_setLimit_65 (by decide) ?_
    obtain ⟨y202, h_y202, hf⟩ := bnd hf
    refine lM_s C0 hH h_y202 dX5_setLimit_66 ?_
    cases hf
    exact hend _ _ _ _ hH rfl dX5_setLimit_67
  have J16 : ∀ (x1 : Int32) (s1 : Int32) (u : Mem) (H : Heap) (locs : List Loc) (ls : Array Slot), pX5_setLimit_16 x1 s1 u = some (r, u9) → HS D A s (mW a ca u ++ wr) H locs → lv_has ls 2 [(0, .ref (a 0)), (1, .int x1)] → W p l e rmX5_setLimit s m args below meth c H locs 0 0 Q (F0 m 16 ls [.int s1, .ref (a 0)]) := by
    intro x1 s1 u H locs ls hf hH hl
    unfold pX5_setLimit_16 at hf
    obtain ⟨y101, u102, h_y101, hf⟩ := bnd2 hf
    refine cl_iV C0 hH hl.1 (As := [.int s1]) (rest := []) (mX5_holds l D ca a wr u s1 h_y101) gX5_setLimit_X5_holds rfl rfl rfl hd_X5_holds ⟨Nat.le_of_ble_eq_true rfl, Nat.le_of_ble_eq_true rfl⟩ ⟨Nat.zero_le _, Nat.zero_le _⟩ (vM_X5 C0 hH) rfl (Nat.le_of_ble_eq_true rfl) dX5_setLimit_16 (fun H locs hH => ?_)
    refine lv_if_ne (tgt := 24) hx hb dX5_setLimit_19 (by decide) (fun c103 => ?_) (fun c103 => ?_)
    · rw [if_neg c103] at hf
      refine lv_aload_n hx hb dX5_setLimit_24 rfl (lv_at hl 0 rfl) ?_
      obtain ⟨u104, h_u104, hf⟩ := bnd hf
      refine cl_vV C0 hH hl.1 (As := []) (rest := []) (mX5_keeps l D ca a wr u102 h_u104) gX5_setLimit_X5_keeps rfl rfl rfl hd_X5_keeps ⟨Nat.le_of_ble_eq_true rfl, Nat.le_of_ble_eq_true rfl⟩ ⟨Nat.zero_le _, Nat.zero_le _⟩ (vM_X5 C0 hH) rfl (Nat.le_of_ble_eq_true rfl) dX5_setLimit_25 (fun H locs hH => ?_)
      refine lv_aload_n hx hb dX5_setLimit_28 rfl (lv_at hl 0 rfl) ?_
      refine gM_X5_s C0 hH inX5_setLimit_X5 (by decide +kernel : Cond.fieldLink RX5 7 "GatheringCacheModel" "s" "[I" ∈ wsX5_setLimit) dX5_setLimit_29 ?_
      refine lv_iconst (v := 2) hx hb dX5_setLimit_32 (by decide) ?_
      refine lv_iload_n hx hb dX5_setLimit_33 rfl (lv_at hl 1 rfl) ?_
      obtain ⟨u105, h_u105, hf⟩ := bnd hf
      refine sM_s C0 hH h_u105 dX5_setLimit_34 (fun H locs hH => ?_)
      refine lv_aload_n hx hb dX5_setLimit_35 rfl (lv_at hl 0 rfl) ?_
      refine gM_X5_s C0 hH inX5_setLimit_X5 (by decide +kernel : Cond.fieldLink RX5 7 "GatheringCacheModel" "s" "[I" ∈ wsX5_setLimit) dX5_setLimit_36 ?_
      refine lv_iconst (v := 3) hx hb dX5_setLimit_39 (by decide) ?_
      refine lv_aload_n hx hb dX5_setLimit_40 rfl (lv_at hl 0 rfl) ?_
      refine gM_X5_s C0 hH inX5_setLimit_X5 (by decide +kernel : Cond.fieldLink RX5 7 "GatheringCacheModel" "s" "[I" ∈ wsX5_setLimit) dX5_setLimit_41 ?_
      refine lv_iconst (v := 3) hx hb dX5_setLimit_44 (by decide) ?_
      obtain ⟨y106, h_y106, hf⟩ := bnd hf
      refine lM_s C0 hH h_y106 dX5_setLimit_45 ?_
      refine lv_iload_n hx hb dX5_setLimit_46 rfl (lv_at hl 1 rfl) ?_
      refine lv_icmp_le (tgt := 54) hx hb dX5_setLimit_47 (by decide) (fun c107 => ?_) (fun c107 => ?_)
      · rw [if_pos c107] at hf
        refine lv_aload_n hx hb dX5_setLimit_54 rfl (lv_at hl 0 rfl) ?_
        refine gM_X5_s C0 hH inX5_setLimit_X5 (by decide +kernel : Cond.fieldLink RX5 7 "GatheringCacheModel" "s" "[I" ∈ wsX5_setLimit) dX5_setLimit_55 ?_
        refine lv_iconst (v := 3) hx hb dX5_setLimit_58 (by decide) ?_
        obtain ⟨y108, h_y108, hf⟩ := bnd hf
        refine lM_s C0 hH h_y108 dX5_setLimit_59 ?_
        exact J60 _ _ _ _ _ _ hf hH (lv_sub hl [0] rfl)
      · rw [if_neg c107] at hf
        refine lv_iload_n hx hb dX5_setLimit_50 rfl (lv_at hl 1 rfl) ?_
        refine lv_goto (tgt := 60) hx hb dX5_setLimit_51 (by decide) ?_
        exact J60 _ _ _ _ _ _ hf hH (lv_sub hl [0] rfl)
    · rw [if_pos c103] at hf
      refine lv_iconst (v := 0) hx hb dX5_setLimit_22 (by decide) ?_
      cases hf
      exact hend _ _ _ _ hH rfl dX5_setLimit_23
  unfold pX5_setLimit at hf
  refine lv_aload_n hx hb dX5_setLimit_0 rfl (lv_at hl 0 rfl) ?_
  refine lv_iload_n hx hb dX5_setLimit_1 rfl (lv_at hl 1 rfl) ?_
  refine lv_iconst (v := 1) hx hb dX5_setLimit_2 (by decide) ?_
  refine lv_bipush (v := 100) hx hb dX5_setLimit_3 (by decide) ?_
  obtain ⟨y1, h_y1, hf⟩ := bnd hf
  refine cl_iS C0 hH hl.1 (As := [.int x1, .int 1, .int 100]) (rest := [.ref (a 0)]) (mX5_in l D ca (mW a ca u ++ wr) x1 1 100 h_y1) gX5_setLimit_X5_in rfl rfl rfl hd_X5_in ⟨Nat.le_of_ble_eq_true rfl, Nat.le_of_ble_eq_true rfl⟩ ⟨Nat.zero_le _, Nat.zero_le _⟩ rfl (Nat.le_of_ble_eq_true rfl) dX5_setLimit_5 (fun H locs hH => ?_)
  refine lv_if_eq (tgt := 15) hx hb dX5_setLimit_8 (by decide) (fun c2 => ?_) (fun c2 => ?_)
  · rw [if_pos c2] at hf
    refine lv_iconst (v := 1) hx hb dX5_setLimit_15 (by decide) ?_
    exact J16 _ _ _ _ _ _ hf hH (lv_sub hl [0, 1] rfl)
  · rw [if_neg c2] at hf
    refine lv_iconst (v := 0) hx hb dX5_setLimit_11 (by decide) ?_
    refine lv_goto (tgt := 16) hx hb dX5_setLimit_12 (by decide) ?_
    exact J16 _ _ _ _ _ _ hf hH (lv_sub hl [0, 1] rfl)
def rmX5_power : Room := { frames := 6, cells := 0, slots := 0, locals := 132 }
theorem hd_X5_power : yX5_power.cls = RX5 ∧ yX5_power.cls ≠ "java/lang/invoke/MethodHandle" ∧ yX5_power.cls ≠ "java/lang/invoke/VarHandle" ∧ (parseMethodDescriptor yX5_power.desc).map (fun d => d.parameters.length) = some 1 := by decide +kernel
theorem inX5_power_X5 : ∀ w ∈ wsX50, w ∈ wsX5_power := by decide +kernel
set_option maxHeartbeats 4000000 in
set_option maxRecDepth 100000 in
theorem mX5_power (l : Launch) (D : va_G) (ca : Gp) (a : Nat → Nat) (wr : va_W) (u : Mem) (x1 : Int32) {r : Int32} {u9 : Mem} (hf : pX5_power u x1 = some (r, u9)) : Mi l yX5_power wsX5_power rmX5_power D ca [.ref (a 0), .int x1] (mW a ca u ++ wr) (mW a ca u9 ++ wr) r := by
  refine Mi_of (own := RX5) (cc := cX5_power) (nL := 2) (ty := .int) (by decide) rfl rfl rfl rfl (Nat.le_of_ble_eq_true rfl) ?_
  intro p e s m args below meth c Q A ls C0 hH hl hend
  obtain ⟨hx, hb, hml, hown, hts⟩ := id C0.1
  have hl : lv_has ls 2 [(0, .ref (a 0)), (1, .int x1)] := hl
  unfold pX5_power at hf
  refine lv_aload_n hx hb dX5_power_0 rfl (lv_at hl 0 rfl) ?_
  refine lv_iconst (v := 0) hx hb dX5_power_1 (by decide) ?_
  obtain ⟨u1, h_u1, hf⟩ := bnd hf
  refine pM_X5_thrown C0 hH inX5_power_X5 h_u1 (by decide +kernel : Cond.fieldLink RX5 16 "GatheringCacheModel" "thrown" "I" ∈ wsX5_power) dX5_power_2 (fun H locs hH => ?_)
  refine lv_aload_n hx hb dX5_power_5 rfl (lv_at hl 0 rfl) ?_
  obtain ⟨u2, h_u2, hf⟩ := bnd hf
  refine cl_vV C0 hH hl.1 (As := []) (rest := []) (mX5_keeps l D ca a wr u1 h_u2) gX5_power_X5_keeps rfl rfl rfl hd_X5_keeps ⟨Nat.le_of_ble_eq_true rfl, Nat.le_of_ble_eq_true rfl⟩ ⟨Nat.zero_le _, Nat.zero_le _⟩ (vM_X5 C0 hH) rfl (Nat.le_of_ble_eq_true rfl) dX5_power_6 (fun H locs hH => ?_)
  refine lv_aload_n hx hb dX5_power_9 rfl (lv_at hl 0 rfl) ?_
  refine lv_iload_n hx hb dX5_power_10 rfl (lv_at hl 1 rfl) ?_
  obtain ⟨y3, u4, h_y3, hf⟩ := bnd2 hf
  refine cl_iV C0 hH hl.1 (As := [.int x1]) (rest := []) (mX5_powers l D ca a wr u2 x1 h_y3) gX5_power_X5_powers rfl rfl rfl hd_X5_powers ⟨Nat.le_of_ble_eq_true rfl, Nat.le_of_ble_eq_true rfl⟩ ⟨Nat.zero_le _, Nat.zero_le _⟩ (vM_X5 C0 hH) rfl (Nat.le_of_ble_eq_true rfl) dX5_power_11 (fun H locs hH => ?_)
  cases hf
  exact hend _ _ _ _ hH rfl dX5_power_14
def rmX5_moveStick : Room := { frames := 3, cells := 0, slots := 0, locals := 66 }
theorem hd_X5_moveStick : yX5_moveStick.cls = RX5 ∧ yX5_moveStick.cls ≠ "java/lang/invoke/MethodHandle" ∧ yX5_moveStick.cls ≠ "java/lang/invoke/VarHandle" ∧ (parseMethodDescriptor yX5_moveStick.desc).map (fun d => d.parameters.length) = some 1 := by decide +kernel
theorem inX5_moveStick_X5 : ∀ w ∈ wsX50, w ∈ wsX5_moveStick := by decide +kernel
set_option maxHeartbeats 4000000 in
set_option maxRecDepth 100000 in
theorem mX5_moveStick (l : Launch) (D : va_G) (ca : Gp) (a : Nat → Nat) (wr : va_W) (u : Mem) (x1 : Int32) {r : Int32} {u9 : Mem} (hf : pX5_moveStick u x1 = some (r, u9)) : Mi l yX5_moveStick wsX5_moveStick rmX5_moveStick D ca [.ref (a 0), .int x1] (mW a ca u ++ wr) (mW a ca u9 ++ wr) r := by
  refine Mi_of (own := RX5) (cc := cX5_moveStick) (nL := 2) (ty := .int) (by decide) rfl rfl rfl rfl (Nat.le_of_ble_eq_true rfl) ?_
  intro p e s m args below meth c Q A ls C0 hH hl hend
  obtain ⟨hx, hb, hml, hown, hts⟩ := id C0.1
  have hl : lv_has ls 2 [(0, .ref (a 0)), (1, .int x1)] := hl
  have J15 : ∀ (x1 : Int32) (s1 : Int32) (u : Mem) (H : Heap) (locs : List Loc) (ls : Array Slot), pX5_moveStick_15 x1 s1 u = some (r, u9) → HS D A s (mW a ca u ++ wr) H locs → lv_has ls 2 [(0, .ref (a 0)), (1, .int x1)] → W p l e rmX5_moveStick s m args below meth c H locs 0 0 Q (F0 m 15 ls [.int s1, .ref (a 0)]) := by
    intro x1 s1 u H locs ls hf hH hl
    unfold pX5_moveStick_15 at hf
    obtain ⟨y101, u102, h_y101, hf⟩ := bnd2 hf
    refine cl_iV C0 hH hl.1 (As := [.int s1]) (rest := []) (mX5_holds l D ca a wr u s1 h_y101) gX5_moveStick_X5_holds rfl rfl rfl hd_X5_holds ⟨Nat.le_of_ble_eq_true rfl, Nat.le_of_ble_eq_true rfl⟩ ⟨Nat.zero_le _, Nat.zero_le _⟩ (vM_X5 C0 hH) rfl (Nat.le_of_ble_eq_true rfl) dX5_moveStick_15 (fun H locs hH => ?_)
    refine lv_if_ne (tgt := 23) hx hb dX5_moveStick_18 (by decide) (fun c103 => ?_) (fun c103 => ?_)
    · rw [if_neg c103] at hf
      refine lv_aload_n hx hb dX5_moveStick_23 rfl (lv_at hl 0 rfl) ?_
      obtain ⟨u104, h_u104, hf⟩ := bnd hf
      refine cl_vV C0 hH hl.1 (As := []) (rest := []) (mX5_keeps l D ca a wr u102 h_u104) gX5_moveStick_X5_keeps rfl rfl rfl hd_X5_keeps ⟨Nat.le_of_ble_eq_true rfl, Nat.le_of_ble_eq_true rfl⟩ ⟨Nat.zero_le _, Nat.zero_le _⟩ (vM_X5 C0 hH) rfl (Nat.le_of_ble_eq_true rfl) dX5_moveStick_24 (fun H locs hH => ?_)
      refine lv_aload_n hx hb dX5_moveStick_27 rfl (lv_at hl 0 rfl) ?_
      refine lv_iload_n hx hb dX5_moveStick_28 rfl (lv_at hl 1 rfl) ?_
      obtain ⟨y105, u106, h_y105, hf⟩ := bnd2 hf
      refine cl_iV C0 hH hl.1 (As := [.int x1]) (rest := []) (mX5_movesStick l D ca a wr u104 x1 h_y105) gX5_moveStick_X5_movesStick rfl rfl rfl hd_X5_movesStick ⟨Nat.le_of_ble_eq_true rfl, Nat.le_of_ble_eq_true rfl⟩ ⟨Nat.zero_le _, Nat.zero_le _⟩ (vM_X5 C0 hH) rfl (Nat.le_of_ble_eq_true rfl) dX5_moveStick_29 (fun H locs hH => ?_)
      cases hf
      exact hend _ _ _ _ hH rfl dX5_moveStick_32
    · rw [if_pos c103] at hf
      refine lv_iconst (v := 0) hx hb dX5_moveStick_21 (by decide) ?_
      cases hf
      exact hend _ _ _ _ hH rfl dX5_moveStick_22
  unfold pX5_moveStick at hf
  refine lv_aload_n hx hb dX5_moveStick_0 rfl (lv_at hl 0 rfl) ?_
  refine lv_aload_n hx hb dX5_moveStick_1 rfl (lv_at hl 0 rfl) ?_
  refine gM_X5_s C0 hH inX5_moveStick_X5 (by decide +kernel : Cond.fieldLink RX5 7 "GatheringCacheModel" "s" "[I" ∈ wsX5_moveStick) dX5_moveStick_2 ?_
  refine lv_iconst (v := 1) hx hb dX5_moveStick_5 (by decide) ?_
  obtain ⟨y1, h_y1, hf⟩ := bnd hf
  refine lM_s C0 hH h_y1 dX5_moveStick_6 ?_
  refine lv_if_ne (tgt := 14) hx hb dX5_moveStick_7 (by decide) (fun c2 => ?_) (fun c2 => ?_)
  · rw [if_neg c2] at hf
    refine lv_iconst (v := 1) hx hb dX5_moveStick_14 (by decide) ?_
    exact J15 _ _ _ _ _ _ hf hH (lv_sub hl [0, 1] rfl)
  · rw [if_pos c2] at hf
    refine lv_iconst (v := 0) hx hb dX5_moveStick_10 (by decide) ?_
    refine lv_goto (tgt := 15) hx hb dX5_moveStick_11 (by decide) ?_
    exact J15 _ _ _ _ _ _ hf hH (lv_sub hl [0, 1] rfl)
def rmX5_appendText : Room := { frames := 1, cells := 0, slots := 0, locals := 22 }
theorem hd_X5_appendText : yX5_appendText.cls = RX5 ∧ yX5_appendText.cls ≠ "java/lang/invoke/MethodHandle" ∧ yX5_appendText.cls ≠ "java/lang/invoke/VarHandle" ∧ (parseMethodDescriptor yX5_appendText.desc).map (fun d => d.parameters.length) = some 1 := by decide +kernel
theorem inX5_appendText_X5 : ∀ w ∈ wsX50, w ∈ wsX5_appendText := by decide +kernel
set_option maxHeartbeats 4000000 in
set_option maxRecDepth 100000 in
theorem mX5_appendText (l : Launch) (D : va_G) (ca : Gp) (a : Nat → Nat) (wr : va_W) (u : Mem) (x1 : Int32) {r : Int32} {u9 : Mem} (hf : pX5_appendText u x1 = some (r, u9)) : Mi l yX5_appendText wsX5_appendText rmX5_appendText D ca [.ref (a 0), .int x1] (mW a ca u ++ wr) (mW a ca u9 ++ wr) r := by
  refine Mi_of (own := RX5) (cc := cX5_appendText) (nL := 2) (ty := .int) (by decide) rfl rfl rfl rfl (Nat.le_of_ble_eq_true rfl) ?_
  intro p e s m args below meth c Q A ls C0 hH hl hend
  obtain ⟨hx, hb, hml, hown, hts⟩ := id C0.1
  have hl : lv_has ls 2 [(0, .ref (a 0)), (1, .int x1)] := hl
  have J30 : ∀ (x1 : Int32) (s1 : Int32) (u : Mem) (H : Heap) (locs : List Loc) (ls : Array Slot), pX5_appendText_30 x1 s1 u = some (r, u9) → HS D A s (mW a ca u ++ wr) H locs → lv_has ls 2 [(0, .ref (a 0)), (1, .int x1)] → W p l e rmX5_appendText s m args below meth c H locs 0 0 Q (F0 m 30 ls [.int s1, .ref (a 0)]) := by
    intro x1 s1 u H locs ls hf hH hl
    unfold pX5_appendText_30 at hf
    obtain ⟨y101, u102, h_y101, hf⟩ := bnd2 hf
    refine cl_iV C0 hH hl.1 (As := [.int s1]) (rest := []) (mX5_holds l D ca a wr u s1 h_y101) gX5_appendText_X5_holds rfl rfl rfl hd_X5_holds ⟨Nat.le_of_ble_eq_true rfl, Nat.le_of_ble_eq_true rfl⟩ ⟨Nat.zero_le _, Nat.zero_le _⟩ (vM_X5 C0 hH) rfl (Nat.le_of_ble_eq_true rfl) dX5_appendText_30 (fun H locs hH => ?_)
    refine lv_if_ne (tgt := 38) hx hb dX5_appendText_33 (by decide) (fun c103 => ?_) (fun c103 => ?_)
    · rw [if_neg c103] at hf
      refine lv_aload_n hx hb dX5_appendText_38 rfl (lv_at hl 0 rfl) ?_
      refine gM_X5_text C0 hH inX5_appendText_X5 (by decide +kernel : Cond.fieldLink RX5 13 "GatheringCacheModel" "text" "[I" ∈ wsX5_appendText) dX5_appendText_39 ?_
      refine lv_aload_n hx hb dX5_appendText_42 rfl (lv_at hl 0 rfl) ?_
      refine gM_X5_length C0 hH inX5_appendText_X5 (by decide +kernel : Cond.fieldLink RX5 125 "GatheringCacheModel" "length" "I" ∈ wsX5_appendText) dX5_appendText_43 ?_
      refine lv_iload_n hx hb dX5_appendText_46 rfl (lv_at hl 1 rfl) ?_
      obtain ⟨u104, h_u104, hf⟩ := bnd hf
      refine sM_text C0 hH h_u104 dX5_appendText_47 (fun H locs hH => ?_)
      refine lv_aload_n hx hb dX5_appendText_48 rfl (lv_at hl 0 rfl) ?_
      refine lv_dup hx hb dX5_appendText_49 rfl ?_
      refine gM_X5_length C0 hH inX5_appendText_X5 (by decide +kernel : Cond.fieldLink RX5 125 "GatheringCacheModel" "length" "I" ∈ wsX5_appendText) dX5_appendText_50 ?_
      refine lv_iconst (v := 1) hx hb dX5_appendText_53 (by decide) ?_
      refine lv_iadd hx hb dX5_appendText_54 ?_
      obtain ⟨u105, h_u105, hf⟩ := bnd hf
      refine pM_X5_length C0 hH inX5_appendText_X5 h_u105 (by decide +kernel : Cond.fieldLink RX5 125 "GatheringCacheModel" "length" "I" ∈ wsX5_appendText) dX5_appendText_55 (fun H locs hH => ?_)
      refine lv_aload_n hx hb dX5_appendText_58 rfl (lv_at hl 0 rfl) ?_
      refine gM_X5_length C0 hH inX5_appendText_X5 (by decide +kernel : Cond.fieldLink RX5 125 "GatheringCacheModel" "length" "I" ∈ wsX5_appendText) dX5_appendText_59 ?_
      cases hf
      exact hend _ _ _ _ hH rfl dX5_appendText_62
    · rw [if_pos c103] at hf
      refine lv_iconst (v := 0) hx hb dX5_appendText_36 (by decide) ?_
      cases hf
      exact hend _ _ _ _ hH rfl dX5_appendText_37
  unfold pX5_appendText at hf
  refine lv_aload_n hx hb dX5_appendText_0 rfl (lv_at hl 0 rfl) ?_
  refine lv_iload_n hx hb dX5_appendText_1 rfl (lv_at hl 1 rfl) ?_
  refine lv_bipush (v := 32) hx hb dX5_appendText_2 (by decide) ?_
  refine lv_bipush (v := 126) hx hb dX5_appendText_4 (by decide) ?_
  obtain ⟨y1, h_y1, hf⟩ := bnd hf
  refine cl_iS C0 hH hl.1 (As := [.int x1, .int 32, .int 126]) (rest := [.ref (a 0)]) (mX5_in l D ca (mW a ca u ++ wr) x1 32 126 h_y1) gX5_appendText_X5_in rfl rfl rfl hd_X5_in ⟨Nat.le_of_ble_eq_true rfl, Nat.le_of_ble_eq_true rfl⟩ ⟨Nat.zero_le _, Nat.zero_le _⟩ rfl (Nat.le_of_ble_eq_true rfl) dX5_appendText_6 (fun H locs hH => ?_)
  refine lv_if_ne (tgt := 16) hx hb dX5_appendText_9 (by decide) (fun c2 => ?_) (fun c2 => ?_)
  · rw [if_neg c2] at hf
    refine lv_aload_n hx hb dX5_appendText_16 rfl (lv_at hl 0 rfl) ?_
    refine gM_X5_length C0 hH inX5_appendText_X5 (by decide +kernel : Cond.fieldLink RX5 125 "GatheringCacheModel" "length" "I" ∈ wsX5_appendText) dX5_appendText_17 ?_
    refine lv_bipush (v := 80) hx hb dX5_appendText_20 (by decide) ?_
    refine lv_icmp_ne (tgt := 29) hx hb dX5_appendText_22 (by decide) (fun c3 => ?_) (fun c3 => ?_)
    · rw [if_neg c3] at hf
      refine lv_iconst (v := 0) hx hb dX5_appendText_29 (by decide) ?_
      exact J30 _ _ _ _ _ _ hf hH (lv_sub hl [0, 1] rfl)
    · rw [if_pos c3] at hf
      refine lv_iconst (v := 2) hx hb dX5_appendText_25 (by decide) ?_
      refine lv_goto (tgt := 30) hx hb dX5_appendText_26 (by decide) ?_
      exact J30 _ _ _ _ _ _ hf hH (lv_sub hl [0, 1] rfl)
  · rw [if_pos c2] at hf
    refine lv_iconst (v := 1) hx hb dX5_appendText_12 (by decide) ?_
    refine lv_goto (tgt := 30) hx hb dX5_appendText_13 (by decide) ?_
    exact J30 _ _ _ _ _ _ hf hH (lv_sub hl [0, 1] rfl)
def rmX5_clearText : Room := { frames := 0, cells := 0, slots := 0, locals := 0 }
theorem hd_X5_clearText : yX5_clearText.cls = RX5 ∧ yX5_clearText.cls ≠ "java/lang/invoke/MethodHandle" ∧ yX5_clearText.cls ≠ "java/lang/invoke/VarHandle" ∧ (parseMethodDescriptor yX5_clearText.desc).map (fun d => d.parameters.length) = some 0 := by decide +kernel
theorem inX5_clearText_X5 : ∀ w ∈ wsX50, w ∈ wsX5_clearText := by decide +kernel
set_option maxHeartbeats 4000000 in
set_option maxRecDepth 100000 in
theorem mX5_clearText (l : Launch) (D : va_G) (ca : Gp) (a : Nat → Nat) (wr : va_W) (u : Mem) {r : Int32} {u9 : Mem} (hf : pX5_clearText u = some (r, u9)) : Mi l yX5_clearText wsX5_clearText rmX5_clearText D ca [.ref (a 0)] (mW a ca u ++ wr) (mW a ca u9 ++ wr) r := by
  refine Mi_of (own := RX5) (cc := cX5_clearText) (nL := 2) (ty := .int) (by decide) rfl rfl rfl rfl (Nat.le_of_ble_eq_true rfl) ?_
  intro p e s m args below meth c Q A ls C0 hH hl hend
  obtain ⟨hx, hb, hml, hown, hts⟩ := id C0.1
  have hl : lv_has ls 2 [(0, .ref (a 0))] := hl
  unfold pX5_clearText at hf
  refine lv_aload_n hx hb dX5_clearText_0 rfl (lv_at hl 0 rfl) ?_
  refine lv_iconst (v := 0) hx hb dX5_clearText_1 (by decide) ?_
  obtain ⟨u1, h_u1, hf⟩ := bnd hf
  refine pM_X5_thrown C0 hH inX5_clearText_X5 h_u1 (by decide +kernel : Cond.fieldLink RX5 16 "GatheringCacheModel" "thrown" "I" ∈ wsX5_clearText) dX5_clearText_2 (fun H locs hH => ?_)
  refine lv_aload_n hx hb dX5_clearText_5 rfl (lv_at hl 0 rfl) ?_
  refine gM_X5_length C0 hH inX5_clearText_X5 (by decide +kernel : Cond.fieldLink RX5 125 "GatheringCacheModel" "length" "I" ∈ wsX5_clearText) dX5_clearText_6 ?_
  refine lv_istore_n (lv' := [(1, .int (u1 0 2)), (0, .ref (a 0))]) hx hb dX5_clearText_9 rfl hl (by decide) rfl (fun ls hl => ?_)
  refine lv_aload_n hx hb dX5_clearText_10 rfl (lv_at hl 1 rfl) ?_
  refine lv_iconst (v := 0) hx hb dX5_clearText_11 (by decide) ?_
  obtain ⟨u2, h_u2, hf⟩ := bnd hf
  refine pM_X5_length C0 hH inX5_clearText_X5 h_u2 (by decide +kernel : Cond.fieldLink RX5 125 "GatheringCacheModel" "length" "I" ∈ wsX5_clearText) dX5_clearText_12 (fun H locs hH => ?_)
  refine lv_iload_n hx hb dX5_clearText_15 rfl (lv_at hl 0 rfl) ?_
  cases hf
  exact hend _ _ _ _ hH rfl dX5_clearText_16
def rmX5_sign : Room := { frames := 0, cells := 0, slots := 0, locals := 0 }
theorem hd_X5_sign : yX5_sign.cls = RX5 ∧ yX5_sign.cls ≠ "java/lang/invoke/MethodHandle" ∧ yX5_sign.cls ≠ "java/lang/invoke/VarHandle" ∧ (parseMethodDescriptor yX5_sign.desc).map (fun d => d.parameters.length) = some 0 := by decide +kernel
theorem inX5_sign_X5 : ∀ w ∈ wsX50, w ∈ wsX5_sign := by decide +kernel
set_option maxHeartbeats 4000000 in
set_option maxRecDepth 100000 in
theorem mX5_sign (l : Launch) (D : va_G) (ca : Gp) (a : Nat → Nat) (wr : va_W) (u : Mem) {r : Int32} (hf : pX5_sign u = some r) : Mi l yX5_sign wsX5_sign rmX5_sign D ca [.ref (a 0)] (mW a ca u ++ wr) (mW a ca u ++ wr) r := by
  refine Mi_of (own := RX5) (cc := cX5_sign) (nL := 1) (ty := .int) (by decide) rfl rfl rfl rfl (Nat.le_of_ble_eq_true rfl) ?_
  intro p e s m args below meth c Q A ls C0 hH hl hend
  obtain ⟨hx, hb, hml, hown, hts⟩ := id C0.1
  have hl : lv_has ls 1 [(0, .ref (a 0))] := hl
  have J24 : ∀ (s0 : Int32) (H : Heap) (locs : List Loc) (ls : Array Slot), pX5_sign_24 u s0 = some r → HS D A s (mW a ca u ++ wr) H locs → lv_has ls 1 [] → W p l e rmX5_sign s m args below meth c H locs 0 0 Q (F0 m 24 ls [.int s0]) := by
    intro s0 H locs ls hf hH hl
    unfold pX5_sign_24 at hf
    cases hf
    exact hend _ _ _ _ hH rfl dX5_sign_24
  unfold pX5_sign at hf
  refine lv_aload_n hx hb dX5_sign_0 rfl (lv_at hl 0 rfl) ?_
  refine gM_X5_at C0 hH inX5_sign_X5 (by decide +kernel : Cond.fieldLink RX5 128 "GatheringCacheModel" "at" "I" ∈ wsX5_sign) dX5_sign_1 ?_
  refine lv_aload_n hx hb dX5_sign_4 rfl (lv_at hl 0 rfl) ?_
  refine gM_X5_length C0 hH inX5_sign_X5 (by decide +kernel : Cond.fieldLink RX5 125 "GatheringCacheModel" "length" "I" ∈ wsX5_sign) dX5_sign_5 ?_
  refine lv_icmp_ge (tgt := 23) hx hb dX5_sign_8 (by decide) (fun c1 => ?_) (fun c1 => ?_)
  · rw [if_pos c1] at hf
    refine lv_iconst (v := 0) hx hb dX5_sign_23 (by decide) ?_
    exact J24 _ _ _ _ hf hH (lv_sub hl [] rfl)
  · rw [if_neg c1] at hf
    refine lv_aload_n hx hb dX5_sign_11 rfl (lv_at hl 0 rfl) ?_
    refine gM_X5_text C0 hH inX5_sign_X5 (by decide +kernel : Cond.fieldLink RX5 13 "GatheringCacheModel" "text" "[I" ∈ wsX5_sign) dX5_sign_12 ?_
    refine lv_aload_n hx hb dX5_sign_15 rfl (lv_at hl 0 rfl) ?_
    refine gM_X5_at C0 hH inX5_sign_X5 (by decide +kernel : Cond.fieldLink RX5 128 "GatheringCacheModel" "at" "I" ∈ wsX5_sign) dX5_sign_16 ?_
    obtain ⟨y2, h_y2, hf⟩ := bnd hf
    refine lM_text C0 hH h_y2 dX5_sign_19 ?_
    refine lv_goto (tgt := 24) hx hb dX5_sign_20 (by decide) ?_
    exact J24 _ _ _ _ hf hH (lv_sub hl [] rfl)
def rmX5_takes : Room := { frames := 1, cells := 0, slots := 0, locals := 20 }
theorem hd_X5_takes : yX5_takes.cls = RX5 ∧ yX5_takes.cls ≠ "java/lang/invoke/MethodHandle" ∧ yX5_takes.cls ≠ "java/lang/invoke/VarHandle" ∧ (parseMethodDescriptor yX5_takes.desc).map (fun d => d.parameters.length) = some 1 := by decide +kernel
theorem inX5_takes_X5 : ∀ w ∈ wsX50, w ∈ wsX5_takes := by decide +kernel
set_option maxHeartbeats 4000000 in
set_option maxRecDepth 100000 in
theorem mX5_takes (l : Launch) (D : va_G) (ca : Gp) (a : Nat → Nat) (wr : va_W) (u : Mem) (x1 : Int32) {r : Int32} {u9 : Mem} (hf : pX5_takes u x1 = some (r, u9)) : Mi l yX5_takes wsX5_takes rmX5_takes D ca [.ref (a 0), .int x1] (mW a ca u ++ wr) (mW a ca u9 ++ wr) r := by
  refine Mi_of (own := RX5) (cc := cX5_takes) (nL := 3) (ty := .boolean) (by decide) rfl rfl rfl rfl (Nat.le_of_ble_eq_true rfl) ?_
  intro p e s m args below meth c Q A ls C0 hH hl hend
  obtain ⟨hx, hb, hml, hown, hts⟩ := id C0.1
  have hl : lv_has ls 3 [(0, .ref (a 0)), (1, .int x1)] := hl
  have J28 : ∀ (x2 : Int32) (s1 : Int32) (s2 : Int32) (u : Mem) (H : Heap) (locs : List Loc) (ls : Array Slot), pX5_takes_28 x2 s1 s2 u = some (r, u9) → HS D A s (mW a ca u ++ wr) H locs → lv_has ls 3 [(2, .int x2)] → W p l e rmX5_takes s m args below meth c H locs 0 0 Q (F0 m 28 ls [.int s2, .int s1, .ref (a 0)]) := by
    intro x2 s1 s2 u H locs ls hf hH hl
    unfold pX5_takes_28 at hf
    refine lv_iadd hx hb dX5_takes_28 ?_
    obtain ⟨u201, h_u201, hf⟩ := bnd hf
    refine pM_X5_at C0 hH inX5_takes_X5 h_u201 (by decide +kernel : Cond.fieldLink RX5 128 "GatheringCacheModel" "at" "I" ∈ wsX5_takes) dX5_takes_29 (fun H locs hH => ?_)
    refine lv_iload_n hx hb dX5_takes_32 rfl (lv_at hl 0 rfl) ?_
    obtain ⟨hz, hf⟩ := gd hf
    cases hf
    exact hend _ _ _ _ hH (isz_n hz) dX5_takes_33
  have J13 : ∀ (s0 : Int32) (u : Mem) (H : Heap) (locs : List Loc) (ls : Array Slot), pX5_takes_13 s0 u = some (r, u9) → HS D A s (mW a ca u ++ wr) H locs → lv_has ls 3 [(0, .ref (a 0))] → W p l e rmX5_takes s m args below meth c H locs 0 0 Q (F0 m 13 ls [.int s0]) := by
    intro s0 u H locs ls hf hH hl
    unfold pX5_takes_13 at hf
    refine lv_istore_n (lv' := [(2, .int s0), (0, .ref (a 0))]) hx hb dX5_takes_13 rfl hl (by decide) rfl (fun ls hl => ?_)
    refine lv_aload_n hx hb dX5_takes_14 rfl (lv_at hl 1 rfl) ?_
    refine lv_dup hx hb dX5_takes_15 rfl ?_
    refine gM_X5_at C0 hH inX5_takes_X5 (by decide +kernel : Cond.fieldLink RX5 128 "GatheringCacheModel" "at" "I" ∈ wsX5_takes) dX5_takes_16 ?_
    refine lv_iload_n hx hb dX5_takes_19 rfl (lv_at hl 0 rfl) ?_
    refine lv_if_eq (tgt := 27) hx hb dX5_takes_20 (by decide) (fun c101 => ?_) (fun c101 => ?_)
    · rw [if_pos c101] at hf
      refine lv_iconst (v := 0) hx hb dX5_takes_27 (by decide) ?_
      exact J28 _ _ _ _ _ _ _ hf hH (lv_sub hl [0] rfl)
    · rw [if_neg c101] at hf
      refine lv_iconst (v := 1) hx hb dX5_takes_23 (by decide) ?_
      refine lv_goto (tgt := 28) hx hb dX5_takes_24 (by decide) ?_
      exact J28 _ _ _ _ _ _ _ hf hH (lv_sub hl [0] rfl)
  unfold pX5_takes at hf
  refine lv_aload_n hx hb dX5_takes_0 rfl (lv_at hl 0 rfl) ?_
  obtain ⟨y1, h_y1, hf⟩ := bnd hf
  refine cl_iV C0 hH hl.1 (As := []) (rest := []) (mX5_sign l D ca a wr u h_y1) gX5_takes_X5_sign rfl rfl rfl hd_X5_sign ⟨Nat.le_of_ble_eq_true rfl, Nat.le_of_ble_eq_true rfl⟩ ⟨Nat.zero_le _, Nat.zero_le _⟩ (vM_X5 C0 hH) rfl (Nat.le_of_ble_eq_true rfl) dX5_takes_1 (fun H locs hH => ?_)
  refine lv_iload_n hx hb dX5_takes_4 rfl (lv_at hl 1 rfl) ?_
  refine lv_icmp_ne (tgt := 12) hx hb dX5_takes_5 (by decide) (fun c2 => ?_) (fun c2 => ?_)
  · rw [if_neg c2] at hf
    refine lv_iconst (v := 0) hx hb dX5_takes_12 (by decide) ?_
    exact J13 _ _ _ _ _ hf hH (lv_sub hl [0] rfl)
  · rw [if_pos c2] at hf
    refine lv_iconst (v := 1) hx hb dX5_takes_8 (by decide) ?_
    refine lv_goto (tgt := 13) hx hb dX5_takes_9 (by decide) ?_
    exact J13 _ _ _ _ _ hf hH (lv_sub hl [0] rfl)
def rmX5_number : Room := { frames := 1, cells := 0, slots := 0, locals := 22 }
theorem hd_X5_number : yX5_number.cls = RX5 ∧ yX5_number.cls ≠ "java/lang/invoke/MethodHandle" ∧ yX5_number.cls ≠ "java/lang/invoke/VarHandle" ∧ (parseMethodDescriptor yX5_number.desc).map (fun d => d.parameters.length) = some 2 := by decide +kernel
theorem inX5_number_X5 : ∀ w ∈ wsX50, w ∈ wsX5_number := by decide +kernel
set_option maxHeartbeats 4000000 in
set_option maxRecDepth 100000 in
theorem mX5_number (l : Launch) (D : va_G) (ca : Gp) (a : Nat → Nat) (wr : va_W) (u : Mem) (x1 : Int32) (x2 : Int32) {r : Int32} {u9 : Mem} (hf : pX5_number u x1 x2 = some (r, u9)) : Mi l yX5_number wsX5_number rmX5_number D ca [.ref (a 0), .int x1, .int x2] (mW a ca u ++ wr) (mW a ca u9 ++ wr) r := by
  refine Mi_of (own := RX5) (cc := cX5_number) (nL := 4) (ty := .int) (by decide) rfl rfl rfl rfl (Nat.le_of_ble_eq_true rfl) ?_
  intro p e s m args below meth c Q A ls C0 hH hl hend
  obtain ⟨hx, hb, hml, hown, hts⟩ := id C0.1
  have hl : lv_has ls 4 [(0, .ref (a 0)), (1, .int x1), (2, .int x2)] := hl
  have J107 : ∀ (x3 : Int32) (u : Mem) (H : Heap) (locs : List Loc) (ls : Array Slot), pX5_number_107 x3 u = some (r, u9) → HS D A s (mW a ca u ++ wr) H locs → lv_has ls 4 [(3, .int x3)] → W p l e rmX5_number s m args below meth c H locs 0 0 Q (F0 m 107 ls []) := by
    intro x3 u H locs ls hf hH hl
    unfold pX5_number_107 at hf
    refine lv_iload_n hx hb dX5_number_107 rfl (lv_at hl 0 rfl) ?_
    cases hf
    exact hend _ _ _ _ hH rfl dX5_number_108
  have J47 : ∀ (x2 : Int32) (n : Nat) (x3 : Int32) (u : Mem) (H : Heap) (locs : List Loc) (ls : Array Slot), pX5_number_47 x2 n x3 u = some (r, u9) → HS D A s (mW a ca u ++ wr) H locs → lv_has ls 4 [(0, .ref (a 0)), (2, .int x2), (3, .int x3)] → W p l e rmX5_number s m args below meth c H locs 0 0 Q (F0 m 47 ls []) := by
    intro x2 n
    induction n with
    | zero => intro x3 u H locs ls hf; cases hf
    | succ n ih =>
      intro x3 u H locs ls hf hH hl
      have hf : pX5_number_47b x2 (pX5_number_47 x2 n) x3 u = some (r, u9) := hf
      unfold pX5_number_47b at hf
      refine lv_iload_n hx hb dX5_number_47 rfl (lv_at hl 2 rfl) ?_
      refine lv_if_le (tgt := 107) hx hb dX5_number_48 (by decide) (fun c301 => ?_) (fun c301 => ?_)
      · rw [if_pos c301] at hf
        exact J107 _ _ _ _ _ hf hH (lv_sub hl [2] rfl)
      · rw [if_neg c301] at hf
        refine lv_aload_n hx hb dX5_number_51 rfl (lv_at hl 0 rfl) ?_
        obtain ⟨y302, h_y302, hf⟩ := bnd hf
        refine cl_iV C0 hH hl.1 (As := []) (rest := []) (mX5_sign l D ca a wr u h_y302) gX5_number_X5_sign rfl rfl rfl hd_X5_sign ⟨Nat.le_of_ble_eq_true rfl, Nat.le_of_ble_eq_true rfl⟩ ⟨Nat.zero_le _, Nat.zero_le _⟩ (vM_X5 C0 hH) rfl (Nat.le_of_ble_eq_true rfl) dX5_number_52 (fun H locs hH => ?_)
        refine lv_bipush (v := 48) hx hb dX5_number_55 (by decide) ?_
        refine lv_bipush (v := 57) hx hb dX5_number_57 (by decide) ?_
        obtain ⟨y303, h_y303, hf⟩ := bnd hf
        refine cl_iS C0 hH hl.1 (As := [.int y302, .int 48, .int 57]) (rest := []) (mX5_in l D ca (mW a ca u ++ wr) y302 48 57 h_y303) gX5_number_X5_in rfl rfl rfl hd_X5_in ⟨Nat.le_of_ble_eq_true rfl, Nat.le_of_ble_eq_true rfl⟩ ⟨Nat.zero_le _, Nat.zero_le _⟩ rfl (Nat.le_of_ble_eq_true rfl) dX5_number_59 (fun H locs hH => ?_)
        refine lv_if_eq (tgt := 107) hx hb dX5_number_62 (by decide) (fun c304 => ?_) (fun c304 => ?_)
        · rw [if_pos c304] at hf
          exact J107 _ _ _ _ _ hf hH (lv_sub hl [2] rfl)
        · rw [if_neg c304] at hf
          refine lv_bipush (v := 10) hx hb dX5_number_65 (by decide) ?_
          refine lv_iload_n hx hb dX5_number_67 rfl (lv_at hl 2 rfl) ?_
          refine lv_imul hx hb dX5_number_68 ?_
          refine lv_aload_n hx hb dX5_number_69 rfl (lv_at hl 0 rfl) ?_
          obtain ⟨y305, h_y305, hf⟩ := bnd hf
          refine cl_iV C0 hH hl.1 (As := []) (rest := [.int (10 * x3)]) (mX5_sign l D ca a wr u h_y305) gX5_number_X5_sign rfl rfl rfl hd_X5_sign ⟨Nat.le_of_ble_eq_true rfl, Nat.le_of_ble_eq_true rfl⟩ ⟨Nat.zero_le _, Nat.zero_le _⟩ (vM_X5 C0 hH) rfl (Nat.le_of_ble_eq_true rfl) dX5_number_70 (fun H locs hH => ?_)
          refine lv_iadd hx hb dX5_number_73 ?_
          refine lv_bipush (v := 48) hx hb dX5_number_74 (by decide) ?_
          refine lv_isub hx hb dX5_number_76 ?_
          refine lv_iload_n hx hb dX5_number_77 rfl (lv_at hl 1 rfl) ?_
          refine lv_icmp_gt (tgt := 107) hx hb dX5_number_78 (by decide) (fun c306 => ?_) (fun c306 => ?_)
          · rw [if_pos c306] at hf
            exact J107 _ _ _ _ _ hf hH (lv_sub hl [2] rfl)
          · rw [if_neg c306] at hf
            refine lv_bipush (v := 10) hx hb dX5_number_81 (by decide) ?_
            refine lv_iload_n hx hb dX5_number_83 rfl (lv_at hl 2 rfl) ?_
            refine lv_imul hx hb dX5_number_84 ?_
            refine lv_aload_n hx hb dX5_number_85 rfl (lv_at hl 0 rfl) ?_
            obtain ⟨y307, h_y307, hf⟩ := bnd hf
            refine cl_iV C0 hH hl.1 (As := []) (rest := [.int (10 * x3)]) (mX5_sign l D ca a wr u h_y307) gX5_number_X5_sign rfl rfl rfl hd_X5_sign ⟨Nat.le_of_ble_eq_true rfl, Nat.le_of_ble_eq_true rfl⟩ ⟨Nat.zero_le _, Nat.zero_le _⟩ (vM_X5 C0 hH) rfl (Nat.le_of_ble_eq_true rfl) dX5_number_86 (fun H locs hH => ?_)
            refine lv_iadd hx hb dX5_number_89 ?_
            refine lv_bipush (v := 48) hx hb dX5_number_90 (by decide) ?_
            refine lv_isub hx hb dX5_number_92 ?_
            refine lv_istore_n (lv' := [(3, .int (((10 * x3) + y307) - 48)), (0, .ref (a 0)), (2, .int x2)]) hx hb dX5_number_93 rfl hl (by decide) rfl (fun ls hl => ?_)
            refine lv_aload_n hx hb dX5_number_94 rfl (lv_at hl 1 rfl) ?_
            refine lv_dup hx hb dX5_number_95 rfl ?_
            refine gM_X5_at C0 hH inX5_number_X5 (by decide +kernel : Cond.fieldLink RX5 128 "GatheringCacheModel" "at" "I" ∈ wsX5_number) dX5_number_96 ?_
            refine lv_iconst (v := 1) hx hb dX5_number_99 (by decide) ?_
            refine lv_iadd hx hb dX5_number_100 ?_
            obtain ⟨u308, h_u308, hf⟩ := bnd hf
            refine pM_X5_at C0 hH inX5_number_X5 h_u308 (by decide +kernel : Cond.fieldLink RX5 128 "GatheringCacheModel" "at" "I" ∈ wsX5_number) dX5_number_101 (fun H locs hH => ?_)
            refine lv_goto (tgt := 47) hx hb dX5_number_104 (by decide) ?_
            exact ih _ _ _ _ _ hf hH (lv_sub hl [1, 2, 0] rfl)
  have J43 : ∀ (x2 : Int32) (x3 : Int32) (s1 : Int32) (s2 : Int32) (u : Mem) (H : Heap) (locs : List Loc) (ls : Array Slot), pX5_number_43 x2 x3 s1 s2 u = some (r, u9) → HS D A s (mW a ca u ++ wr) H locs → lv_has ls 4 [(0, .ref (a 0)), (2, .int x2), (3, .int x3)] → W p l e rmX5_number s m args below meth c H locs 0 0 Q (F0 m 43 ls [.int s2, .int s1, .ref (a 0)]) := by
    intro x2 x3 s1 s2 u H locs ls hf hH hl
    unfold pX5_number_43 at hf
    refine lv_iadd hx hb dX5_number_43 ?_
    obtain ⟨u201, h_u201, hf⟩ := bnd hf
    refine pM_X5_at C0 hH inX5_number_X5 h_u201 (by decide +kernel : Cond.fieldLink RX5 128 "GatheringCacheModel" "at" "I" ∈ wsX5_number) dX5_number_44 (fun H locs hH => ?_)
    exact J47 _ FU _ _ _ _ _ hf hH (lv_sub hl [0, 1, 2] rfl)
  have J27 : ∀ (x2 : Int32) (s0 : Int32) (u : Mem) (H : Heap) (locs : List Loc) (ls : Array Slot), pX5_number_27 x2 s0 u = some (r, u9) → HS D A s (mW a ca u ++ wr) H locs → lv_has ls 4 [(0, .ref (a 0)), (2, .int x2)] → W p l e rmX5_number s m args below meth c H locs 0 0 Q (F0 m 27 ls [.int s0]) := by
    intro x2 s0 u H locs ls hf hH hl
    unfold pX5_number_27 at hf
    refine lv_istore_n (lv' := [(3, .int s0), (0, .ref (a 0)), (2, .int x2)]) hx hb dX5_number_27 rfl hl (by decide) rfl (fun ls hl => ?_)
    refine lv_aload_n hx hb dX5_number_28 rfl (lv_at hl 1 rfl) ?_
    refine lv_dup hx hb dX5_number_29 rfl ?_
    refine gM_X5_at C0 hH inX5_number_X5 (by decide +kernel : Cond.fieldLink RX5 128 "GatheringCacheModel" "at" "I" ∈ wsX5_number) dX5_number_30 ?_
    refine lv_iload_n hx hb dX5_number_33 rfl (lv_at hl 0 rfl) ?_
    refine lv_iconst (v := (-1)) hx hb dX5_number_34 (by decide) ?_
    refine lv_icmp_ne (tgt := 42) hx hb dX5_number_35 (by decide) (fun c101 => ?_) (fun c101 => ?_)
    · rw [if_neg c101] at hf
      refine lv_iconst (v := 1) hx hb dX5_number_42 (by decide) ?_
      exact J43 _ _ _ _ _ _ _ _ hf hH (lv_sub hl [1, 2, 0] rfl)
    · rw [if_pos c101] at hf
      refine lv_iconst (v := 0) hx hb dX5_number_38 (by decide) ?_
      refine lv_goto (tgt := 43) hx hb dX5_number_39 (by decide) ?_
      exact J43 _ _ _ _ _ _ _ _ hf hH (lv_sub hl [1, 2, 0] rfl)
  unfold pX5_number at hf
  refine lv_aload_n hx hb dX5_number_0 rfl (lv_at hl 0 rfl) ?_
  obtain ⟨y1, h_y1, hf⟩ := bnd hf
  refine cl_iV C0 hH hl.1 (As := []) (rest := []) (mX5_sign l D ca a wr u h_y1) gX5_number_X5_sign rfl rfl rfl hd_X5_sign ⟨Nat.le_of_ble_eq_true rfl, Nat.le_of_ble_eq_true rfl⟩ ⟨Nat.zero_le _, Nat.zero_le _⟩ (vM_X5 C0 hH) rfl (Nat.le_of_ble_eq_true rfl) dX5_number_1 (fun H locs hH => ?_)
  refine lv_bipush (v := 48) hx hb dX5_number_4 (by decide) ?_
  refine lv_iload_n hx hb dX5_number_6 rfl (lv_at hl 1 rfl) ?_
  refine lv_iadd hx hb dX5_number_7 ?_
  refine lv_bipush (v := 57) hx hb dX5_number_8 (by decide) ?_
  obtain ⟨y2, h_y2, hf⟩ := bnd hf
  refine cl_iS C0 hH hl.1 (As := [.int y1, .int (48 + x1), .int 57]) (rest := []) (mX5_in l D ca (mW a ca u ++ wr) y1 (48 + x1) 57 h_y2) gX5_number_X5_in rfl rfl rfl hd_X5_in ⟨Nat.le_of_ble_eq_true rfl, Nat.le_of_ble_eq_true rfl⟩ ⟨Nat.zero_le _, Nat.zero_le _⟩ rfl (Nat.le_of_ble_eq_true rfl) dX5_number_10 (fun H locs hH => ?_)
  refine lv_if_eq (tgt := 26) hx hb dX5_number_13 (by decide) (fun c3 => ?_) (fun c3 => ?_)
  · rw [if_pos c3] at hf
    refine lv_iconst (v := (-1)) hx hb dX5_number_26 (by decide) ?_
    exact J27 _ _ _ _ _ _ hf hH (lv_sub hl [0, 2] rfl)
  · rw [if_neg c3] at hf
    refine lv_aload_n hx hb dX5_number_16 rfl (lv_at hl 0 rfl) ?_
    obtain ⟨y4, h_y4, hf⟩ := bnd hf
    refine cl_iV C0 hH hl.1 (As := []) (rest := []) (mX5_sign l D ca a wr u h_y4) gX5_number_X5_sign rfl rfl rfl hd_X5_sign ⟨Nat.le_of_ble_eq_true rfl, Nat.le_of_ble_eq_true rfl⟩ ⟨Nat.zero_le _, Nat.zero_le _⟩ (vM_X5 C0 hH) rfl (Nat.le_of_ble_eq_true rfl) dX5_number_17 (fun H locs hH => ?_)
    refine lv_bipush (v := 48) hx hb dX5_number_20 (by decide) ?_
    refine lv_isub hx hb dX5_number_22 ?_
    refine lv_goto (tgt := 27) hx hb dX5_number_23 (by decide) ?_
    exact J27 _ _ _ _ _ _ hf hH (lv_sub hl [0, 2] rfl)
def rmX5_readsCommand : Room := { frames := 2, cells := 0, slots := 0, locals := 45 }
theorem hd_X5_readsCommand : yX5_readsCommand.cls = RX5 ∧ yX5_readsCommand.cls ≠ "java/lang/invoke/MethodHandle" ∧ yX5_readsCommand.cls ≠ "java/lang/invoke/VarHandle" ∧ (parseMethodDescriptor yX5_readsCommand.desc).map (fun d => d.parameters.length) = some 0 := by decide +kernel
theorem inX5_readsCommand_X5 : ∀ w ∈ wsX50, w ∈ wsX5_readsCommand := by decide +kernel
set_option maxHeartbeats 4000000 in
set_option maxRecDepth 100000 in
theorem mX5_readsCommand (l : Launch) (D : va_G) (ca : Gp) (a : Nat → Nat) (wr : va_W) (u : Mem) {r : Int32} {u9 : Mem} (hf : pX5_readsCommand u = some (r, u9)) : Mi l yX5_readsCommand wsX5_readsCommand rmX5_readsCommand D ca [.ref (a 0)] (mW a ca u ++ wr) (mW a ca u9 ++ wr) r := by
  refine Mi_of (own := RX5) (cc := cX5_readsCommand) (nL := 1) (ty := .boolean) (by decide) rfl rfl rfl rfl (Nat.le_of_ble_eq_true rfl) ?_
  intro p e s m args below meth c Q A ls C0 hH hl hend
  obtain ⟨hx, hb, hml, hown, hts⟩ := id C0.1
  have hl : lv_has ls 1 [(0, .ref (a 0))] := hl
  have J26 : ∀ (u : Mem) (H : Heap) (locs : List Loc) (ls : Array Slot), pX5_readsCommand_26 u = some (r, u9) → HS D A s (mW a ca u ++ wr) H locs → lv_has ls 1 [] → W p l e rmX5_readsCommand s m args below meth c H locs 0 0 Q (F0 m 26 ls []) := by
    intro u H locs ls hf hH hl
    unfold pX5_readsCommand_26 at hf
    refine lv_iconst (v := 1) hx hb dX5_readsCommand_26 (by decide) ?_
    cases hf
    exact hend _ _ _ _ hH rfl dX5_readsCommand_27
  have J94 : ∀ (s0 : Int32) (u : Mem) (H : Heap) (locs : List Loc) (ls : Array Slot), pX5_readsCommand_94 s0 u = some (r, u9) → HS D A s (mW a ca u ++ wr) H locs → lv_has ls 1 [] → W p l e rmX5_readsCommand s m args below meth c H locs 0 0 Q (F0 m 94 ls [.int s0]) := by
    intro s0 u H locs ls hf hH hl
    unfold pX5_readsCommand_94 at hf
    obtain ⟨hz, hf⟩ := gd hf
    cases hf
    exact hend _ _ _ _ hH (isz_n hz) dX5_readsCommand_94
  have J78 : ∀ (s1 : Int32) (u : Mem) (H : Heap) (locs : List Loc) (ls : Array Slot), pX5_readsCommand_78 s1 u = some (r, u9) → HS D A s (mW a ca u ++ wr) H locs → lv_has ls 1 [(0, .ref (a 0))] → W p l e rmX5_readsCommand s m args below meth c H locs 0 0 Q (F0 m 78 ls [.int s1, .ref (a 0)]) := by
    intro s1 u H locs ls hf hH hl
    unfold pX5_readsCommand_78 at hf
    obtain ⟨u301, h_u301, hf⟩ := bnd hf
    refine pM_X5_second C0 hH inX5_readsCommand_X5 h_u301 (by decide +kernel : Cond.fieldLink RX5 146 "GatheringCacheModel" "second" "I" ∈ wsX5_readsCommand) dX5_readsCommand_78 (fun H locs hH => ?_)
    refine lv_aload_n hx hb dX5_readsCommand_81 rfl (lv_at hl 0 rfl) ?_
    refine gM_X5_second C0 hH inX5_readsCommand_X5 (by decide +kernel : Cond.fieldLink RX5 146 "GatheringCacheModel" "second" "I" ∈ wsX5_readsCommand) dX5_readsCommand_82 ?_
    refine lv_iconst (v := (-1)) hx hb dX5_readsCommand_85 (by decide) ?_
    refine lv_icmp_eq (tgt := 93) hx hb dX5_readsCommand_86 (by decide) (fun c302 => ?_) (fun c302 => ?_)
    · rw [if_pos c302] at hf
      refine lv_iconst (v := 0) hx hb dX5_readsCommand_93 (by decide) ?_
      exact J94 _ _ _ _ _ hf hH (lv_sub hl [] rfl)
    · rw [if_neg c302] at hf
      refine lv_iconst (v := 1) hx hb dX5_readsCommand_89 (by decide) ?_
      refine lv_goto (tgt := 94) hx hb dX5_readsCommand_90 (by decide) ?_
      exact J94 _ _ _ _ _ hf hH (lv_sub hl [] rfl)
  have J77 : ∀ (u : Mem) (H : Heap) (locs : List Loc) (ls : Array Slot), pX5_readsCommand_77 u = some (r, u9) → HS D A s (mW a ca u ++ wr) H locs → lv_has ls 1 [(0, .ref (a 0))] → W p l e rmX5_readsCommand s m args below meth c H locs 0 0 Q (F0 m 77 ls [.ref (a 0)]) := by
    intro u H locs ls hf hH hl
    unfold pX5_readsCommand_77 at hf
    refine lv_iconst (v := (-1)) hx hb dX5_readsCommand_77 (by decide) ?_
    exact J78 _ _ _ _ _ hf hH (lv_sub hl [0] rfl)
  have J128 : ∀ (s0 : Int32) (u : Mem) (H : Heap) (locs : List Loc) (ls : Array Slot), pX5_readsCommand_128 s0 u = some (r, u9) → HS D A s (mW a ca u ++ wr) H locs → lv_has ls 1 [] → W p l e rmX5_readsCommand s m args below meth c H locs 0 0 Q (F0 m 128 ls [.int s0]) := by
    intro s0 u H locs ls hf hH hl
    unfold pX5_readsCommand_128 at hf
    obtain ⟨hz, hf⟩ := gd hf
    cases hf
    exact hend _ _ _ _ hH (isz_n hz) dX5_readsCommand_128
  have J162 : ∀ (s0 : Int32) (u : Mem) (H : Heap) (locs : List Loc) (ls : Array Slot), pX5_readsCommand_162 s0 u = some (r, u9) → HS D A s (mW a ca u ++ wr) H locs → lv_has ls 1 [] → W p l e rmX5_readsCommand s m args below meth c H locs 0 0 Q (F0 m 162 ls [.int s0]) := by
    intro s0 u H locs ls hf hH hl
    unfold pX5_readsCommand_162 at hf
    obtain ⟨hz, hf⟩ := gd hf
    cases hf
    exact hend _ _ _ _ hH (isz_n hz) dX5_readsCommand_162
  have J200 : ∀ (s0 : Int32) (u : Mem) (H : Heap) (locs : List Loc) (ls : Array Slot), pX5_readsCommand_200 s0 u = some (r, u9) → HS D A s (mW a ca u ++ wr) H locs → lv_has ls 1 [] → W p l e rmX5_readsCommand s m args below meth c H locs 0 0 Q (F0 m 200 ls [.int s0]) := by
    intro s0 u H locs ls hf hH hl
    unfold pX5_readsCommand_200 at hf
    obtain ⟨hz, hf⟩ := gd hf
    cases hf
    exact hend _ _ _ _ hH (isz_n hz) dX5_readsCommand_200
  have J184 : ∀ (s1 : Int32) (u : Mem) (H : Heap) (locs : List Loc) (ls : Array Slot), pX5_readsCommand_184 s1 u = some (r, u9) → HS D A s (mW a ca u ++ wr) H locs → lv_has ls 1 [(0, .ref (a 0))] → W p l e rmX5_readsCommand s m args below meth c H locs 0 0 Q (F0 m 184 ls [.int s1, .ref (a 0)]) := by
    intro s1 u H locs ls hf hH hl
    unfold pX5_readsCommand_184 at hf
    obtain ⟨u701, h_u701, hf⟩ := bnd hf
    refine pM_X5_first C0 hH inX5_readsCommand_X5 h_u701 (by decide +kernel : Cond.fieldLink RX5 143 "GatheringCacheModel" "first" "I" ∈ wsX5_readsCommand) dX5_readsCommand_184 (fun H locs hH => ?_)
    refine lv_aload_n hx hb dX5_readsCommand_187 rfl (lv_at hl 0 rfl) ?_
    refine gM_X5_first C0 hH inX5_readsCommand_X5 (by decide +kernel : Cond.fieldLink RX5 143 "GatheringCacheModel" "first" "I" ∈ wsX5_readsCommand) dX5_readsCommand_188 ?_
    refine lv_iconst (v := (-1)) hx hb dX5_readsCommand_191 (by decide) ?_
    refine lv_icmp_eq (tgt := 199) hx hb dX5_readsCommand_192 (by decide) (fun c702 => ?_) (fun c702 => ?_)
    · rw [if_pos c702] at hf
      refine lv_iconst (v := 0) hx hb dX5_readsCommand_199 (by decide) ?_
      exact J200 _ _ _ _ _ hf hH (lv_sub hl [] rfl)
    · rw [if_neg c702] at hf
      refine lv_iconst (v := 1) hx hb dX5_readsCommand_195 (by decide) ?_
      refine lv_goto (tgt := 200) hx hb dX5_readsCommand_196 (by decide) ?_
      exact J200 _ _ _ _ _ hf hH (lv_sub hl [] rfl)
  unfold pX5_readsCommand at hf
  refine lv_aload_n hx hb dX5_readsCommand_0 rfl (lv_at hl 0 rfl) ?_
  refine lv_aload_n hx hb dX5_readsCommand_1 rfl (lv_at hl 0 rfl) ?_
  obtain ⟨y1, h_y1, hf⟩ := bnd hf
  refine cl_iV C0 hH hl.1 (As := []) (rest := [.ref (a 0)]) (mX5_sign l D ca a wr u h_y1) gX5_readsCommand_X5_sign rfl rfl rfl hd_X5_sign ⟨Nat.le_of_ble_eq_true rfl, Nat.le_of_ble_eq_true rfl⟩ ⟨Nat.zero_le _, Nat.zero_le _⟩ (vM_X5 C0 hH) rfl (Nat.le_of_ble_eq_true rfl) dX5_readsCommand_2 (fun H locs hH => ?_)
  obtain ⟨u2, h_u2, hf⟩ := bnd hf
  refine pM_X5_letter C0 hH inX5_readsCommand_X5 h_u2 (by decide +kernel : Cond.fieldLink RX5 134 "GatheringCacheModel" "letter" "I" ∈ wsX5_readsCommand) dX5_readsCommand_5 (fun H locs hH => ?_)
  refine lv_aload_n hx hb dX5_readsCommand_8 rfl (lv_at hl 0 rfl) ?_
  refine lv_bipush (v := 112) hx hb dX5_readsCommand_9 (by decide) ?_
  obtain ⟨y3, u4, h_y3, hf⟩ := bnd2 hf
  refine cl_iV C0 hH hl.1 (As := [.int 112]) (rest := []) (mX5_takes l D ca a wr u2 112 h_y3) gX5_readsCommand_X5_takes rfl rfl rfl hd_X5_takes ⟨Nat.le_of_ble_eq_true rfl, Nat.le_of_ble_eq_true rfl⟩ ⟨Nat.zero_le _, Nat.zero_le _⟩ (vM_X5 C0 hH) rfl (Nat.le_of_ble_eq_true rfl) dX5_readsCommand_11 (fun H locs hH => ?_)
  refine lv_if_ne (tgt := 26) hx hb dX5_readsCommand_14 (by decide) (fun c5 => ?_) (fun c5 => ?_)
  · rw [if_neg c5] at hf
    exact J26 _ _ _ _ hf hH (lv_sub hl [] rfl)
  · rw [if_pos c5] at hf
    refine lv_aload_n hx hb dX5_readsCommand_17 rfl (lv_at hl 0 rfl) ?_
    refine lv_bipush (v := 109) hx hb dX5_readsCommand_18 (by decide) ?_
    obtain ⟨y6, u7, h_y6, hf⟩ := bnd2 hf
    refine cl_iV C0 hH hl.1 (As := [.int 109]) (rest := []) (mX5_takes l D ca a wr u4 109 h_y6) gX5_readsCommand_X5_takes rfl rfl rfl hd_X5_takes ⟨Nat.le_of_ble_eq_true rfl, Nat.le_of_ble_eq_true rfl⟩ ⟨Nat.zero_le _, Nat.zero_le _⟩ (vM_X5 C0 hH) rfl (Nat.le_of_ble_eq_true rfl) dX5_readsCommand_20 (fun H locs hH => ?_)
    refine lv_if_eq (tgt := 28) hx hb dX5_readsCommand_23 (by decide) (fun c8 => ?_) (fun c8 => ?_)
    · rw [if_pos c8] at hf
      refine lv_aload_n hx hb dX5_readsCommand_28 rfl (lv_at hl 0 rfl) ?_
      refine lv_bipush (v := 119) hx hb dX5_readsCommand_29 (by decide) ?_
      obtain ⟨y9, u10, h_y9, hf⟩ := bnd2 hf
      refine cl_iV C0 hH hl.1 (As := [.int 119]) (rest := []) (mX5_takes l D ca a wr u7 119 h_y9) gX5_readsCommand_X5_takes rfl rfl rfl hd_X5_takes ⟨Nat.le_of_ble_eq_true rfl, Nat.le_of_ble_eq_true rfl⟩ ⟨Nat.zero_le _, Nat.zero_le _⟩ (vM_X5 C0 hH) rfl (Nat.le_of_ble_eq_true rfl) dX5_readsCommand_31 (fun H locs hH => ?_)
      refine lv_if_eq (tgt := 95) hx hb dX5_readsCommand_34 (by decide) (fun c11 => ?_) (fun c11 => ?_)
      · rw [if_pos c11] at hf
        refine lv_aload_n hx hb dX5_readsCommand_95 rfl (lv_at hl 0 rfl) ?_
        refine lv_bipush (v := 114) hx hb dX5_readsCommand_96 (by decide) ?_
        obtain ⟨y12, u13, h_y12, hf⟩ := bnd2 hf
        refine cl_iV C0 hH hl.1 (As := [.int 114]) (rest := []) (mX5_takes l D ca a wr u10 114 h_y12) gX5_readsCommand_X5_takes rfl rfl rfl hd_X5_takes ⟨Nat.le_of_ble_eq_true rfl, Nat.le_of_ble_eq_true rfl⟩ ⟨Nat.zero_le _, Nat.zero_le _⟩ (vM_X5 C0 hH) rfl (Nat.le_of_ble_eq_true rfl) dX5_readsCommand_98 (fun H locs hH => ?_)
        refine lv_if_eq (tgt := 129) hx hb dX5_readsCommand_101 (by decide) (fun c14 => ?_) (fun c14 => ?_)
        · rw [if_pos c14] at hf
          refine lv_aload_n hx hb dX5_readsCommand_129 rfl (lv_at hl 0 rfl) ?_
          refine lv_bipush (v := 100) hx hb dX5_readsCommand_130 (by decide) ?_
          obtain ⟨y15, u16, h_y15, hf⟩ := bnd2 hf
          refine cl_iV C0 hH hl.1 (As := [.int 100]) (rest := []) (mX5_takes l D ca a wr u13 100 h_y15) gX5_readsCommand_X5_takes rfl rfl rfl hd_X5_takes ⟨Nat.le_of_ble_eq_true rfl, Nat.le_of_ble_eq_true rfl⟩ ⟨Nat.zero_le _, Nat.zero_le _⟩ (vM_X5 C0 hH) rfl (Nat.le_of_ble_eq_true rfl) dX5_readsCommand_132 (fun H locs hH => ?_)
          refine lv_if_eq (tgt := 163) hx hb dX5_readsCommand_135 (by decide) (fun c17 => ?_) (fun c17 => ?_)
          · rw [if_pos c17] at hf
            refine lv_aload_n hx hb dX5_readsCommand_163 rfl (lv_at hl 0 rfl) ?_
            refine lv_aload_n hx hb dX5_readsCommand_164 rfl (lv_at hl 0 rfl) ?_
            refine lv_bipush (v := 116) hx hb dX5_readsCommand_165 (by decide) ?_
            obtain ⟨y18, u19, h_y18, hf⟩ := bnd2 hf
            refine cl_iV C0 hH hl.1 (As := [.int 116]) (rest := [.ref (a 0)]) (mX5_takes l D ca a wr u16 116 h_y18) gX5_readsCommand_X5_takes rfl rfl rfl hd_X5_takes ⟨Nat.le_of_ble_eq_true rfl, Nat.le_of_ble_eq_true rfl⟩ ⟨Nat.zero_le _, Nat.zero_le _⟩ (vM_X5 C0 hH) rfl (Nat.le_of_ble_eq_true rfl) dX5_readsCommand_167 (fun H locs hH => ?_)
            refine lv_if_eq (tgt := 183) hx hb dX5_readsCommand_170 (by decide) (fun c20 => ?_) (fun c20 => ?_)
            · rw [if_pos c20] at hf
              refine lv_iconst (v := (-1)) hx hb dX5_readsCommand_183 (by decide) ?_
              exact J184 _ _ _ _ _ hf hH (lv_sub hl [0] rfl)
            · rw [if_neg c20] at hf
              refine lv_aload_n hx hb dX5_readsCommand_173 rfl (lv_at hl 0 rfl) ?_
              refine lv_iconst (v := 1) hx hb dX5_readsCommand_174 (by decide) ?_
              refine lv_bipush (v := 99) hx hb dX5_readsCommand_175 (by decide) ?_
              obtain ⟨y21, u22, h_y21, hf⟩ := bnd2 hf
              refine cl_iV C0 hH hl.1 (As := [.int 1, .int 99]) (rest := [.ref (a 0)]) (mX5_number l D ca a wr u19 1 99 h_y21) gX5_readsCommand_X5_number rfl rfl rfl hd_X5_number ⟨Nat.le_of_ble_eq_true rfl, Nat.le_of_ble_eq_true rfl⟩ ⟨Nat.zero_le _, Nat.zero_le _⟩ (vM_X5 C0 hH) rfl (Nat.le_of_ble_eq_true rfl) dX5_readsCommand_177 (fun H locs hH => ?_)
              refine lv_goto (tgt := 184) hx hb dX5_readsCommand_180 (by decide) ?_
              exact J184 _ _ _ _ _ hf hH (lv_sub hl [0] rfl)
          · rw [if_neg c17] at hf
            refine lv_aload_n hx hb dX5_readsCommand_138 rfl (lv_at hl 0 rfl) ?_
            refine lv_aload_n hx hb dX5_readsCommand_139 rfl (lv_at hl 0 rfl) ?_
            refine lv_iconst (v := 0) hx hb dX5_readsCommand_140 (by decide) ?_
            refine lv_bipush (v := 15) hx hb dX5_readsCommand_141 (by decide) ?_
            obtain ⟨y23, u24, h_y23, hf⟩ := bnd2 hf
            refine cl_iV C0 hH hl.1 (As := [.int 0, .int 15]) (rest := [.ref (a 0)]) (mX5_number l D ca a wr u16 0 15 h_y23) gX5_readsCommand_X5_number rfl rfl rfl hd_X5_number ⟨Nat.le_of_ble_eq_true rfl, Nat.le_of_ble_eq_true rfl⟩ ⟨Nat.zero_le _, Nat.zero_le _⟩ (vM_X5 C0 hH) rfl (Nat.le_of_ble_eq_true rfl) dX5_readsCommand_143 (fun H locs hH => ?_)
            obtain ⟨u25, h_u25, hf⟩ := bnd hf
            refine pM_X5_first C0 hH inX5_readsCommand_X5 h_u25 (by decide +kernel : Cond.fieldLink RX5 143 "GatheringCacheModel" "first" "I" ∈ wsX5_readsCommand) dX5_readsCommand_146 (fun H locs hH => ?_)
            refine lv_aload_n hx hb dX5_readsCommand_149 rfl (lv_at hl 0 rfl) ?_
            refine gM_X5_first C0 hH inX5_readsCommand_X5 (by decide +kernel : Cond.fieldLink RX5 143 "GatheringCacheModel" "first" "I" ∈ wsX5_readsCommand) dX5_readsCommand_150 ?_
            refine lv_iconst (v := (-1)) hx hb dX5_readsCommand_153 (by decide) ?_
            refine lv_icmp_eq (tgt := 161) hx hb dX5_readsCommand_154 (by decide) (fun c26 => ?_) (fun c26 => ?_)
            · rw [if_pos c26] at hf
              refine lv_iconst (v := 0) hx hb dX5_readsCommand_161 (by decide) ?_
              exact J162 _ _ _ _ _ hf hH (lv_sub hl [] rfl)
            · rw [if_neg c26] at hf
              refine lv_iconst (v := 1) hx hb dX5_readsCommand_157 (by decide) ?_
              refine lv_goto (tgt := 162) hx hb dX5_readsCommand_158 (by decide) ?_
              exact J162 _ _ _ _ _ hf hH (lv_sub hl [] rfl)
        · rw [if_neg c14] at hf
          refine lv_aload_n hx hb dX5_readsCommand_104 rfl (lv_at hl 0 rfl) ?_
          refine lv_aload_n hx hb dX5_readsCommand_105 rfl (lv_at hl 0 rfl) ?_
          refine lv_iconst (v := 0) hx hb dX5_readsCommand_106 (by decide) ?_
          refine lv_bipush (v := 63) hx hb dX5_readsCommand_107 (by decide) ?_
          obtain ⟨y27, u28, h_y27, hf⟩ := bnd2 hf
          refine cl_iV C0 hH hl.1 (As := [.int 0, .int 63]) (rest := [.ref (a 0)]) (mX5_number l D ca a wr u13 0 63 h_y27) gX5_readsCommand_X5_number rfl rfl rfl hd_X5_number ⟨Nat.le_of_ble_eq_true rfl, Nat.le_of_ble_eq_true rfl⟩ ⟨Nat.zero_le _, Nat.zero_le _⟩ (vM_X5 C0 hH) rfl (Nat.le_of_ble_eq_true rfl) dX5_readsCommand_109 (fun H locs hH => ?_)
          obtain ⟨u29, h_u29, hf⟩ := bnd hf
          refine pM_X5_first C0 hH inX5_readsCommand_X5 h_u29 (by decide +kernel : Cond.fieldLink RX5 143 "GatheringCacheModel" "first" "I" ∈ wsX5_readsCommand) dX5_readsCommand_112 (fun H locs hH => ?_)
          refine lv_aload_n hx hb dX5_readsCommand_115 rfl (lv_at hl 0 rfl) ?_
          refine gM_X5_first C0 hH inX5_readsCommand_X5 (by decide +kernel : Cond.fieldLink RX5 143 "GatheringCacheModel" "first" "I" ∈ wsX5_readsCommand) dX5_readsCommand_116 ?_
          refine lv_iconst (v := (-1)) hx hb dX5_readsCommand_119 (by decide) ?_
          refine lv_icmp_eq (tgt := 127) hx hb dX5_readsCommand_120 (by decide) (fun c30 => ?_) (fun c30 => ?_)
          · rw [if_pos c30] at hf
            refine lv_iconst (v := 0) hx hb dX5_readsCommand_127 (by decide) ?_
            exact J128 _ _ _ _ _ hf hH (lv_sub hl [] rfl)
          · rw [if_neg c30] at hf
            refine lv_iconst (v := 1) hx hb dX5_readsCommand_123 (by decide) ?_
            refine lv_goto (tgt := 128) hx hb dX5_readsCommand_124 (by decide) ?_
            exact J128 _ _ _ _ _ hf hH (lv_sub hl [] rfl)
      · rw [if_neg c11] at hf
        refine lv_aload_n hx hb dX5_readsCommand_37 rfl (lv_at hl 0 rfl) ?_
        refine lv_aload_n hx hb dX5_readsCommand_38 rfl (lv_at hl 0 rfl) ?_
        refine lv_iconst (v := 0) hx hb dX5_readsCommand_39 (by decide) ?_
        refine lv_bipush (v := 63) hx hb dX5_readsCommand_40 (by decide) ?_
        obtain ⟨y31, u32, h_y31, hf⟩ := bnd2 hf
        refine cl_iV C0 hH hl.1 (As := [.int 0, .int 63]) (rest := [.ref (a 0)]) (mX5_number l D ca a wr u10 0 63 h_y31) gX5_readsCommand_X5_number rfl rfl rfl hd_X5_number ⟨Nat.le_of_ble_eq_true rfl, Nat.le_of_ble_eq_true rfl⟩ ⟨Nat.zero_le _, Nat.zero_le _⟩ (vM_X5 C0 hH) rfl (Nat.le_of_ble_eq_true rfl) dX5_readsCommand_42 (fun H locs hH => ?_)
        obtain ⟨u33, h_u33, hf⟩ := bnd hf
        refine pM_X5_first C0 hH inX5_readsCommand_X5 h_u33 (by decide +kernel : Cond.fieldLink RX5 143 "GatheringCacheModel" "first" "I" ∈ wsX5_readsCommand) dX5_readsCommand_45 (fun H locs hH => ?_)
        refine lv_aload_n hx hb dX5_readsCommand_48 rfl (lv_at hl 0 rfl) ?_
        refine lv_aload_n hx hb dX5_readsCommand_49 rfl (lv_at hl 0 rfl) ?_
        refine gM_X5_first C0 hH inX5_readsCommand_X5 (by decide +kernel : Cond.fieldLink RX5 143 "GatheringCacheModel" "first" "I" ∈ wsX5_readsCommand) dX5_readsCommand_50 ?_
        refine lv_iconst (v := (-1)) hx hb dX5_readsCommand_53 (by decide) ?_
        refine lv_icmp_eq (tgt := 77) hx hb dX5_readsCommand_54 (by decide) (fun c34 => ?_) (fun c34 => ?_)
        · rw [if_pos c34] at hf
          exact J77 _ _ _ _ hf hH (lv_sub hl [0] rfl)
        · rw [if_neg c34] at hf
          refine lv_aload_n hx hb dX5_readsCommand_57 rfl (lv_at hl 0 rfl) ?_
          refine lv_bipush (v := 44) hx hb dX5_readsCommand_58 (by decide) ?_
          obtain ⟨y35, u36, h_y35, hf⟩ := bnd2 hf
          refine cl_iV C0 hH hl.1 (As := [.int 44]) (rest := [.ref (a 0)]) (mX5_takes l D ca a wr u33 44 h_y35) gX5_readsCommand_X5_takes rfl rfl rfl hd_X5_takes ⟨Nat.le_of_ble_eq_true rfl, Nat.le_of_ble_eq_true rfl⟩ ⟨Nat.zero_le _, Nat.zero_le _⟩ (vM_X5 C0 hH) rfl (Nat.le_of_ble_eq_true rfl) dX5_readsCommand_60 (fun H locs hH => ?_)
          refine lv_if_eq (tgt := 77) hx hb dX5_readsCommand_63 (by decide) (fun c37 => ?_) (fun c37 => ?_)
          · rw [if_pos c37] at hf
            exact J77 _ _ _ _ hf hH (lv_sub hl [0] rfl)
          · rw [if_neg c37] at hf
            refine lv_aload_n hx hb dX5_readsCommand_66 rfl (lv_at hl 0 rfl) ?_
            refine lv_iconst (v := 0) hx hb dX5_readsCommand_67 (by decide) ?_
            refine lv_sipush (v := 999) hx hb dX5_readsCommand_68 (by decide) ?_
            obtain ⟨y38, u39, h_y38, hf⟩ := bnd2 hf
            refine cl_iV C0 hH hl.1 (As := [.int 0, .int 999]) (rest := [.ref (a 0)]) (mX5_number l D ca a wr u36 0 999 h_y38) gX5_readsCommand_X5_number rfl rfl rfl hd_X5_number ⟨Nat.le_of_ble_eq_true rfl, Nat.le_of_ble_eq_true rfl⟩ ⟨Nat.zero_le _, Nat.zero_le _⟩ (vM_X5 C0 hH) rfl (Nat.le_of_ble_eq_true rfl) dX5_readsCommand_71 (fun H locs hH => ?_)
            refine lv_goto (tgt := 78) hx hb dX5_readsCommand_74 (by decide) ?_
            exact J78 _ _ _ _ _ hf hH (lv_sub hl [0] rfl)
    · rw [if_neg c8] at hf
      exact J26 _ _ _ _ hf hH (lv_sub hl [] rfl)
