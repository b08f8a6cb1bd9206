/-! CONTRACTS, by program. -/
def rmJ9_floorMod_7cf53 : Room := { frames := 0, cells := 0, slots := 0, locals := 0 }
theorem hd_J9_floorMod_7cf53 : yJ9_floorMod_7cf53.cls ≠ "java/lang/invoke/MethodHandle" ∧ yJ9_floorMod_7cf53.cls ≠ "java/lang/invoke/VarHandle" ∧ (parseMethodDescriptor yJ9_floorMod_7cf53.desc).map (fun d => d.parameters.length) = some 2 := by decide +kernel
set_option maxHeartbeats 4000000 in
set_option maxRecDepth 100000 in
theorem mJ9_floorMod_7cf53 (l : Launch) (D : va_G) (ca : Gp) (w : va_W) (x0 : Int32) (x1 : Int32) {r : Int32} (hf : pJ9_floorMod_7cf53 x0 x1 = some r) : Mi l yJ9_floorMod_7cf53 wsJ9_floorMod_7cf53 rmJ9_floorMod_7cf53 D ca [.int x0, .int x1] (w) (w) r := by
  refine MiF_of (own := RJ9) (cc := cJ9_floorMod_7cf53) (nL := 3) (ty := .int) (by decide +kernel) rfl rfl rfl rfl (Nat.le_of_ble_eq_true rfl) ?_
  intro p e s m args below meth c Q A ls C0 hH hl hend
  obtain ⟨hx, hb, hml, hown, hts⟩ := id C0.1
  have hl : lv_has ls 3 [(0, .int x0), (1, .int x1)] := hl
  have J18 : ∀ (x2 : Int32) (H : Heap) (locs : List Loc) (ls : Array Slot), pJ9_floorMod_7cf53_18 x2 = some r → HS D A s (w) H locs → lv_has ls 3 [(2, .int x2)] → W p l e rmJ9_floorMod_7cf53 s m args below meth c H locs 0 0 Q (F0 m 18 ls []) := by
    intro x2 H locs ls hf hH hl
    unfold pJ9_floorMod_7cf53_18 at hf
    refine lv_iload_n hx hb dJ9_floorMod_7cf53_18 rfl (lv_at hl 0 rfl) ?_
    cases hf
    exact hend _ _ _ _ hH rfl dJ9_floorMod_7cf53_19
  unfold pJ9_floorMod_7cf53 at hf
  refine lv_iload_n hx hb dJ9_floorMod_7cf53_0 rfl (lv_at hl 0 rfl) ?_
  refine lv_iload_n hx hb dJ9_floorMod_7cf53_1 rfl (lv_at hl 1 rfl) ?_
  obtain ⟨y1, h_y1, hf⟩ := bnd hf
  refine lv_irem hx hb dJ9_floorMod_7cf53_2 (nzr_s h_y1) ?_
  refine lv_istore_n (lv' := [(2, .int (x0 - x0 / x1 * x1)), (0, .int x0), (1, .int x1)]) hx hb dJ9_floorMod_7cf53_3 rfl hl (by decide) rfl (fun ls hl => ?_)
  refine lv_iload_n hx hb dJ9_floorMod_7cf53_4 rfl (lv_at hl 1 rfl) ?_
  refine lv_iload_n hx hb dJ9_floorMod_7cf53_5 rfl (lv_at hl 2 rfl) ?_
  refine lv_ixor hx hb dJ9_floorMod_7cf53_6 ?_
  refine lv_if_ge (tgt := 18) hx hb dJ9_floorMod_7cf53_7 (by decide) (fun c2 => ?_) (fun c2 => ?_)
  · rw [if_pos c2] at hf
    exact J18 _ _ _ _ hf hH (lv_sub hl [0] rfl)
  · rw [if_neg c2] at hf
    refine lv_iload_n hx hb dJ9_floorMod_7cf53_10 rfl (lv_at hl 0 rfl) ?_
    refine lv_if_eq (tgt := 18) hx hb dJ9_floorMod_7cf53_11 (by decide) (fun c3 => ?_) (fun c3 => ?_)
    · rw [if_pos c3] at hf
      exact J18 _ _ _ _ hf hH (lv_sub hl [0] rfl)
    · rw [if_neg c3] at hf
      refine lv_iload_n hx hb dJ9_floorMod_7cf53_14 rfl (lv_at hl 0 rfl) ?_
      refine lv_iload_n hx hb dJ9_floorMod_7cf53_15 rfl (lv_at hl 2 rfl) ?_
      refine lv_iadd hx hb dJ9_floorMod_7cf53_16 ?_
      cases hf
      exact hend _ _ _ _ hH rfl dJ9_floorMod_7cf53_17
def rmJ0_coder_7d493 : Room := { frames := 0, cells := 0, slots := 0, locals := 0 }
theorem hd_J0_coder_7d493 : yJ0_coder_7d493.cls = RJ0 ∧ yJ0_coder_7d493.cls ≠ "java/lang/invoke/MethodHandle" ∧ yJ0_coder_7d493.cls ≠ "java/lang/invoke/VarHandle" ∧ (parseMethodDescriptor yJ0_coder_7d493.desc).map (fun d => d.parameters.length) = some 0 := by decide +kernel
set_option maxHeartbeats 4000000 in
set_option maxRecDepth 100000 in
theorem mJ0_coder_7d493 (l : Launch) (D : va_G) (ca : Gp) (w : va_W) {r : Int32} (hf : pJ0_coder_7d493  = some r) : Mi l yJ0_coder_7d493 wsJ0_coder_7d493 rmJ0_coder_7d493 D ca [.ref (ca.2.1 0)] (w) (w) r := by
  refine Mi_of (own := RJ0) (cc := cJ0_coder_7d493) (nL := 1) (ty := .byte) (by decide) rfl rfl rfl rfl (Nat.le_of_ble_eq_true rfl) ?_
  intro p e s m args below meth c Q A ls C0 hH hl hend
  obtain ⟨hx, hb, hml, hown, hts⟩ := id C0.1
  have hl : lv_has ls 1 [(0, .ref (ca.2.1 0))] := hl
  have J14 : ∀ (s0 : Int32) (H : Heap) (locs : List Loc) (ls : Array Slot), pJ0_coder_7d493_14 s0 = some r → HS D A s (w) H locs → lv_has ls 1 [] → W p l e rmJ0_coder_7d493 s m args below meth c H locs 0 0 Q (F0 m 14 ls [.int s0]) := by
    intro s0 H locs ls hf hH hl
    unfold pJ0_coder_7d493_14 at hf
    obtain ⟨hz, hf⟩ := gd hf
    cases hf
    exact hend _ _ _ _ hH (isz_nb hz) dJ0_coder_7d493_14
  unfold pJ0_coder_7d493 at hf
  refine va_gets hx hb C0.2.2.2.2.2.2.2.1 hH.2.2 hown (hts (.fieldLink RJ0 38 "java/lang/String" "COMPACT_STRINGS" "Z") (by decide +kernel)) (fun _ h9 => h9) dJ0_coder_7d493_0 ?_
  refine lv_if_eq (tgt := 13) hx hb dJ0_coder_7d493_3 (by decide) (fun c1 => ?_) (fun c1 => ?_)
  · rw [if_pos c1] at hf
    refine lv_iconst (v := 1) hx hb dJ0_coder_7d493_13 (by decide) ?_
    exact J14 _ _ _ _ hf hH (lv_sub hl [] rfl)
  · rw [if_neg c1] at hf
    refine lv_aload_n hx hb dJ0_coder_7d493_6 rfl (lv_at hl 0 rfl) ?_
    refine vk_getf hx hb (C0.2.2.2.2.2.2.2.2.2.1 0 (by decide)).2.1 hH.2.2 hown (hts (.fieldLink RJ0 15 "java/lang/String" "coder" "B") (by decide +kernel)) (fun _ h9 => h9) dJ0_coder_7d493_7 ?_
    refine lv_goto (tgt := 14) hx hb dJ0_coder_7d493_10 (by decide) ?_
    exact J14 _ _ _ _ hf hH (lv_sub hl [] rfl)
def rmJ0_isLatin1_aae02 : Room := { frames := 0, cells := 0, slots := 0, locals := 0 }
theorem hd_J0_isLatin1_aae02 : yJ0_isLatin1_aae02.cls = RJ0 ∧ yJ0_isLatin1_aae02.cls ≠ "java/lang/invoke/MethodHandle" ∧ yJ0_isLatin1_aae02.cls ≠ "java/lang/invoke/VarHandle" ∧ (parseMethodDescriptor yJ0_isLatin1_aae02.desc).map (fun d => d.parameters.length) = some 0 := by decide +kernel
set_option maxHeartbeats 4000000 in
set_option maxRecDepth 100000 in
theorem mJ0_isLatin1_aae02 (l : Launch) (D : va_G) (ca : Gp) (w : va_W) {r : Int32} (hf : pJ0_isLatin1_aae02  = some r) : Mi l yJ0_isLatin1_aae02 wsJ0_isLatin1_aae02 rmJ0_isLatin1_aae02 D ca [.ref (ca.2.1 0)] (w) (w) r := by
  refine Mi_of (own := RJ0) (cc := cJ0_isLatin1_aae02) (nL := 1) (ty := .boolean) (by decide) rfl rfl rfl rfl (Nat.le_of_ble_eq_true rfl) ?_
  intro p e s m args below meth c Q A ls C0 hH hl hend
  obtain ⟨hx, hb, hml, hown, hts⟩ := id C0.1
  have hl : lv_has ls 1 [(0, .ref (ca.2.1 0))] := hl
  have J18 : ∀ (s0 : Int32) (H : Heap) (locs : List Loc) (ls : Array Slot), pJ0_isLatin1_aae02_18 s0 = some r → HS D A s (w) H locs → lv_has ls 1 [] → W p l e rmJ0_isLatin1_aae02 s m args below meth c H locs 0 0 Q (F0 m 18 ls [.int s0]) := by
    intro s0 H locs ls hf hH hl
    unfold pJ0_isLatin1_aae02_18 at hf
    obtain ⟨hz, hf⟩ := gd hf
    cases hf
    exact hend _ _ _ _ hH (isz_n hz) dJ0_isLatin1_aae02_18
  have J17 : ∀ (H : Heap) (locs : List Loc) (ls : Array Slot), pJ0_isLatin1_aae02_17  = some r → HS D A s (w) H locs → lv_has ls 1 [] → W p l e rmJ0_isLatin1_aae02 s m args below meth c H locs 0 0 Q (F0 m 17 ls []) := by
    intro H locs ls hf hH hl
    unfold pJ0_isLatin1_aae02_17 at hf
    refine lv_iconst (v := 0) hx hb dJ0_isLatin1_aae02_17 (by decide) ?_
    exact J18 _ _ _ _ hf hH (lv_sub hl [] rfl)
  unfold pJ0_isLatin1_aae02 at hf
  refine va_gets hx hb C0.2.2.2.2.2.2.2.1 hH.2.2 hown (hts (.fieldLink RJ0 38 "java/lang/String" "COMPACT_STRINGS" "Z") (by decide +kernel)) (fun _ h9 => h9) dJ0_isLatin1_aae02_0 ?_
  refine lv_if_eq (tgt := 17) hx hb dJ0_isLatin1_aae02_3 (by decide) (fun c1 => ?_) (fun c1 => ?_)
  · rw [if_pos c1] at hf
    exact J17 _ _ _ hf hH (lv_sub hl [] rfl)
  · rw [if_neg c1] at hf
    refine lv_aload_n hx hb dJ0_isLatin1_aae02_6 rfl (lv_at hl 0 rfl) ?_
    refine vk_getf hx hb (C0.2.2.2.2.2.2.2.2.2.1 0 (by decide)).2.1 hH.2.2 hown (hts (.fieldLink RJ0 15 "java/lang/String" "coder" "B") (by decide +kernel)) (fun _ h9 => h9) dJ0_isLatin1_aae02_7 ?_
    refine lv_if_ne (tgt := 17) hx hb dJ0_isLatin1_aae02_10 (by decide) (fun c2 => ?_) (fun c2 => ?_)
    · rw [if_neg c2] at hf
      exact J17 _ _ _ hf hH (lv_sub hl [] rfl)
    · rw [if_pos c2] at hf
      refine lv_iconst (v := 1) hx hb dJ0_isLatin1_aae02_13 (by decide) ?_
      refine lv_goto (tgt := 18) hx hb dJ0_isLatin1_aae02_14 (by decide) ?_
      exact J18 _ _ _ _ hf hH (lv_sub hl [] rfl)
def rmJ0_length_8abf5 : Room := { frames := 1, cells := 0, slots := 0, locals := 20 }
theorem hd_J0_length_8abf5 : yJ0_length_8abf5.cls = RJ0 ∧ yJ0_length_8abf5.cls ≠ "java/lang/invoke/MethodHandle" ∧ yJ0_length_8abf5.cls ≠ "java/lang/invoke/VarHandle" ∧ (parseMethodDescriptor yJ0_length_8abf5.desc).map (fun d => d.parameters.length) = some 0 := by decide +kernel
set_option maxHeartbeats 4000000 in
set_option maxRecDepth 100000 in
theorem mJ0_length_8abf5 (l : Launch) (D : va_G) (ca : Gp) (w : va_W) {r : Int32} (hf : pJ0_length_8abf5  = some r) : Mi l yJ0_length_8abf5 wsJ0_length_8abf5 rmJ0_length_8abf5 D ca [.ref (ca.2.1 0)] (w) (w) r := by
  refine Mi_of (own := RJ0) (cc := cJ0_length_8abf5) (nL := 1) (ty := .int) (by decide) rfl rfl rfl rfl (Nat.le_of_ble_eq_true rfl) ?_
  intro p e s m args below meth c Q A ls C0 hH hl hend
  obtain ⟨hx, hb, hml, hown, hts⟩ := id C0.1
  have hl : lv_has ls 1 [(0, .ref (ca.2.1 0))] := hl
  unfold pJ0_length_8abf5 at hf
  refine lv_aload_n hx hb dJ0_length_8abf5_0 rfl (lv_at hl 0 rfl) ?_
  refine vk_getf hx hb (C0.2.2.2.2.2.2.2.2.2.1 0 (by decide)).2.2.1 hH.2.2 hown (hts (.fieldLink RJ0 9 "java/lang/String" "value" "[B") (by decide +kernel)) (fun _ h9 => h9) dJ0_length_8abf5_1 ?_
  refine va_tlen (v := 6) hx hb (C0.2.2.2.2.2.2.2.2.2.1 0 (by decide)).2.2.2 hH.2.2 rfl dJ0_length_8abf5_4 ?_
  refine lv_aload_n hx hb dJ0_length_8abf5_5 rfl (lv_at hl 0 rfl) ?_
  obtain ⟨y1, h_y1, hf⟩ := bnd hf
  refine cl_iV C0 hH hl.1 (As := []) (rest := [.int 6]) (mJ0_coder_7d493 l D ca (w) h_y1) gJ0_length_8abf5_J0_coder_7d493 rfl rfl rfl hd_J0_coder_7d493 ⟨Nat.le_of_ble_eq_true rfl, Nat.le_of_ble_eq_true rfl⟩ ⟨Nat.zero_le _, Nat.zero_le _⟩ (vC_str C0 hH) rfl (Nat.le_of_ble_eq_true rfl) dJ0_length_8abf5_6 (fun H locs hH => ?_)
  refine lv_ishr hx hb dJ0_length_8abf5_9 ?_
  cases hf
  exact hend _ _ _ _ hH rfl dJ0_length_8abf5_10
def rmJ1_canEncode_9a6ad : Room := { frames := 0, cells := 0, slots := 0, locals := 0 }
theorem hd_J1_canEncode_9a6ad : yJ1_canEncode_9a6ad.cls ≠ "java/lang/invoke/MethodHandle" ∧ yJ1_canEncode_9a6ad.cls ≠ "java/lang/invoke/VarHandle" ∧ (parseMethodDescriptor yJ1_canEncode_9a6ad.desc).map (fun d => d.parameters.length) = some 1 := by decide +kernel
set_option maxHeartbeats 4000000 in
set_option maxRecDepth 100000 in
theorem mJ1_canEncode_9a6ad (l : Launch) (D : va_G) (ca : Gp) (w : va_W) (x0 : Int32) {r : Int32} (hf : pJ1_canEncode_9a6ad x0 = some r) : Mi l yJ1_canEncode_9a6ad wsJ1_canEncode_9a6ad rmJ1_canEncode_9a6ad D ca [.int x0] (w) (w) r := by
  refine Mi_of (own := RJ1) (cc := cJ1_canEncode_9a6ad) (nL := 1) (ty := .boolean) (by decide) rfl rfl rfl rfl (Nat.le_of_ble_eq_true rfl) ?_
  intro p e s m args below meth c Q A ls C0 hH hl hend
  obtain ⟨hx, hb, hml, hown, hts⟩ := id C0.1
  have hl : lv_has ls 1 [(0, .int x0)] := hl
  have J16 : ∀ (s0 : Int32) (H : Heap) (locs : List Loc) (ls : Array Slot), pJ1_canEncode_9a6ad_16 s0 = some r → HS D A s (w) H locs → lv_has ls 1 [] → W p l e rmJ1_canEncode_9a6ad s m args below meth c H locs 0 0 Q (F0 m 16 ls [.int s0]) := by
    intro s0 H locs ls hf hH hl
    unfold pJ1_canEncode_9a6ad_16 at hf
    obtain ⟨hz, hf⟩ := gd hf
    cases hf
    exact hend _ _ _ _ hH (isz_n hz) dJ1_canEncode_9a6ad_16
  have J15 : ∀ (H : Heap) (locs : List Loc) (ls : Array Slot), pJ1_canEncode_9a6ad_15  = some r → HS D A s (w) H locs → lv_has ls 1 [] → W p l e rmJ1_canEncode_9a6ad s m args below meth c H locs 0 0 Q (F0 m 15 ls []) := by
    intro H locs ls hf hH hl
    unfold pJ1_canEncode_9a6ad_15 at hf
    refine lv_iconst (v := 0) hx hb dJ1_canEncode_9a6ad_15 (by decide) ?_
    exact J16 _ _ _ _ hf hH (lv_sub hl [] rfl)
  unfold pJ1_canEncode_9a6ad at hf
  refine lv_iload_n hx hb dJ1_canEncode_9a6ad_0 rfl (lv_at hl 0 rfl) ?_
  refine lv_if_lt (tgt := 15) hx hb dJ1_canEncode_9a6ad_1 (by decide) (fun c1 => ?_) (fun c1 => ?_)
  · rw [if_pos c1] at hf
    exact J15 _ _ _ hf hH (lv_sub hl [] rfl)
  · rw [if_neg c1] at hf
    refine lv_iload_n hx hb dJ1_canEncode_9a6ad_4 rfl (lv_at hl 0 rfl) ?_
    refine lv_sipush (v := 255) hx hb dJ1_canEncode_9a6ad_5 (by decide) ?_
    refine lv_icmp_gt (tgt := 15) hx hb dJ1_canEncode_9a6ad_8 (by decide) (fun c2 => ?_) (fun c2 => ?_)
    · rw [if_pos c2] at hf
      exact J15 _ _ _ hf hH (lv_sub hl [] rfl)
    · rw [if_neg c2] at hf
      refine lv_iconst (v := 1) hx hb dJ1_canEncode_9a6ad_11 (by decide) ?_
      refine lv_goto (tgt := 16) hx hb dJ1_canEncode_9a6ad_12 (by decide) ?_
      exact J16 _ _ _ _ hf hH (lv_sub hl [] rfl)
def rmJ1_indexOfChar_4cfef : Room := { frames := 0, cells := 0, slots := 0, locals := 0 }
theorem hd_J1_indexOfChar_4cfef : yJ1_indexOfChar_4cfef.cls ≠ "java/lang/invoke/MethodHandle" ∧ yJ1_indexOfChar_4cfef.cls ≠ "java/lang/invoke/VarHandle" ∧ (parseMethodDescriptor yJ1_indexOfChar_4cfef.desc).map (fun d => d.parameters.length) = some 4 := by decide +kernel
set_option maxHeartbeats 4000000 in
set_option maxRecDepth 100000 in
theorem mJ1_indexOfChar_4cfef (l : Launch) (D : va_G) (ca : Gp) (w : va_W) (x1 : Int32) (x2 : Int32) (x3 : Int32) {r : Int32} (hf : pJ1_indexOfChar_4cfef x1 x2 x3 = some r) : Mi l yJ1_indexOfChar_4cfef wsJ1_indexOfChar_4cfef rmJ1_indexOfChar_4cfef D ca [.ref (ca.2.2 0), .int x1, .int x2, .int x3] (w) (w) r := by
  refine Mi_of (own := RJ1) (cc := cJ1_indexOfChar_4cfef) (nL := 6) (ty := .int) (by decide) rfl rfl rfl rfl (Nat.le_of_ble_eq_true rfl) ?_
  intro p e s m args below meth c Q A ls C0 hH hl hend
  obtain ⟨hx, hb, hml, hown, hts⟩ := id C0.1
  have hl : lv_has ls 6 [(0, .ref (ca.2.2 0)), (1, .int x1), (2, .int x2), (3, .int x3)] := hl
  have J7 : ∀ (x3 : Int32) (x4 : Int32) (n : Nat) (x5 : Int32) (H : Heap) (locs : List Loc) (ls : Array Slot), pJ1_indexOfChar_4cfef_7 x3 x4 n x5 = some r → HS D A s (w) H locs → lv_has ls 6 [(0, .ref (ca.2.2 0)), (3, .int x3), (4, .int x4), (5, .int x5)] → W p l e rmJ1_indexOfChar_4cfef s m args below meth c H locs 0 0 Q (F0 m 7 ls []) := by
    intro x3 x4 n
    induction n with
    | zero => intro x5 H locs ls hf; cases hf
    | succ n ih =>
      intro x5 H locs ls hf hH hl
      have hf : pJ1_indexOfChar_4cfef_7b x3 x4 (pJ1_indexOfChar_4cfef_7 x3 x4 n) x5 = some r := hf
      unfold pJ1_indexOfChar_4cfef_7b at hf
      refine lv_iload hx hb dJ1_indexOfChar_4cfef_7 (lv_at hl 3 rfl) ?_
      refine lv_iload_n hx hb dJ1_indexOfChar_4cfef_9 rfl (lv_at hl 1 rfl) ?_
      refine lv_icmp_ge (tgt := 31) hx hb dJ1_indexOfChar_4cfef_10 (by decide) (fun c101 => ?_) (fun c101 => ?_)
      · rw [if_pos c101] at hf
        refine lv_iconst (v := (-1)) hx hb dJ1_indexOfChar_4cfef_31 (by decide) ?_
        cases hf
        exact hend _ _ _ _ hH rfl dJ1_indexOfChar_4cfef_32
      · rw [if_neg c101] at hf
        refine lv_aload_n hx hb dJ1_indexOfChar_4cfef_13 rfl (lv_at hl 0 rfl) ?_
        refine lv_iload hx hb dJ1_indexOfChar_4cfef_14 (lv_at hl 3 rfl) ?_
        obtain ⟨y102, h_y102, hf⟩ := bnd hf
        refine lC C0 hH h_y102 dJ1_indexOfChar_4cfef_16 ?_
        refine lv_iload hx hb dJ1_indexOfChar_4cfef_17 (lv_at hl 2 rfl) ?_
        refine lv_icmp_ne (tgt := 25) hx hb dJ1_indexOfChar_4cfef_19 (by decide) (fun c103 => ?_) (fun c103 => ?_)
        · rw [if_neg c103] at hf
          refine lv_iinc (v := (x5 + 1)) (lv' := [(5, .int (x5 + 1)), (0, .ref (ca.2.2 0)), (3, .int x3), (4, .int x4)]) hx hb dJ1_indexOfChar_4cfef_25 hl (k := 3) rfl rfl (by decide) rfl (fun ls hl => ?_)
          refine lv_goto (tgt := 7) hx hb dJ1_indexOfChar_4cfef_28 (by decide) ?_
          exact ih _ _ _ _ hf hH (lv_sub hl [1, 2, 3, 0] rfl)
        · rw [if_pos c103] at hf
          refine lv_iload hx hb dJ1_indexOfChar_4cfef_22 (lv_at hl 3 rfl) ?_
          cases hf
          exact hend _ _ _ _ hH rfl dJ1_indexOfChar_4cfef_24
  unfold pJ1_indexOfChar_4cfef at hf
  refine lv_iload_n hx hb dJ1_indexOfChar_4cfef_0 rfl (lv_at hl 1 rfl) ?_
  refine lv_i2b (v := x1.toInt8.toInt32) hx hb dJ1_indexOfChar_4cfef_1 rfl ?_
  refine lv_istore (lv' := [(4, .int x1.toInt8.toInt32), (0, .ref (ca.2.2 0)), (1, .int x1), (2, .int x2), (3, .int x3)]) hx hb dJ1_indexOfChar_4cfef_2 hl (by decide) rfl (fun ls hl => ?_)
  refine lv_iload_n hx hb dJ1_indexOfChar_4cfef_4 rfl (lv_at hl 3 rfl) ?_
  refine lv_istore (lv' := [(5, .int x2), (4, .int x1.toInt8.toInt32), (0, .ref (ca.2.2 0)), (1, .int x1), (2, .int x2), (3, .int x3)]) hx hb dJ1_indexOfChar_4cfef_5 hl (by decide) rfl (fun ls hl => ?_)
  exact J7 _ _ FU _ _ _ _ hf hH (lv_sub hl [2, 5, 1, 0] rfl)
def rmJ1_indexOf_4cfef : Room := { frames := 1, cells := 0, slots := 0, locals := 25 }
theorem hd_J1_indexOf_4cfef : yJ1_indexOf_4cfef.cls ≠ "java/lang/invoke/MethodHandle" ∧ yJ1_indexOf_4cfef.cls ≠ "java/lang/invoke/VarHandle" ∧ (parseMethodDescriptor yJ1_indexOf_4cfef.desc).map (fun d => d.parameters.length) = some 4 := by decide +kernel
set_option maxHeartbeats 4000000 in
set_option maxRecDepth 100000 in
theorem mJ1_indexOf_4cfef (l : Launch) (D : va_G) (ca : Gp) (w : va_W) (x1 : Int32) (x2 : Int32) (x3 : Int32) {r : Int32} (hf : pJ1_indexOf_4cfef x1 x2 x3 = some r) : Mi l yJ1_indexOf_4cfef wsJ1_indexOf_4cfef rmJ1_indexOf_4cfef D ca [.ref (ca.2.2 0), .int x1, .int x2, .int x3] (w) (w) r := by
  refine Mi_of (own := RJ1) (cc := cJ1_indexOf_4cfef) (nL := 4) (ty := .int) (by decide) rfl rfl rfl rfl (Nat.le_of_ble_eq_true rfl) ?_
  intro p e s m args below meth c Q A ls C0 hH hl hend
  obtain ⟨hx, hb, hml, hown, hts⟩ := id C0.1
  have hl : lv_has ls 4 [(0, .ref (ca.2.2 0)), (1, .int x1), (2, .int x2), (3, .int x3)] := hl
  unfold pJ1_indexOf_4cfef at hf
  refine lv_iload_n hx hb dJ1_indexOf_4cfef_0 rfl (lv_at hl 1 rfl) ?_
  obtain ⟨y1, h_y1, hf⟩ := bnd hf
  refine cl_iS C0 hH hl.1 (As := [.int x1]) (rest := []) (mJ1_canEncode_9a6ad l D ca (w) x1 h_y1) gJ1_indexOf_4cfef_J1_canEncode_9a6ad rfl rfl rfl hd_J1_canEncode_9a6ad ⟨Nat.le_of_ble_eq_true rfl, Nat.le_of_ble_eq_true rfl⟩ ⟨Nat.zero_le _, Nat.zero_le _⟩ rfl (Nat.le_of_ble_eq_true rfl) dJ1_indexOf_4cfef_1 (fun H locs hH => ?_)
  refine lv_if_ne (tgt := 9) hx hb dJ1_indexOf_4cfef_4 (by decide) (fun c2 => ?_) (fun c2 => ?_)
  · rw [if_neg c2] at hf
    refine lv_iload_n hx hb dJ1_indexOf_4cfef_9 rfl (lv_at hl 2 rfl) ?_
    refine lv_iconst (v := 0) hx hb dJ1_indexOf_4cfef_10 (by decide) ?_
    refine va_mmax hx hb (C0.1.2.2.1.trans hl.1.symm) hown (hts (.methodLink RJ1 92 Lib.Math.max.name) (by decide +kernel)) (hts (.static Lib.Math.max.name) (by decide +kernel)) (hts (.initialized "java/lang/Math") (by decide +kernel)) (hts (.code Lib.Math.max.name Lib.Math.max.code 2 (some .int)) (by decide +kernel)) (Nat.le_of_ble_eq_true rfl) (Nat.le_of_ble_eq_true rfl) (Nat.zero_le _) (Nat.zero_le _) dJ1_indexOf_4cfef_11 ?_
    refine lv_istore_n (lv' := [(2, .int (if x2 < 0 then 0 else x2)), (0, .ref (ca.2.2 0)), (1, .int x1), (3, .int x3)]) hx hb dJ1_indexOf_4cfef_14 rfl hl (by decide) rfl (fun ls hl => ?_)
    refine lv_iload_n hx hb dJ1_indexOf_4cfef_15 rfl (lv_at hl 3 rfl) ?_
    refine lv_aload_n hx hb dJ1_indexOf_4cfef_16 rfl (lv_at hl 1 rfl) ?_
    refine va_tlen (v := 6) hx hb (C0.2.2.2.2.2.2.2.2.2.1 0 (by decide)).2.2.2 hH.2.2 rfl dJ1_indexOf_4cfef_17 ?_
    refine va_mmin hx hb (C0.1.2.2.1.trans hl.1.symm) hown (hts (.methodLink RJ1 38 Lib.Math.min.name) (by decide +kernel)) (hts (.static Lib.Math.min.name) (by decide +kernel)) (hts (.initialized "java/lang/Math") (by decide +kernel)) (hts (.code Lib.Math.min.name Lib.Math.min.code 2 (some .int)) (by decide +kernel)) (Nat.le_of_ble_eq_true rfl) (Nat.le_of_ble_eq_true rfl) (Nat.zero_le _) (Nat.zero_le _) dJ1_indexOf_4cfef_18 ?_
    refine lv_istore_n (lv' := [(3, .int (if 6 < x3 then 6 else x3)), (2, .int (if x2 < 0 then 0 else x2)), (0, .ref (ca.2.2 0)), (1, .int x1)]) hx hb dJ1_indexOf_4cfef_21 rfl hl (by decide) rfl (fun ls hl => ?_)
    refine lv_iload_n hx hb dJ1_indexOf_4cfef_22 rfl (lv_at hl 1 rfl) ?_
    refine lv_iload_n hx hb dJ1_indexOf_4cfef_23 rfl (lv_at hl 0 rfl) ?_
    refine lv_icmp_lt (tgt := 29) hx hb dJ1_indexOf_4cfef_24 (by decide) (fun c3 => ?_) (fun c3 => ?_)
    · rw [if_pos c3] at hf
      refine lv_aload_n hx hb dJ1_indexOf_4cfef_29 rfl (lv_at hl 2 rfl) ?_
      refine lv_iload_n hx hb dJ1_indexOf_4cfef_30 rfl (lv_at hl 3 rfl) ?_
      refine lv_iload_n hx hb dJ1_indexOf_4cfef_31 rfl (lv_at hl 1 rfl) ?_
      refine lv_iload_n hx hb dJ1_indexOf_4cfef_32 rfl (lv_at hl 0 rfl) ?_
      obtain ⟨y4, h_y4, hf⟩ := bnd hf
      refine cl_iS C0 hH hl.1 (As := [.ref (ca.2.2 0), .int x1, .int (if x2 < 0 then 0 else x2), .int (if 6 < x3 then 6 else x3)]) (rest := []) (mJ1_indexOfChar_4cfef l D ca (w) x1 (if x2 < 0 then 0 else x2) (if 6 < x3 then 6 else x3) h_y4) gJ1_indexOf_4cfef_J1_indexOfChar_4cfef rfl rfl rfl hd_J1_indexOfChar_4cfef ⟨Nat.le_of_ble_eq_true rfl, Nat.le_of_ble_eq_true rfl⟩ ⟨Nat.zero_le _, Nat.zero_le _⟩ rfl (Nat.le_of_ble_eq_true rfl) dJ1_indexOf_4cfef_33 (fun H locs hH => ?_)
      cases hf
      exact hend _ _ _ _ hH rfl dJ1_indexOf_4cfef_36
    · rw [if_neg c3] at hf
      refine lv_iconst (v := (-1)) hx hb dJ1_indexOf_4cfef_27 (by decide) ?_
      cases hf
      exact hend _ _ _ _ hH rfl dJ1_indexOf_4cfef_28
  · rw [if_pos c2] at hf
    refine lv_iconst (v := (-1)) hx hb dJ1_indexOf_4cfef_7 (by decide) ?_
    cases hf
    exact hend _ _ _ _ hH rfl dJ1_indexOf_4cfef_8
def rmJ0_indexOf_7cf53 : Room := { frames := 2, cells := 0, slots := 0, locals := 48 }
theorem hd_J0_indexOf_7cf53 : yJ0_indexOf_7cf53.cls = RJ0 ∧ yJ0_indexOf_7cf53.cls ≠ "java/lang/invoke/MethodHandle" ∧ yJ0_indexOf_7cf53.cls ≠ "java/lang/invoke/VarHandle" ∧ (parseMethodDescriptor yJ0_indexOf_7cf53.desc).map (fun d => d.parameters.length) = some 2 := by decide +kernel
set_option maxHeartbeats 4000000 in
set_option maxRecDepth 100000 in
theorem mJ0_indexOf_7cf53 (l : Launch) (D : va_G) (ca : Gp) (w : va_W) (x1 : Int32) (x2 : Int32) {r : Int32} (hf : pJ0_indexOf_7cf53 x1 x2 = some r) : Mi l yJ0_indexOf_7cf53 wsJ0_indexOf_7cf53 rmJ0_indexOf_7cf53 D ca [.ref (ca.2.1 0), .int x1, .int x2] (w) (w) r := by
  refine Mi_of (own := RJ0) (cc := cJ0_indexOf_7cf53) (nL := 3) (ty := .int) (by decide) rfl rfl rfl rfl (Nat.le_of_ble_eq_true rfl) ?_
  intro p e s m args below meth c Q A ls C0 hH hl hend
  obtain ⟨hx, hb, hml, hown, hts⟩ := id C0.1
  have hl : lv_has ls 3 [(0, .ref (ca.2.1 0)), (1, .int x1), (2, .int x2)] := hl
  unfold pJ0_indexOf_7cf53 at hf
  refine lv_aload_n hx hb dJ0_indexOf_7cf53_0 rfl (lv_at hl 0 rfl) ?_
  obtain ⟨y1, h_y1, hf⟩ := bnd hf
  refine cl_iV C0 hH hl.1 (As := []) (rest := []) (mJ0_isLatin1_aae02 l D ca (w) h_y1) gJ0_indexOf_7cf53_J0_isLatin1_aae02 rfl rfl rfl hd_J0_isLatin1_aae02 ⟨Nat.le_of_ble_eq_true rfl, Nat.le_of_ble_eq_true rfl⟩ ⟨Nat.zero_le _, Nat.zero_le _⟩ (vC_str C0 hH) rfl (Nat.le_of_ble_eq_true rfl) dJ0_indexOf_7cf53_1 (fun H locs hH => ?_)
  refine lv_if_eq (tgt := 23) hx hb dJ0_indexOf_7cf53_4 (by decide) (fun c2 => ?_) (fun c2 => ?_)
  · rw [if_pos c2] at hf
    cases hf
  · rw [if_neg c2] at hf
    refine lv_aload_n hx hb dJ0_indexOf_7cf53_7 rfl (lv_at hl 0 rfl) ?_
    refine vk_getf hx hb (C0.2.2.2.2.2.2.2.2.2.1 0 (by decide)).2.2.1 hH.2.2 hown (hts (.fieldLink RJ0 9 "java/lang/String" "value" "[B") (by decide +kernel)) (fun _ h9 => h9) dJ0_indexOf_7cf53_8 ?_
    refine lv_iload_n hx hb dJ0_indexOf_7cf53_11 rfl (lv_at hl 1 rfl) ?_
    refine lv_iload_n hx hb dJ0_indexOf_7cf53_12 rfl (lv_at hl 2 rfl) ?_
    refine lv_aload_n hx hb dJ0_indexOf_7cf53_13 rfl (lv_at hl 0 rfl) ?_
    obtain ⟨y3, h_y3, hf⟩ := bnd hf
    refine cl_iV C0 hH hl.1 (As := []) (rest := [.int x2, .int x1, .ref (ca.2.2 0)]) (mJ0_length_8abf5 l D ca (w) h_y3) gJ0_indexOf_7cf53_J0_length_8abf5 rfl rfl rfl hd_J0_length_8abf5 ⟨Nat.le_of_ble_eq_true rfl, Nat.le_of_ble_eq_true rfl⟩ ⟨Nat.zero_le _, Nat.zero_le _⟩ (vC_str C0 hH) rfl (Nat.le_of_ble_eq_true rfl) dJ0_indexOf_7cf53_14 (fun H locs hH => ?_)
    obtain ⟨y4, h_y4, hf⟩ := bnd hf
    refine cl_iS C0 hH hl.1 (As := [.ref (ca.2.2 0), .int x1, .int x2, .int y3]) (rest := []) (mJ1_indexOf_4cfef l D ca (w) x1 x2 y3 h_y4) gJ0_indexOf_7cf53_J1_indexOf_4cfef rfl rfl rfl hd_J1_indexOf_4cfef ⟨Nat.le_of_ble_eq_true rfl, Nat.le_of_ble_eq_true rfl⟩ ⟨Nat.zero_le _, Nat.zero_le _⟩ rfl (Nat.le_of_ble_eq_true rfl) dJ0_indexOf_7cf53_17 (fun H locs hH => ?_)
    refine lv_goto (tgt := 36) hx hb dJ0_indexOf_7cf53_20 (by decide) ?_
    cases hf
    exact hend _ _ _ _ hH rfl dJ0_indexOf_7cf53_36
def rmJ0_indexOf_0f7a4 : Room := { frames := 3, cells := 0, slots := 0, locals := 70 }
theorem hd_J0_indexOf_0f7a4 : yJ0_indexOf_0f7a4.cls = RJ0 ∧ yJ0_indexOf_0f7a4.cls ≠ "java/lang/invoke/MethodHandle" ∧ yJ0_indexOf_0f7a4.cls ≠ "java/lang/invoke/VarHandle" ∧ (parseMethodDescriptor yJ0_indexOf_0f7a4.desc).map (fun d => d.parameters.length) = some 1 := by decide +kernel
set_option maxHeartbeats 4000000 in
set_option maxRecDepth 100000 in
theorem mJ0_indexOf_0f7a4 (l : Launch) (D : va_G) (ca : Gp) (w : va_W) (x1 : Int32) {r : Int32} (hf : pJ0_indexOf_0f7a4 x1 = some r) : Mi l yJ0_indexOf_0f7a4 wsJ0_indexOf_0f7a4 rmJ0_indexOf_0f7a4 D ca [.ref (ca.2.1 0), .int x1] (w) (w) r := by
  refine Mi_of (own := RJ0) (cc := cJ0_indexOf_0f7a4) (nL := 2) (ty := .int) (by decide) rfl rfl rfl rfl (Nat.le_of_ble_eq_true rfl) ?_
  intro p e s m args below meth c Q A ls C0 hH hl hend
  obtain ⟨hx, hb, hml, hown, hts⟩ := id C0.1
  have hl : lv_has ls 2 [(0, .ref (ca.2.1 0)), (1, .int x1)] := hl
  unfold pJ0_indexOf_0f7a4 at hf
  refine lv_aload_n hx hb dJ0_indexOf_0f7a4_0 rfl (lv_at hl 0 rfl) ?_
  refine lv_iload_n hx hb dJ0_indexOf_0f7a4_1 rfl (lv_at hl 1 rfl) ?_
  refine lv_iconst (v := 0) hx hb dJ0_indexOf_0f7a4_2 (by decide) ?_
  obtain ⟨y1, h_y1, hf⟩ := bnd hf
  refine cl_iV C0 hH hl.1 (As := [.int x1, .int 0]) (rest := []) (mJ0_indexOf_7cf53 l D ca (w) x1 0 h_y1) gJ0_indexOf_0f7a4_J0_indexOf_7cf53 rfl rfl rfl hd_J0_indexOf_7cf53 ⟨Nat.le_of_ble_eq_true rfl, Nat.le_of_ble_eq_true rfl⟩ ⟨Nat.zero_le _, Nat.zero_le _⟩ (vC_str C0 hH) rfl (Nat.le_of_ble_eq_true rfl) dJ0_indexOf_0f7a4_3 (fun H locs hH => ?_)
  cases hf
  exact hend _ _ _ _ hH rfl dJ0_indexOf_0f7a4_6
def rmX3_append : Room := { frames := 0, cells := 0, slots := 0, locals := 0 }
theorem hd_X3_append : yX3_append.cls = RX3 ∧ yX3_append.cls ≠ "java/lang/invoke/MethodHandle" ∧ yX3_append.cls ≠ "java/lang/invoke/VarHandle" ∧ (parseMethodDescriptor yX3_append.desc).map (fun d => d.parameters.length) = some 1 := by decide +kernel
theorem inX3_append_X3 : ∀ w ∈ wsX30, w ∈ wsX3_append := by decide +kernel
set_option maxHeartbeats 4000000 in
set_option maxRecDepth 100000 in
theorem mX3_append (l : Launch) (D : va_G) (ca : Gp) (a : Nat → Nat) (wr : va_W) (u : Mem) (x1 : Int32) {u9 : Mem} (hf : pX3_append u x1 = some u9) : Mv l yX3_append wsX3_append rmX3_append D ca [.ref (a 0), .int x1] (tW a ca u ++ wr) (tW a ca u9 ++ wr) := by
  refine Mv_of (own := RX3) (cc := cX3_append) (nL := 2) (by decide) rfl rfl rfl rfl (Nat.le_of_ble_eq_true rfl) ?_
  intro p e s m args below meth c Q A ls C0 hH hl hend
  obtain ⟨hx, hb, hml, hown, hts⟩ := id C0.1
  have hl : lv_has ls 2 [(0, .ref (a 0)), (1, .int x1)] := hl
  have J36 : ∀ (u : Mem) (H : Heap) (locs : List Loc) (ls : Array Slot), pX3_append_36 u = some u9 → HS D A s (tW a ca u ++ wr) H locs → lv_has ls 2 [] → W p l e rmX3_append s m args below meth c H locs 0 0 Q (F0 m 36 ls []) := by
    intro u H locs ls hf hH hl
    unfold pX3_append_36 at hf
    cases hf
    exact hend _ _ _ _ hH dX3_append_36
  unfold pX3_append at hf
  refine lv_aload_n hx hb dX3_append_0 rfl (lv_at hl 0 rfl) ?_
  refine gT_X3_length C0 hH inX3_append_X3 (by decide +kernel : Cond.fieldLink RX3 15 "GatheringCache$Text" "length" "I" ∈ wsX3_append) dX3_append_1 ?_
  refine lv_if_lt (tgt := 36) hx hb dX3_append_4 (by decide) (fun c1 => ?_) (fun c1 => ?_)
  · rw [if_pos c1] at hf
    exact J36 _ _ _ _ hf hH (lv_sub hl [] rfl)
  · rw [if_neg c1] at hf
    refine lv_aload_n hx hb dX3_append_7 rfl (lv_at hl 0 rfl) ?_
    refine gT_X3_length C0 hH inX3_append_X3 (by decide +kernel : Cond.fieldLink RX3 15 "GatheringCache$Text" "length" "I" ∈ wsX3_append) dX3_append_8 ?_
    refine lv_bipush (v := 80) hx hb dX3_append_11 (by decide) ?_
    refine lv_icmp_ge (tgt := 36) hx hb dX3_append_13 (by decide) (fun c2 => ?_) (fun c2 => ?_)
    · rw [if_pos c2] at hf
      exact J36 _ _ _ _ hf hH (lv_sub hl [] rfl)
    · rw [if_neg c2] at hf
      refine lv_aload_n hx hb dX3_append_16 rfl (lv_at hl 0 rfl) ?_
      refine gT_X3_characters C0 hH inX3_append_X3 (by decide +kernel : Cond.fieldLink RX3 9 "GatheringCache$Text" "characters" "[C" ∈ wsX3_append) dX3_append_17 ?_
      refine lv_aload_n hx hb dX3_append_20 rfl (lv_at hl 0 rfl) ?_
      refine gT_X3_length C0 hH inX3_append_X3 (by decide +kernel : Cond.fieldLink RX3 15 "GatheringCache$Text" "length" "I" ∈ wsX3_append) dX3_append_21 ?_
      refine lv_iload_n hx hb dX3_append_24 rfl (lv_at hl 1 rfl) ?_
      obtain ⟨u3, h_u3, hf⟩ := bnd hf
      refine sT_characters C0 hH h_u3 dX3_append_25 (fun H locs hH => ?_)
      refine lv_aload_n hx hb dX3_append_26 rfl (lv_at hl 0 rfl) ?_
      refine lv_dup hx hb dX3_append_27 rfl ?_
      refine gT_X3_length C0 hH inX3_append_X3 (by decide +kernel : Cond.fieldLink RX3 15 "GatheringCache$Text" "length" "I" ∈ wsX3_append) dX3_append_28 ?_
      refine lv_iconst (v := 1) hx hb dX3_append_31 (by decide) ?_
      refine lv_iadd hx hb dX3_append_32 ?_
      obtain ⟨u4, h_u4, hf⟩ := bnd hf
      refine pT_X3_length C0 hH inX3_append_X3 h_u4 (by decide +kernel : Cond.fieldLink RX3 15 "GatheringCache$Text" "length" "I" ∈ wsX3_append) dX3_append_33 (fun H locs hH => ?_)
      exact J36 _ _ _ _ hf hH (lv_sub hl [] rfl)
def rmX3_rewind : Room := { frames := 0, cells := 0, slots := 0, locals := 0 }
theorem hd_X3_rewind : yX3_rewind.cls = RX3 ∧ yX3_rewind.cls ≠ "java/lang/invoke/MethodHandle" ∧ yX3_rewind.cls ≠ "java/lang/invoke/VarHandle" ∧ (parseMethodDescriptor yX3_rewind.desc).map (fun d => d.parameters.length) = some 0 := by decide +kernel
theorem inX3_rewind_X3 : ∀ w ∈ wsX30, w ∈ wsX3_rewind := by decide +kernel
set_option maxHeartbeats 4000000 in
set_option maxRecDepth 100000 in
theorem mX3_rewind (l : Launch) (D : va_G) (ca : Gp) (a : Nat → Nat) (wr : va_W) (u : Mem) {u9 : Mem} (hf : pX3_rewind u = some u9) : Mv l yX3_rewind wsX3_rewind rmX3_rewind D ca [.ref (a 0)] (tW a ca u ++ wr) (tW a ca u9 ++ wr) := by
  refine Mv_of (own := RX3) (cc := cX3_rewind) (nL := 1) (by decide) rfl rfl rfl rfl (Nat.le_of_ble_eq_true rfl) ?_
  intro p e s m args below meth c Q A ls C0 hH hl hend
  obtain ⟨hx, hb, hml, hown, hts⟩ := id C0.1
  have hl : lv_has ls 1 [(0, .ref (a 0))] := hl
  unfold pX3_rewind at hf
  refine lv_aload_n hx hb dX3_rewind_0 rfl (lv_at hl 0 rfl) ?_
  refine lv_iconst (v := 0) hx hb dX3_rewind_1 (by decide) ?_
  obtain ⟨u1, h_u1, hf⟩ := bnd hf
  refine pT_X3_cursor C0 hH inX3_rewind_X3 h_u1 (by decide +kernel : Cond.fieldLink RX3 19 "GatheringCache$Text" "cursor" "I" ∈ wsX3_rewind) dX3_rewind_2 (fun H locs hH => ?_)
  cases hf
  exact hend _ _ _ _ hH dX3_rewind_5
def rmX3_nextSign : Room := { frames := 0, cells := 0, slots := 0, locals := 0 }
theorem hd_X3_nextSign : yX3_nextSign.cls = RX3 ∧ yX3_nextSign.cls ≠ "java/lang/invoke/MethodHandle" ∧ yX3_nextSign.cls ≠ "java/lang/invoke/VarHandle" ∧ (parseMethodDescriptor yX3_nextSign.desc).map (fun d => d.parameters.length) = some 0 := by decide +kernel
theorem inX3_nextSign_X3 : ∀ w ∈ wsX30, w ∈ wsX3_nextSign := by decide +kernel
set_option maxHeartbeats 4000000 in
set_option maxRecDepth 100000 in
theorem mX3_nextSign (l : Launch) (D : va_G) (ca : Gp) (a : Nat → Nat) (wr : va_W) (u : Mem) {r : Int32} (hf : pX3_nextSign u = some r) : Mi l yX3_nextSign wsX3_nextSign rmX3_nextSign D ca [.ref (a 0)] (tW a ca u ++ wr) (tW a ca u ++ wr) r := by
  refine Mi_of (own := RX3) (cc := cX3_nextSign) (nL := 2) (ty := .char) (by decide) rfl rfl rfl rfl (Nat.le_of_ble_eq_true rfl) ?_
  intro p e s m args below meth c Q A ls C0 hH hl hend
  obtain ⟨hx, hb, hml, hown, hts⟩ := id C0.1
  have hl : lv_has ls 2 [(0, .ref (a 0))] := hl
  have J50 : ∀ (s0 : Int32) (H : Heap) (locs : List Loc) (ls : Array Slot), pX3_nextSign_50 u s0 = some r → HS D A s (tW a ca u ++ wr) H locs → lv_has ls 2 [] → W p l e rmX3_nextSign s m args below meth c H locs 0 0 Q (F0 m 50 ls [.int s0]) := by
    intro s0 H locs ls hf hH hl
    unfold pX3_nextSign_50 at hf
    obtain ⟨hz, hf⟩ := gd hf
    cases hf
    exact hend _ _ _ _ hH (isch_n hz) dX3_nextSign_50
  have J32 : ∀ (s0 : Int32) (H : Heap) (locs : List Loc) (ls : Array Slot), pX3_nextSign_32 u s0 = some r → HS D A s (tW a ca u ++ wr) H locs → lv_has ls 2 [(0, .ref (a 0))] → W p l e rmX3_nextSign s m args below meth c H locs 0 0 Q (F0 m 32 ls [.int s0]) := by
    intro s0 H locs ls hf hH hl
    unfold pX3_nextSign_32 at hf
    refine lv_istore_n (lv' := [(1, .int s0), (0, .ref (a 0))]) hx hb dX3_nextSign_32 rfl hl (by decide) rfl (fun ls hl => ?_)
    refine lv_iload_n hx hb dX3_nextSign_33 rfl (lv_at hl 0 rfl) ?_
    refine lv_if_eq (tgt := 49) hx hb dX3_nextSign_34 (by decide) (fun c201 => ?_) (fun c201 => ?_)
    · rw [if_pos c201] at hf
      refine lv_iconst (v := 0) hx hb dX3_nextSign_49 (by decide) ?_
      exact J50 _ _ _ _ hf hH (lv_sub hl [] rfl)
    · rw [if_neg c201] at hf
      refine lv_aload_n hx hb dX3_nextSign_37 rfl (lv_at hl 1 rfl) ?_
      refine gT_X3_characters C0 hH inX3_nextSign_X3 (by decide +kernel : Cond.fieldLink RX3 9 "GatheringCache$Text" "characters" "[C" ∈ wsX3_nextSign) dX3_nextSign_38 ?_
      refine lv_aload_n hx hb dX3_nextSign_41 rfl (lv_at hl 1 rfl) ?_
      refine gT_X3_cursor C0 hH inX3_nextSign_X3 (by decide +kernel : Cond.fieldLink RX3 19 "GatheringCache$Text" "cursor" "I" ∈ wsX3_nextSign) dX3_nextSign_42 ?_
      obtain ⟨y202, h_y202, hf⟩ := bnd hf
      refine lT_characters C0 hH h_y202 dX3_nextSign_45 ?_
      refine lv_goto (tgt := 50) hx hb dX3_nextSign_46 (by decide) ?_
      exact J50 _ _ _ _ hf hH (lv_sub hl [] rfl)
  have J31 : ∀ (H : Heap) (locs : List Loc) (ls : Array Slot), pX3_nextSign_31 u  = some r → HS D A s (tW a ca u ++ wr) H locs → lv_has ls 2 [(0, .ref (a 0))] → W p l e rmX3_nextSign s m args below meth c H locs 0 0 Q (F0 m 31 ls []) := by
    intro H locs ls hf hH hl
    unfold pX3_nextSign_31 at hf
    refine lv_iconst (v := 0) hx hb dX3_nextSign_31 (by decide) ?_
    exact J32 _ _ _ _ hf hH (lv_sub hl [0] rfl)
  unfold pX3_nextSign at hf
  refine lv_aload_n hx hb dX3_nextSign_0 rfl (lv_at hl 0 rfl) ?_
  refine gT_X3_cursor C0 hH inX3_nextSign_X3 (by decide +kernel : Cond.fieldLink RX3 19 "GatheringCache$Text" "cursor" "I" ∈ wsX3_nextSign) dX3_nextSign_1 ?_
  refine lv_if_lt (tgt := 31) hx hb dX3_nextSign_4 (by decide) (fun c1 => ?_) (fun c1 => ?_)
  · rw [if_pos c1] at hf
    exact J31 _ _ _ hf hH (lv_sub hl [0] rfl)
  · rw [if_neg c1] at hf
    refine lv_aload_n hx hb dX3_nextSign_7 rfl (lv_at hl 0 rfl) ?_
    refine gT_X3_cursor C0 hH inX3_nextSign_X3 (by decide +kernel : Cond.fieldLink RX3 19 "GatheringCache$Text" "cursor" "I" ∈ wsX3_nextSign) dX3_nextSign_8 ?_
    refine lv_aload_n hx hb dX3_nextSign_11 rfl (lv_at hl 0 rfl) ?_
    refine gT_X3_length C0 hH inX3_nextSign_X3 (by decide +kernel : Cond.fieldLink RX3 15 "GatheringCache$Text" "length" "I" ∈ wsX3_nextSign) dX3_nextSign_12 ?_
    refine lv_icmp_ge (tgt := 31) hx hb dX3_nextSign_15 (by decide) (fun c2 => ?_) (fun c2 => ?_)
    · rw [if_pos c2] at hf
      exact J31 _ _ _ hf hH (lv_sub hl [0] rfl)
    · rw [if_neg c2] at hf
      refine lv_aload_n hx hb dX3_nextSign_18 rfl (lv_at hl 0 rfl) ?_
      refine gT_X3_cursor C0 hH inX3_nextSign_X3 (by decide +kernel : Cond.fieldLink RX3 19 "GatheringCache$Text" "cursor" "I" ∈ wsX3_nextSign) dX3_nextSign_19 ?_
      refine lv_bipush (v := 80) hx hb dX3_nextSign_22 (by decide) ?_
      refine lv_icmp_ge (tgt := 31) hx hb dX3_nextSign_24 (by decide) (fun c3 => ?_) (fun c3 => ?_)
      · rw [if_pos c3] at hf
        exact J31 _ _ _ hf hH (lv_sub hl [0] rfl)
      · rw [if_neg c3] at hf
        refine lv_iconst (v := 1) hx hb dX3_nextSign_27 (by decide) ?_
        refine lv_goto (tgt := 32) hx hb dX3_nextSign_28 (by decide) ?_
        exact J32 _ _ _ _ hf hH (lv_sub hl [0] rfl)
def rmX3_takeNumber : Room := { frames := 1, cells := 0, slots := 0, locals := 21 }
theorem hd_X3_takeNumber : yX3_takeNumber.cls = RX3 ∧ yX3_takeNumber.cls ≠ "java/lang/invoke/MethodHandle" ∧ yX3_takeNumber.cls ≠ "java/lang/invoke/VarHandle" ∧ (parseMethodDescriptor yX3_takeNumber.desc).map (fun d => d.parameters.length) = some 2 := by decide +kernel
theorem inX3_takeNumber_X3 : ∀ w ∈ wsX30, w ∈ wsX3_takeNumber := by decide +kernel
set_option maxHeartbeats 4000000 in
set_option maxRecDepth 100000 in
theorem mX3_takeNumber (l : Launch) (D : va_G) (ca : Gp) (a : Nat → Nat) (wr : va_W) (u : Mem) (x1 : Int32) (x2 : Int32) {r : Int32} {u9 : Mem} (hf : pX3_takeNumber u x1 x2 = some (r, u9)) : Mi l yX3_takeNumber wsX3_takeNumber rmX3_takeNumber D ca [.ref (a 0), .int x1, .int x2] (tW a ca u ++ wr) (tW a ca u9 ++ wr) r := by
  refine Mi_of (own := RX3) (cc := cX3_takeNumber) (nL := 6) (ty := .int) (by decide) rfl rfl rfl rfl (Nat.le_of_ble_eq_true rfl) ?_
  intro p e s m args below meth c Q A ls C0 hH hl hend
  obtain ⟨hx, hb, hml, hown, hts⟩ := id C0.1
  have hl : lv_has ls 6 [(0, .ref (a 0)), (1, .int x1), (2, .int x2)] := hl
  have J33 : ∀ (x3 : Int32) (u : Mem) (H : Heap) (locs : List Loc) (ls : Array Slot), pX3_takeNumber_33 x3 u = some (r, u9) → HS D A s (tW a ca u ++ wr) H locs → lv_has ls 6 [(3, .int x3)] → W p l e rmX3_takeNumber s m args below meth c H locs 0 0 Q (F0 m 33 ls []) := by
    intro x3 u H locs ls hf hH hl
    unfold pX3_takeNumber_33 at hf
    refine lv_iload_n hx hb dX3_takeNumber_33 rfl (lv_at hl 0 rfl) ?_
    cases hf
    exact hend _ _ _ _ hH rfl dX3_takeNumber_34
  have J67 : ∀ (u : Mem) (H : Heap) (locs : List Loc) (ls : Array Slot), pX3_takeNumber_67 u = some (r, u9) → HS D A s (tW a ca u ++ wr) H locs → lv_has ls 6 [] → W p l e rmX3_takeNumber s m args below meth c H locs 0 0 Q (F0 m 67 ls []) := by
    intro u H locs ls hf hH hl
    unfold pX3_takeNumber_67 at hf
    refine lv_iconst (v := (-1)) hx hb dX3_takeNumber_67 (by decide) ?_
    cases hf
    exact hend _ _ _ _ hH rfl dX3_takeNumber_68
  have J2 : ∀ (x1 : Int32) (x2 : Int32) (n : Nat) (x3 : Int32) (u : Mem) (H : Heap) (locs : List Loc) (ls : Array Slot), pX3_takeNumber_2 x1 x2 n x3 u = some (r, u9) → HS D A s (tW a ca u ++ wr) H locs → lv_has ls 6 [(0, .ref (a 0)), (1, .int x1), (2, .int x2), (3, .int x3)] → W p l e rmX3_takeNumber s m args below meth c H locs 0 0 Q (F0 m 2 ls []) := by
    intro x1 x2 n
    induction n with
    | zero => intro x3 u H locs ls hf; cases hf
    | succ n ih =>
      intro x3 u H locs ls hf hH hl
      have hf : pX3_takeNumber_2b x1 x2 (pX3_takeNumber_2 x1 x2 n) x3 u = some (r, u9) := hf
      unfold pX3_takeNumber_2b at hf
      refine lv_aload_n hx hb dX3_takeNumber_2 rfl (lv_at hl 0 rfl) ?_
      refine gT_X3_cursor C0 hH inX3_takeNumber_X3 (by decide +kernel : Cond.fieldLink RX3 19 "GatheringCache$Text" "cursor" "I" ∈ wsX3_takeNumber) dX3_takeNumber_3 ?_
      refine lv_aload_n hx hb dX3_takeNumber_6 rfl (lv_at hl 0 rfl) ?_
      refine gT_X3_length C0 hH inX3_takeNumber_X3 (by decide +kernel : Cond.fieldLink RX3 15 "GatheringCache$Text" "length" "I" ∈ wsX3_takeNumber) dX3_takeNumber_7 ?_
      refine lv_icmp_ge (tgt := 85) hx hb dX3_takeNumber_10 (by decide) (fun c101 => ?_) (fun c101 => ?_)
      · rw [if_pos c101] at hf
        refine lv_iload_n hx hb dX3_takeNumber_85 rfl (lv_at hl 3 rfl) ?_
        cases hf
        exact hend _ _ _ _ hH rfl dX3_takeNumber_86
      · rw [if_neg c101] at hf
        refine lv_aload_n hx hb dX3_takeNumber_13 rfl (lv_at hl 0 rfl) ?_
        obtain ⟨y102, h_y102, hf⟩ := bnd hf
        refine cl_iV C0 hH hl.1 (As := []) (rest := []) (mX3_nextSign l D ca a wr u h_y102) gX3_takeNumber_X3_nextSign rfl rfl rfl hd_X3_nextSign ⟨Nat.le_of_ble_eq_true rfl, Nat.le_of_ble_eq_true rfl⟩ ⟨Nat.zero_le _, Nat.zero_le _⟩ (vT_X3 C0 hH) rfl (Nat.le_of_ble_eq_true rfl) dX3_takeNumber_14 (fun H locs hH => ?_)
        refine lv_istore (lv' := [(4, .int y102), (0, .ref (a 0)), (1, .int x1), (2, .int x2), (3, .int x3)]) hx hb dX3_takeNumber_17 hl (by decide) rfl (fun ls hl => ?_)
        refine lv_iload hx hb dX3_takeNumber_19 (lv_at hl 0 rfl) ?_
        refine lv_bipush (v := 48) hx hb dX3_takeNumber_21 (by decide) ?_
        refine lv_icmp_lt (tgt := 33) hx hb dX3_takeNumber_23 (by decide) (fun c103 => ?_) (fun c103 => ?_)
        · rw [if_pos c103] at hf
          exact J33 _ _ _ _ _ hf hH (lv_sub hl [4] rfl)
        · rw [if_neg c103] at hf
          refine lv_iload hx hb dX3_takeNumber_26 (lv_at hl 0 rfl) ?_
          refine lv_bipush (v := 57) hx hb dX3_takeNumber_28 (by decide) ?_
          refine lv_icmp_le (tgt := 35) hx hb dX3_takeNumber_30 (by decide) (fun c104 => ?_) (fun c104 => ?_)
          · rw [if_pos c104] at hf
            refine lv_iload_n hx hb dX3_takeNumber_35 rfl (lv_at hl 4 rfl) ?_
            refine lv_iconst (v := 0) hx hb dX3_takeNumber_36 (by decide) ?_
            refine va_mmax hx hb (C0.1.2.2.1.trans hl.1.symm) hown (hts (.methodLink RX3 58 Lib.Math.max.name) (by decide +kernel)) (hts (.static Lib.Math.max.name) (by decide +kernel)) (hts (.initialized "java/lang/Math") (by decide +kernel)) (hts (.code Lib.Math.max.name Lib.Math.max.code 2 (some .int)) (by decide +kernel)) (Nat.le_of_ble_eq_true rfl) (Nat.le_of_ble_eq_true rfl) (Nat.zero_le _) (Nat.zero_le _) dX3_takeNumber_37 ?_
            refine lv_bipush (v := 10) hx hb dX3_takeNumber_40 (by decide) ?_
            refine lv_imul hx hb dX3_takeNumber_42 ?_
            refine lv_iload hx hb dX3_takeNumber_43 (lv_at hl 0 rfl) ?_
            refine lv_bipush (v := 48) hx hb dX3_takeNumber_45 (by decide) ?_
            refine lv_isub hx hb dX3_takeNumber_47 ?_
            refine lv_iadd hx hb dX3_takeNumber_48 ?_
            refine lv_istore (lv' := [(5, .int (((if x3 < 0 then 0 else x3) * 10) + (y102 - 48))), (4, .int y102), (0, .ref (a 0)), (1, .int x1), (2, .int x2), (3, .int x3)]) hx hb dX3_takeNumber_49 hl (by decide) rfl (fun ls hl => ?_)
            refine lv_iload_n hx hb dX3_takeNumber_51 rfl (lv_at hl 5 rfl) ?_
            refine lv_if_eq (tgt := 67) hx hb dX3_takeNumber_52 (by decide) (fun c105 => ?_) (fun c105 => ?_)
            · rw [if_pos c105] at hf
              exact J67 _ _ _ _ hf hH (lv_sub hl [] rfl)
            · rw [if_neg c105] at hf
              refine lv_iload hx hb dX3_takeNumber_55 (lv_at hl 0 rfl) ?_
              refine lv_iload_n hx hb dX3_takeNumber_57 rfl (lv_at hl 3 rfl) ?_
              refine lv_icmp_lt (tgt := 67) hx hb dX3_takeNumber_58 (by decide) (fun c106 => ?_) (fun c106 => ?_)
              · rw [if_pos c106] at hf
                exact J67 _ _ _ _ hf hH (lv_sub hl [] rfl)
              · rw [if_neg c106] at hf
                refine lv_iload hx hb dX3_takeNumber_61 (lv_at hl 0 rfl) ?_
                refine lv_iload_n hx hb dX3_takeNumber_63 rfl (lv_at hl 4 rfl) ?_
                refine lv_icmp_le (tgt := 69) hx hb dX3_takeNumber_64 (by decide) (fun c107 => ?_) (fun c107 => ?_)
                · rw [if_pos c107] at hf
                  refine lv_iload hx hb dX3_takeNumber_69 (lv_at hl 0 rfl) ?_
                  refine lv_istore_n (lv' := [(3, .int (((if x3 < 0 then 0 else x3) * 10) + (y102 - 48))), (5, .int (((if x3 < 0 then 0 else x3) * 10) + (y102 - 48))), (4, .int y102), (0, .ref (a 0)), (1, .int x1), (2, .int x2)]) hx hb dX3_takeNumber_71 rfl hl (by decide) rfl (fun ls hl => ?_)
                  refine lv_aload_n hx hb dX3_takeNumber_72 rfl (lv_at hl 3 rfl) ?_
                  refine lv_dup hx hb dX3_takeNumber_73 rfl ?_
                  refine gT_X3_cursor C0 hH inX3_takeNumber_X3 (by decide +kernel : Cond.fieldLink RX3 19 "GatheringCache$Text" "cursor" "I" ∈ wsX3_takeNumber) dX3_takeNumber_74 ?_
                  refine lv_iconst (v := 1) hx hb dX3_takeNumber_77 (by decide) ?_
                  refine lv_iadd hx hb dX3_takeNumber_78 ?_
                  obtain ⟨u108, h_u108, hf⟩ := bnd hf
                  refine pT_X3_cursor C0 hH inX3_takeNumber_X3 h_u108 (by decide +kernel : Cond.fieldLink RX3 19 "GatheringCache$Text" "cursor" "I" ∈ wsX3_takeNumber) dX3_takeNumber_79 (fun H locs hH => ?_)
                  refine lv_goto (tgt := 2) hx hb dX3_takeNumber_82 (by decide) ?_
                  exact ih _ _ _ _ _ hf hH (lv_sub hl [3, 4, 5, 0] rfl)
                · rw [if_neg c107] at hf
                  exact J67 _ _ _ _ hf hH (lv_sub hl [] rfl)
          · rw [if_neg c104] at hf
            exact J33 _ _ _ _ _ hf hH (lv_sub hl [4] rfl)
  unfold pX3_takeNumber at hf
  refine lv_iconst (v := (-1)) hx hb dX3_takeNumber_0 (by decide) ?_
  refine lv_istore_n (lv' := [(3, .int (-1)), (0, .ref (a 0)), (1, .int x1), (2, .int x2)]) hx hb dX3_takeNumber_1 rfl hl (by decide) rfl (fun ls hl => ?_)
  exact J2 _ _ FU _ _ _ _ _ hf hH (lv_sub hl [1, 2, 3, 0] rfl)
def rmX3_takeSign : Room := { frames := 1, cells := 0, slots := 0, locals := 21 }
theorem hd_X3_takeSign : yX3_takeSign.cls = RX3 ∧ yX3_takeSign.cls ≠ "java/lang/invoke/MethodHandle" ∧ yX3_takeSign.cls ≠ "java/lang/invoke/VarHandle" ∧ (parseMethodDescriptor yX3_takeSign.desc).map (fun d => d.parameters.length) = some 1 := by decide +kernel
theorem inX3_takeSign_X3 : ∀ w ∈ wsX30, w ∈ wsX3_takeSign := by decide +kernel
set_option maxHeartbeats 4000000 in
set_option maxRecDepth 100000 in
theorem mX3_takeSign (l : Launch) (D : va_G) (ca : Gp) (a : Nat → Nat) (wr : va_W) (u : Mem) (x1 : Int32) {r : Int32} {u9 : Mem} (hf : pX3_takeSign u x1 = some (r, u9)) : Mi l yX3_takeSign wsX3_takeSign rmX3_takeSign D ca [.ref (a 0), .int x1] (tW a ca u ++ wr) (tW a ca u9 ++ wr) r := by
  refine Mi_of (own := RX3) (cc := cX3_takeSign) (nL := 2) (ty := .boolean) (by decide) rfl rfl rfl rfl (Nat.le_of_ble_eq_true rfl) ?_
  intro p e s m args below meth c Q A ls C0 hH hl hend
  obtain ⟨hx, hb, hml, hown, hts⟩ := id C0.1
  have hl : lv_has ls 2 [(0, .ref (a 0)), (1, .int x1)] := hl
  unfold pX3_takeSign at hf
  refine lv_aload_n hx hb dX3_takeSign_0 rfl (lv_at hl 0 rfl) ?_
  obtain ⟨y1, h_y1, hf⟩ := bnd hf
  refine cl_iV C0 hH hl.1 (As := []) (rest := []) (mX3_nextSign l D ca a wr u h_y1) gX3_takeSign_X3_nextSign rfl rfl rfl hd_X3_nextSign ⟨Nat.le_of_ble_eq_true rfl, Nat.le_of_ble_eq_true rfl⟩ ⟨Nat.zero_le _, Nat.zero_le _⟩ (vT_X3 C0 hH) rfl (Nat.le_of_ble_eq_true rfl) dX3_takeSign_1 (fun H locs hH => ?_)
  refine lv_iload_n hx hb dX3_takeSign_4 rfl (lv_at hl 1 rfl) ?_
  refine lv_icmp_eq (tgt := 10) hx hb dX3_takeSign_5 (by decide) (fun c2 => ?_) (fun c2 => ?_)
  · rw [if_pos c2] at hf
    refine lv_aload_n hx hb dX3_takeSign_10 rfl (lv_at hl 0 rfl) ?_
    refine lv_dup hx hb dX3_takeSign_11 rfl ?_
    refine gT_X3_cursor C0 hH inX3_takeSign_X3 (by decide +kernel : Cond.fieldLink RX3 19 "GatheringCache$Text" "cursor" "I" ∈ wsX3_takeSign) dX3_takeSign_12 ?_
    refine lv_iconst (v := 1) hx hb dX3_takeSign_15 (by decide) ?_
    refine lv_iadd hx hb dX3_takeSign_16 ?_
    obtain ⟨u3, h_u3, hf⟩ := bnd hf
    refine pT_X3_cursor C0 hH inX3_takeSign_X3 h_u3 (by decide +kernel : Cond.fieldLink RX3 19 "GatheringCache$Text" "cursor" "I" ∈ wsX3_takeSign) dX3_takeSign_17 (fun H locs hH => ?_)
    refine lv_iconst (v := 1) hx hb dX3_takeSign_20 (by decide) ?_
    cases hf
    exact hend _ _ _ _ hH rfl dX3_takeSign_21
  · rw [if_neg c2] at hf
    refine lv_iconst (v := 0) hx hb dX3_takeSign_8 (by decide) ?_
    cases hf
    exact hend _ _ _ _ hH rfl dX3_takeSign_9
def rmX3_takeCommand : Room := { frames := 4, cells := 0, slots := 0, locals := 91 }
theorem hd_X3_takeCommand : yX3_takeCommand.cls = RX3 ∧ yX3_takeCommand.cls ≠ "java/lang/invoke/MethodHandle" ∧ yX3_takeCommand.cls ≠ "java/lang/invoke/VarHandle" ∧ (parseMethodDescriptor yX3_takeCommand.desc).map (fun d => d.parameters.length) = some 0 := by decide +kernel
theorem inX3_takeCommand_X3 : ∀ w ∈ wsX30, w ∈ wsX3_takeCommand := by decide +kernel
set_option maxHeartbeats 4000000 in
set_option maxRecDepth 100000 in
theorem mX3_takeCommand (l : Launch) (D : va_G) (ca : Gp) (a : Nat → Nat) (wr : va_W) (u : Mem) {r : Int32} {u9 : Mem} (hf : pX3_takeCommand u = some (r, u9)) : Mi l yX3_takeCommand wsX3_takeCommand rmX3_takeCommand D ca [.ref (a 0)] (tW a ca u ++ wr) (tW a ca u9 ++ wr) r := by
  refine Mi_of (own := RX3) (cc := cX3_takeCommand) (nL := 1) (ty := .boolean) (by decide) rfl rfl rfl rfl (Nat.le_of_ble_eq_true rfl) ?_
  intro p e s m args below meth c Q A ls C0 hH hl hend
  obtain ⟨hx, hb, hml, hown, hts⟩ := id C0.1
  have hl : lv_has ls 1 [(0, .ref (a 0))] := hl
  have J96 : ∀ (u : Mem) (H : Heap) (locs : List Loc) (ls : Array Slot), pX3_takeCommand_96 u = some (r, u9) → HS D A s (tW a ca u ++ wr) H locs → lv_has ls 1 [] → W p l e rmX3_takeCommand s m args below meth c H locs 0 0 Q (F0 m 96 ls []) := by
    intro u H locs ls hf hH hl
    unfold pX3_takeCommand_96 at hf
    refine lv_iconst (v := 0) hx hb dX3_takeCommand_96 (by decide) ?_
    cases hf
    exact hend _ _ _ _ hH rfl dX3_takeCommand_97
  have J123 : ∀ (s0 : Int32) (u : Mem) (H : Heap) (locs : List Loc) (ls : Array Slot), pX3_takeCommand_123 s0 u = some (r, u9) → HS D A s (tW a ca u ++ wr) H locs → lv_has ls 1 [] → W p l e rmX3_takeCommand s m args below meth c H locs 0 0 Q (F0 m 123 ls [.int s0]) := by
    intro s0 u H locs ls hf hH hl
    unfold pX3_takeCommand_123 at hf
    obtain ⟨hz, hf⟩ := gd hf
    cases hf
    exact hend _ _ _ _ hH (isz_n hz) dX3_takeCommand_123
  have J148 : ∀ (s0 : Int32) (u : Mem) (H : Heap) (locs : List Loc) (ls : Array Slot), pX3_takeCommand_148 s0 u = some (r, u9) → HS D A s (tW a ca u ++ wr) H locs → lv_has ls 1 [] → W p l e rmX3_takeCommand s m args below meth c H locs 0 0 Q (F0 m 148 ls [.int s0]) := by
    intro s0 u H locs ls hf hH hl
    unfold pX3_takeCommand_148 at hf
    obtain ⟨hz, hf⟩ := gd hf
    cases hf
    exact hend _ _ _ _ hH (isz_n hz) dX3_takeCommand_148
  have J173 : ∀ (s0 : Int32) (u : Mem) (H : Heap) (locs : List Loc) (ls : Array Slot), pX3_takeCommand_173 s0 u = some (r, u9) → HS D A s (tW a ca u ++ wr) H locs → lv_has ls 1 [] → W p l e rmX3_takeCommand s m args below meth c H locs 0 0 Q (F0 m 173 ls [.int s0]) := by
    intro s0 u H locs ls hf hH hl
    unfold pX3_takeCommand_173 at hf
    obtain ⟨hz, hf⟩ := gd hf
    cases hf
    exact hend _ _ _ _ hH (isz_n hz) dX3_takeCommand_173
  have J198 : ∀ (s0 : Int32) (u : Mem) (H : Heap) (locs : List Loc) (ls : Array Slot), pX3_takeCommand_198 s0 u = some (r, u9) → HS D A s (tW a ca u ++ wr) H locs → lv_has ls 1 [] → W p l e rmX3_takeCommand s m args below meth c H locs 0 0 Q (F0 m 198 ls [.int s0]) := by
    intro s0 u H locs ls hf hH hl
    unfold pX3_takeCommand_198 at hf
    obtain ⟨hz, hf⟩ := gd hf
    cases hf
    exact hend _ _ _ _ hH (isz_n hz) dX3_takeCommand_198
  unfold pX3_takeCommand at hf
  refine lv_aload_n hx hb dX3_takeCommand_0 rfl (lv_at hl 0 rfl) ?_
  refine va_ldcS hx hb hown (C0.2.2.2.str 0 rfl) dX3_takeCommand_1 ?_
  refine lv_aload_n hx hb dX3_takeCommand_3 rfl (lv_at hl 0 rfl) ?_
  obtain ⟨y1, h_y1, hf⟩ := bnd hf
  refine cl_iV C0 hH hl.1 (As := []) (rest := [.ref (ca.2.1 0), .ref (a 0)]) (mX3_nextSign l D ca a wr u h_y1) gX3_takeCommand_X3_nextSign rfl rfl rfl hd_X3_nextSign ⟨Nat.le_of_ble_eq_true rfl, Nat.le_of_ble_eq_true rfl⟩ ⟨Nat.zero_le _, Nat.zero_le _⟩ (vT_X3 C0 hH) rfl (Nat.le_of_ble_eq_true rfl) dX3_takeCommand_4 (fun H locs hH => ?_)
  obtain ⟨y2, h_y2, hf⟩ := bnd hf
  refine cl_iV C0 hH hl.1 (As := [.int y1]) (rest := [.ref (a 0)]) (mJ0_indexOf_0f7a4 l D ca (tW a ca u ++ wr) y1 h_y2) gX3_takeCommand_J0_indexOf_0f7a4 rfl rfl rfl hd_J0_indexOf_0f7a4 ⟨Nat.le_of_ble_eq_true rfl, Nat.le_of_ble_eq_true rfl⟩ ⟨Nat.zero_le _, Nat.zero_le _⟩ (vC_str C0 hH) rfl (Nat.le_of_ble_eq_true rfl) dX3_takeCommand_7 (fun H locs hH => ?_)
  obtain ⟨u3, h_u3, hf⟩ := bnd hf
  refine pT_X3_command C0 hH inX3_takeCommand_X3 h_u3 (by decide +kernel : Cond.fieldLink RX3 45 "GatheringCache$Text" "command" "I" ∈ wsX3_takeCommand) dX3_takeCommand_10 (fun H locs hH => ?_)
  refine lv_aload_n hx hb dX3_takeCommand_13 rfl (lv_at hl 0 rfl) ?_
  refine gT_X3_command C0 hH inX3_takeCommand_X3 (by decide +kernel : Cond.fieldLink RX3 45 "GatheringCache$Text" "command" "I" ∈ wsX3_takeCommand) dX3_takeCommand_14 ?_
  refine lv_if_ge (tgt := 22) hx hb dX3_takeCommand_17 (by decide) (fun c4 => ?_) (fun c4 => ?_)
  · rw [if_pos c4] at hf
    refine lv_aload_n hx hb dX3_takeCommand_22 rfl (lv_at hl 0 rfl) ?_
    refine lv_dup hx hb dX3_takeCommand_23 rfl ?_
    refine gT_X3_cursor C0 hH inX3_takeCommand_X3 (by decide +kernel : Cond.fieldLink RX3 19 "GatheringCache$Text" "cursor" "I" ∈ wsX3_takeCommand) dX3_takeCommand_24 ?_
    refine lv_iconst (v := 1) hx hb dX3_takeCommand_27 (by decide) ?_
    refine lv_iadd hx hb dX3_takeCommand_28 ?_
    obtain ⟨u5, h_u5, hf⟩ := bnd hf
    refine pT_X3_cursor C0 hH inX3_takeCommand_X3 h_u5 (by decide +kernel : Cond.fieldLink RX3 19 "GatheringCache$Text" "cursor" "I" ∈ wsX3_takeCommand) dX3_takeCommand_29 (fun H locs hH => ?_)
    refine lv_aload_n hx hb dX3_takeCommand_32 rfl (lv_at hl 0 rfl) ?_
    refine gT_X3_command C0 hH inX3_takeCommand_X3 (by decide +kernel : Cond.fieldLink RX3 45 "GatheringCache$Text" "command" "I" ∈ wsX3_takeCommand) dX3_takeCommand_33 ?_
    by_cases c29_0 : (u5 0 2) = 0
    · rw [if_pos c29_0] at hf
      refine sw_in hx hb (v := 0) (tgt := 68) c29_0 dX3_takeCommand_36 (by decide) (by decide) rfl (by decide) ?_
      refine lv_aload_n hx hb dX3_takeCommand_68 rfl (lv_at hl 0 rfl) ?_
      refine lv_aload_n hx hb dX3_takeCommand_69 rfl (lv_at hl 0 rfl) ?_
      refine lv_iconst (v := 0) hx hb dX3_takeCommand_70 (by decide) ?_
      refine lv_bipush (v := 63) hx hb dX3_takeCommand_71 (by decide) ?_
      obtain ⟨y6, u7, h_y6, hf⟩ := bnd2 hf
      refine cl_iV C0 hH hl.1 (As := [.int 0, .int 63]) (rest := [.ref (a 0)]) (mX3_takeNumber l D ca a wr u5 0 63 h_y6) gX3_takeCommand_X3_takeNumber rfl rfl rfl hd_X3_takeNumber ⟨Nat.le_of_ble_eq_true rfl, Nat.le_of_ble_eq_true rfl⟩ ⟨Nat.zero_le _, Nat.zero_le _⟩ (vT_X3 C0 hH) rfl (Nat.le_of_ble_eq_true rfl) dX3_takeCommand_73 (fun H locs hH => ?_)
      obtain ⟨u8, h_u8, hf⟩ := bnd hf
      refine pT_X3_first C0 hH inX3_takeCommand_X3 h_u8 (by decide +kernel : Cond.fieldLink RX3 52 "GatheringCache$Text" "first" "I" ∈ wsX3_takeCommand) dX3_takeCommand_76 (fun H locs hH => ?_)
      refine lv_aload_n hx hb dX3_takeCommand_79 rfl (lv_at hl 0 rfl) ?_
      refine gT_X3_first C0 hH inX3_takeCommand_X3 (by decide +kernel : Cond.fieldLink RX3 52 "GatheringCache$Text" "first" "I" ∈ wsX3_takeCommand) dX3_takeCommand_80 ?_
      refine lv_iconst (v := (-1)) hx hb dX3_takeCommand_83 (by decide) ?_
      refine lv_icmp_eq (tgt := 96) hx hb dX3_takeCommand_84 (by decide) (fun c9 => ?_) (fun c9 => ?_)
      · rw [if_pos c9] at hf
        exact J96 _ _ _ _ hf hH (lv_sub hl [] rfl)
      · rw [if_neg c9] at hf
        refine lv_aload_n hx hb dX3_takeCommand_87 rfl (lv_at hl 0 rfl) ?_
        refine lv_bipush (v := 44) hx hb dX3_takeCommand_88 (by decide) ?_
        obtain ⟨y10, u11, h_y10, hf⟩ := bnd2 hf
        refine cl_iV C0 hH hl.1 (As := [.int 44]) (rest := []) (mX3_takeSign l D ca a wr u8 44 h_y10) gX3_takeCommand_X3_takeSign rfl rfl rfl hd_X3_takeSign ⟨Nat.le_of_ble_eq_true rfl, Nat.le_of_ble_eq_true rfl⟩ ⟨Nat.zero_le _, Nat.zero_le _⟩ (vT_X3 C0 hH) rfl (Nat.le_of_ble_eq_true rfl) dX3_takeCommand_90 (fun H locs hH => ?_)
        refine lv_if_ne (tgt := 98) hx hb dX3_takeCommand_93 (by decide) (fun c12 => ?_) (fun c12 => ?_)
        · rw [if_neg c12] at hf
          refine lv_aload_n hx hb dX3_takeCommand_98 rfl (lv_at hl 0 rfl) ?_
          refine lv_aload_n hx hb dX3_takeCommand_99 rfl (lv_at hl 0 rfl) ?_
          refine lv_iconst (v := 0) hx hb dX3_takeCommand_100 (by decide) ?_
          refine lv_sipush (v := 999) hx hb dX3_takeCommand_101 (by decide) ?_
          obtain ⟨y13, u14, h_y13, hf⟩ := bnd2 hf
          refine cl_iV C0 hH hl.1 (As := [.int 0, .int 999]) (rest := [.ref (a 0)]) (mX3_takeNumber l D ca a wr u11 0 999 h_y13) gX3_takeCommand_X3_takeNumber rfl rfl rfl hd_X3_takeNumber ⟨Nat.le_of_ble_eq_true rfl, Nat.le_of_ble_eq_true rfl⟩ ⟨Nat.zero_le _, Nat.zero_le _⟩ (vT_X3 C0 hH) rfl (Nat.le_of_ble_eq_true rfl) dX3_takeCommand_104 (fun H locs hH => ?_)
          obtain ⟨u15, h_u15, hf⟩ := bnd hf
          refine pT_X3_second C0 hH inX3_takeCommand_X3 h_u15 (by decide +kernel : Cond.fieldLink RX3 55 "GatheringCache$Text" "second" "I" ∈ wsX3_takeCommand) dX3_takeCommand_107 (fun H locs hH => ?_)
          refine lv_aload_n hx hb dX3_takeCommand_110 rfl (lv_at hl 0 rfl) ?_
          refine gT_X3_second C0 hH inX3_takeCommand_X3 (by decide +kernel : Cond.fieldLink RX3 55 "GatheringCache$Text" "second" "I" ∈ wsX3_takeCommand) dX3_takeCommand_111 ?_
          refine lv_iconst (v := (-1)) hx hb dX3_takeCommand_114 (by decide) ?_
          refine lv_icmp_eq (tgt := 122) hx hb dX3_takeCommand_115 (by decide) (fun c16 => ?_) (fun c16 => ?_)
          · rw [if_pos c16] at hf
            refine lv_iconst (v := 0) hx hb dX3_takeCommand_122 (by decide) ?_
            exact J123 _ _ _ _ _ hf hH (lv_sub hl [] rfl)
          · rw [if_neg c16] at hf
            refine lv_iconst (v := 1) hx hb dX3_takeCommand_118 (by decide) ?_
            refine lv_goto (tgt := 123) hx hb dX3_takeCommand_119 (by decide) ?_
            exact J123 _ _ _ _ _ hf hH (lv_sub hl [] rfl)
        · rw [if_pos c12] at hf
          exact J96 _ _ _ _ hf hH (lv_sub hl [] rfl)
    rw [if_neg c29_0] at hf
    by_cases c29_1 : (u5 0 2) = 1
    · rw [if_pos c29_1] at hf
      refine sw_in hx hb (v := 1) (tgt := 124) c29_1 dX3_takeCommand_36 (by decide) (by decide) rfl (by decide) ?_
      refine lv_aload_n hx hb dX3_takeCommand_124 rfl (lv_at hl 0 rfl) ?_
      refine lv_aload_n hx hb dX3_takeCommand_125 rfl (lv_at hl 0 rfl) ?_
      refine lv_iconst (v := 0) hx hb dX3_takeCommand_126 (by decide) ?_
      refine lv_bipush (v := 63) hx hb dX3_takeCommand_127 (by decide) ?_
      obtain ⟨y17, u18, h_y17, hf⟩ := bnd2 hf
      refine cl_iV C0 hH hl.1 (As := [.int 0, .int 63]) (rest := [.ref (a 0)]) (mX3_takeNumber l D ca a wr u5 0 63 h_y17) gX3_takeCommand_X3_takeNumber rfl rfl rfl hd_X3_takeNumber ⟨Nat.le_of_ble_eq_true rfl, Nat.le_of_ble_eq_true rfl⟩ ⟨Nat.zero_le _, Nat.zero_le _⟩ (vT_X3 C0 hH) rfl (Nat.le_of_ble_eq_true rfl) dX3_takeCommand_129 (fun H locs hH => ?_)
      obtain ⟨u19, h_u19, hf⟩ := bnd hf
      refine pT_X3_first C0 hH inX3_takeCommand_X3 h_u19 (by decide +kernel : Cond.fieldLink RX3 52 "GatheringCache$Text" "first" "I" ∈ wsX3_takeCommand) dX3_takeCommand_132 (fun H locs hH => ?_)
      refine lv_aload_n hx hb dX3_takeCommand_135 rfl (lv_at hl 0 rfl) ?_
      refine gT_X3_first C0 hH inX3_takeCommand_X3 (by decide +kernel : Cond.fieldLink RX3 52 "GatheringCache$Text" "first" "I" ∈ wsX3_takeCommand) dX3_takeCommand_136 ?_
      refine lv_iconst (v := (-1)) hx hb dX3_takeCommand_139 (by decide) ?_
      refine lv_icmp_eq (tgt := 147) hx hb dX3_takeCommand_140 (by decide) (fun c20 => ?_) (fun c20 => ?_)
      · rw [if_pos c20] at hf
        refine lv_iconst (v := 0) hx hb dX3_takeCommand_147 (by decide) ?_
        exact J148 _ _ _ _ _ hf hH (lv_sub hl [] rfl)
      · rw [if_neg c20] at hf
        refine lv_iconst (v := 1) hx hb dX3_takeCommand_143 (by decide) ?_
        refine lv_goto (tgt := 148) hx hb dX3_takeCommand_144 (by decide) ?_
        exact J148 _ _ _ _ _ hf hH (lv_sub hl [] rfl)
    rw [if_neg c29_1] at hf
    by_cases c29_2 : (u5 0 2) = 2
    · rw [if_pos c29_2] at hf
      refine sw_in hx hb (v := 2) (tgt := 149) c29_2 dX3_takeCommand_36 (by decide) (by decide) rfl (by decide) ?_
      refine lv_aload_n hx hb dX3_takeCommand_149 rfl (lv_at hl 0 rfl) ?_
      refine lv_aload_n hx hb dX3_takeCommand_150 rfl (lv_at hl 0 rfl) ?_
      refine lv_iconst (v := 0) hx hb dX3_takeCommand_151 (by decide) ?_
      refine lv_bipush (v := 15) hx hb dX3_takeCommand_152 (by decide) ?_
      obtain ⟨y21, u22, h_y21, hf⟩ := bnd2 hf
      refine cl_iV C0 hH hl.1 (As := [.int 0, .int 15]) (rest := [.ref (a 0)]) (mX3_takeNumber l D ca a wr u5 0 15 h_y21) gX3_takeCommand_X3_takeNumber rfl rfl rfl hd_X3_takeNumber ⟨Nat.le_of_ble_eq_true rfl, Nat.le_of_ble_eq_true rfl⟩ ⟨Nat.zero_le _, Nat.zero_le _⟩ (vT_X3 C0 hH) rfl (Nat.le_of_ble_eq_true rfl) dX3_takeCommand_154 (fun H locs hH => ?_)
      obtain ⟨u23, h_u23, hf⟩ := bnd hf
      refine pT_X3_first C0 hH inX3_takeCommand_X3 h_u23 (by decide +kernel : Cond.fieldLink RX3 52 "GatheringCache$Text" "first" "I" ∈ wsX3_takeCommand) dX3_takeCommand_157 (fun H locs hH => ?_)
      refine lv_aload_n hx hb dX3_takeCommand_160 rfl (lv_at hl 0 rfl) ?_
      refine gT_X3_first C0 hH inX3_takeCommand_X3 (by decide +kernel : Cond.fieldLink RX3 52 "GatheringCache$Text" "first" "I" ∈ wsX3_takeCommand) dX3_takeCommand_161 ?_
      refine lv_iconst (v := (-1)) hx hb dX3_takeCommand_164 (by decide) ?_
      refine lv_icmp_eq (tgt := 172) hx hb dX3_takeCommand_165 (by decide) (fun c24 => ?_) (fun c24 => ?_)
      · rw [if_pos c24] at hf
        refine lv_iconst (v := 0) hx hb dX3_takeCommand_172 (by decide) ?_
        exact J173 _ _ _ _ _ hf hH (lv_sub hl [] rfl)
      · rw [if_neg c24] at hf
        refine lv_iconst (v := 1) hx hb dX3_takeCommand_168 (by decide) ?_
        refine lv_goto (tgt := 173) hx hb dX3_takeCommand_169 (by decide) ?_
        exact J173 _ _ _ _ _ hf hH (lv_sub hl [] rfl)
    rw [if_neg c29_2] at hf
    by_cases c29_3 : (u5 0 2) = 3
    · rw [if_pos c29_3] at hf
      refine sw_in hx hb (v := 3) (tgt := 174) c29_3 dX3_takeCommand_36 (by decide) (by decide) rfl (by decide) ?_
      refine lv_aload_n hx hb dX3_takeCommand_174 rfl (lv_at hl 0 rfl) ?_
      refine lv_aload_n hx hb dX3_takeCommand_175 rfl (lv_at hl 0 rfl) ?_
      refine lv_iconst (v := 1) hx hb dX3_takeCommand_176 (by decide) ?_
      refine lv_bipush (v := 99) hx hb dX3_takeCommand_177 (by decide) ?_
      obtain ⟨y25, u26, h_y25, hf⟩ := bnd2 hf
      refine cl_iV C0 hH hl.1 (As := [.int 1, .int 99]) (rest := [.ref (a 0)]) (mX3_takeNumber l D ca a wr u5 1 99 h_y25) gX3_takeCommand_X3_takeNumber rfl rfl rfl hd_X3_takeNumber ⟨Nat.le_of_ble_eq_true rfl, Nat.le_of_ble_eq_true rfl⟩ ⟨Nat.zero_le _, Nat.zero_le _⟩ (vT_X3 C0 hH) rfl (Nat.le_of_ble_eq_true rfl) dX3_takeCommand_179 (fun H locs hH => ?_)
      obtain ⟨u27, h_u27, hf⟩ := bnd hf
      refine pT_X3_first C0 hH inX3_takeCommand_X3 h_u27 (by decide +kernel : Cond.fieldLink RX3 52 "GatheringCache$Text" "first" "I" ∈ wsX3_takeCommand) dX3_takeCommand_182 (fun H locs hH => ?_)
      refine lv_aload_n hx hb dX3_takeCommand_185 rfl (lv_at hl 0 rfl) ?_
      refine gT_X3_first C0 hH inX3_takeCommand_X3 (by decide +kernel : Cond.fieldLink RX3 52 "GatheringCache$Text" "first" "I" ∈ wsX3_takeCommand) dX3_takeCommand_186 ?_
      refine lv_iconst (v := (-1)) hx hb dX3_takeCommand_189 (by decide) ?_
      refine lv_icmp_eq (tgt := 197) hx hb dX3_takeCommand_190 (by decide) (fun c28 => ?_) (fun c28 => ?_)
      · rw [if_pos c28] at hf
        refine lv_iconst (v := 0) hx hb dX3_takeCommand_197 (by decide) ?_
        exact J198 _ _ _ _ _ hf hH (lv_sub hl [] rfl)
      · rw [if_neg c28] at hf
        refine lv_iconst (v := 1) hx hb dX3_takeCommand_193 (by decide) ?_
        refine lv_goto (tgt := 198) hx hb dX3_takeCommand_194 (by decide) ?_
        exact J198 _ _ _ _ _ hf hH (lv_sub hl [] rfl)
    rw [if_neg c29_3] at hf
    refine sw_out hx hb (tgt := 199) (sw_ne (vs := [0, 1, 2, 3]) ⟨c29_0, c29_1, c29_2, c29_3, trivial⟩) dX3_takeCommand_36 (by decide) (by decide) ?_
    refine lv_iconst (v := 1) hx hb dX3_takeCommand_199 (by decide) ?_
    cases hf
    exact hend _ _ _ _ hH rfl dX3_takeCommand_200
  · rw [if_neg c4] at hf
    refine lv_iconst (v := 0) hx hb dX3_takeCommand_20 (by decide) ?_
    cases hf
    exact hend _ _ _ _ hH rfl dX3_takeCommand_21
def rmX3_firstError : Room := { frames := 5, cells := 0, slots := 0, locals := 111 }
theorem hd_X3_firstError : yX3_firstError.cls = RX3 ∧ yX3_firstError.cls ≠ "java/lang/invoke/MethodHandle" ∧ yX3_firstError.cls ≠ "java/lang/invoke/VarHandle" ∧ (parseMethodDescriptor yX3_firstError.desc).map (fun d => d.parameters.length) = some 0 := by decide +kernel
theorem inX3_firstError_X3 : ∀ w ∈ wsX30, w ∈ wsX3_firstError := by decide +kernel
set_option maxHeartbeats 4000000 in
set_option maxRecDepth 100000 in
theorem mX3_firstError (l : Launch) (D : va_G) (ca : Gp) (a : Nat → Nat) (wr : va_W) (u : Mem) {r : Int32} {u9 : Mem} (hf : pX3_firstError u = some (r, u9)) : Mi l yX3_firstError wsX3_firstError rmX3_firstError D ca [.ref (a 0)] (tW a ca u ++ wr) (tW a ca u9 ++ wr) r := by
  refine Mi_of (own := RX3) (cc := cX3_firstError) (nL := 2) (ty := .int) (by decide) rfl rfl rfl rfl (Nat.le_of_ble_eq_true rfl) ?_
  intro p e s m args below meth c Q A ls C0 hH hl hend
  obtain ⟨hx, hb, hml, hown, hts⟩ := id C0.1
  have hl : lv_has ls 2 [(0, .ref (a 0))] := hl
  have J6 : ∀ (n : Nat) (x1 : Int32) (u : Mem) (H : Heap) (locs : List Loc) (ls : Array Slot), pX3_firstError_6 n x1 u = some (r, u9) → HS D A s (tW a ca u ++ wr) H locs → lv_has ls 2 [(0, .ref (a 0)), (1, .int x1)] → W p l e rmX3_firstError s m args below meth c H locs 0 0 Q (F0 m 6 ls []) := by
    intro n
    induction n with
    | zero => intro x1 u H locs ls hf; cases hf
    | succ n ih =>
      intro x1 u H locs ls hf hH hl
      have hf : pX3_firstError_6b (pX3_firstError_6 n) x1 u = some (r, u9) := hf
      unfold pX3_firstError_6b at hf
      refine lv_iload_n hx hb dX3_firstError_6 rfl (lv_at hl 1 rfl) ?_
      refine lv_bipush (v := 80) hx hb dX3_firstError_7 (by decide) ?_
      refine lv_icmp_ge (tgt := 57) hx hb dX3_firstError_9 (by decide) (fun c101 => ?_) (fun c101 => ?_)
      · rw [if_pos c101] at hf
        refine lv_aload_n hx hb dX3_firstError_57 rfl (lv_at hl 0 rfl) ?_
        refine gT_X3_cursor C0 hH inX3_firstError_X3 (by decide +kernel : Cond.fieldLink RX3 19 "GatheringCache$Text" "cursor" "I" ∈ wsX3_firstError) dX3_firstError_58 ?_
        cases hf
        exact hend _ _ _ _ hH rfl dX3_firstError_61
      · rw [if_neg c101] at hf
        refine lv_aload_n hx hb dX3_firstError_12 rfl (lv_at hl 0 rfl) ?_
        obtain ⟨y102, u103, h_y102, hf⟩ := bnd2 hf
        refine cl_iV C0 hH hl.1 (As := []) (rest := []) (mX3_takeCommand l D ca a wr u h_y102) gX3_firstError_X3_takeCommand rfl rfl rfl hd_X3_takeCommand ⟨Nat.le_of_ble_eq_true rfl, Nat.le_of_ble_eq_true rfl⟩ ⟨Nat.zero_le _, Nat.zero_le _⟩ (vT_X3 C0 hH) rfl (Nat.le_of_ble_eq_true rfl) dX3_firstError_13 (fun H locs hH => ?_)
        refine lv_if_ne (tgt := 24) hx hb dX3_firstError_16 (by decide) (fun c104 => ?_) (fun c104 => ?_)
        · rw [if_neg c104] at hf
          refine lv_aload_n hx hb dX3_firstError_24 rfl (lv_at hl 0 rfl) ?_
          refine gT_X3_cursor C0 hH inX3_firstError_X3 (by decide +kernel : Cond.fieldLink RX3 19 "GatheringCache$Text" "cursor" "I" ∈ wsX3_firstError) dX3_firstError_25 ?_
          refine lv_aload_n hx hb dX3_firstError_28 rfl (lv_at hl 0 rfl) ?_
          refine gT_X3_length C0 hH inX3_firstError_X3 (by decide +kernel : Cond.fieldLink RX3 15 "GatheringCache$Text" "length" "I" ∈ wsX3_firstError) dX3_firstError_29 ?_
          refine lv_icmp_ne (tgt := 37) hx hb dX3_firstError_32 (by decide) (fun c105 => ?_) (fun c105 => ?_)
          · rw [if_neg c105] at hf
            refine lv_aload_n hx hb dX3_firstError_37 rfl (lv_at hl 0 rfl) ?_
            refine lv_bipush (v := 59) hx hb dX3_firstError_38 (by decide) ?_
            obtain ⟨y106, u107, h_y106, hf⟩ := bnd2 hf
            refine cl_iV C0 hH hl.1 (As := [.int 59]) (rest := []) (mX3_takeSign l D ca a wr u103 59 h_y106) gX3_firstError_X3_takeSign rfl rfl rfl hd_X3_takeSign ⟨Nat.le_of_ble_eq_true rfl, Nat.le_of_ble_eq_true rfl⟩ ⟨Nat.zero_le _, Nat.zero_le _⟩ (vT_X3 C0 hH) rfl (Nat.le_of_ble_eq_true rfl) dX3_firstError_40 (fun H locs hH => ?_)
            refine lv_if_ne (tgt := 51) hx hb dX3_firstError_43 (by decide) (fun c108 => ?_) (fun c108 => ?_)
            · rw [if_neg c108] at hf
              refine lv_iinc (v := (x1 + 1)) (lv' := [(1, .int (x1 + 1)), (0, .ref (a 0))]) hx hb dX3_firstError_51 hl (k := 1) rfl rfl (by decide) rfl (fun ls hl => ?_)
              refine lv_goto (tgt := 6) hx hb dX3_firstError_54 (by decide) ?_
              exact ih _ _ _ _ _ hf hH (lv_sub hl [1, 0] rfl)
            · rw [if_pos c108] at hf
              refine lv_aload_n hx hb dX3_firstError_46 rfl (lv_at hl 0 rfl) ?_
              refine gT_X3_cursor C0 hH inX3_firstError_X3 (by decide +kernel : Cond.fieldLink RX3 19 "GatheringCache$Text" "cursor" "I" ∈ wsX3_firstError) dX3_firstError_47 ?_
              cases hf
              exact hend _ _ _ _ hH rfl dX3_firstError_50
          · rw [if_pos c105] at hf
            refine lv_iconst (v := (-1)) hx hb dX3_firstError_35 (by decide) ?_
            cases hf
            exact hend _ _ _ _ hH rfl dX3_firstError_36
        · rw [if_pos c104] at hf
          refine lv_aload_n hx hb dX3_firstError_19 rfl (lv_at hl 0 rfl) ?_
          refine gT_X3_cursor C0 hH inX3_firstError_X3 (by decide +kernel : Cond.fieldLink RX3 19 "GatheringCache$Text" "cursor" "I" ∈ wsX3_firstError) dX3_firstError_20 ?_
          cases hf
          exact hend _ _ _ _ hH rfl dX3_firstError_23
  unfold pX3_firstError at hf
  refine lv_aload_n hx hb dX3_firstError_0 rfl (lv_at hl 0 rfl) ?_
  obtain ⟨u1, h_u1, hf⟩ := bnd hf
  refine cl_vV C0 hH hl.1 (As := []) (rest := []) (mX3_rewind l D ca a wr u h_u1) gX3_firstError_X3_rewind rfl rfl rfl hd_X3_rewind ⟨Nat.le_of_ble_eq_true rfl, Nat.le_of_ble_eq_true rfl⟩ ⟨Nat.zero_le _, Nat.zero_le _⟩ (vT_X3 C0 hH) rfl (Nat.le_of_ble_eq_true rfl) dX3_firstError_1 (fun H locs hH => ?_)
  refine lv_iconst (v := 0) hx hb dX3_firstError_4 (by decide) ?_
  refine lv_istore_n (lv' := [(1, .int 0), (0, .ref (a 0))]) hx hb dX3_firstError_5 rfl hl (by decide) rfl (fun ls hl => ?_)
  exact J6 FU _ _ _ _ _ hf hH (lv_sub hl [1, 0] rfl)
