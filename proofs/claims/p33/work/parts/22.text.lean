/-! CONTRACTS, by program. -/
def rmJ9_floorMod_7cf53 : Room := { frames := 0, cells := 0, slots := 0, locals := 0 }
theorem hd_J9_floorMod_7cf53 : yJ9_floorMod_7cf53.cls ≠ "java/lang/invoke/MethodHandle" ∧ yJ9_floorMod_7cf53.cls ≠ "java/lang/invoke/VarHandle" ∧ (parseMethodDescriptor yJ9_floorMod_7cf53.desc).map (fun d => d.parameters.length) = some 2 := by decide +kernel
set_option maxHeartbeats 4000000 in
set_option maxRecDepth 100000 in
theorem mJ9_floorMod_7cf53 (l : Launch) (D : va_G) (ca : Gp) (w : va_W) (x0 : Int32) (x1 : Int32) {r : Int32} (hf : pJ9_floorMod_7cf53 x0 x1 = some r) : Mi l yJ9_floorMod_7cf53 wsJ9_floorMod_7cf53 rmJ9_floorMod_7cf53 D ca [.int x0, .int x1] (w) (w) r := by
  refine MiF_of (own := RJ9) (cc := cJ9_floorMod_7cf53) (nL := 3) (ty := .int) (by decide +kernel) rfl rfl rfl rfl (Nat.le_of_ble_eq_true rfl) ?_
  intro p e s m args below meth c Q A ls C0 hH hl hend
  obtain ⟨hx, hb, hml, hown, hts⟩ := id C0.1
  have hl : lv_has ls 3 [(0, .int x0), (1, .int x1)] := hl
  have J18 : ∀ (x2 : Int32) (H : Heap) (locs : List Loc) (ls : Array Slot), pJ9_floorMod_7cf53_18 x2 = some r → HS D A s (w) H locs → lv_has ls 3 [(2, .int x2)] → W p l e rmJ9_floorMod_7cf53 s m args below meth c H locs 0 0 Q (F0 m 18 ls []) := by
    intro x2 H locs ls hf hH hl
    unfold pJ9_floorMod_7cf53_18 at hf
    refine lv_iload_n hx hb dJ9_floorMod_7cf53_18 rfl (lv_at hl 0 rfl) ?_
    cases hf
    exact hend _ _ _ _ hH rfl dJ9_floorMod_7cf53_19
  unfold pJ9_floorMod_7cf53 at hf
  refine lv_iload_n hx hb dJ9_floorMod_7cf53_0 rfl (lv_at hl 0 rfl) ?_
  refine lv_iload_n hx hb dJ9_floorMod_7cf53_1 rfl (lv_at hl 1 rfl) ?_
  obtain ⟨y1, h_y1, hf⟩ := bnd hf
  refine lv_irem hx hb dJ9_floorMod_7cf53_2 (nzr_s h_y1) ?_
  refine lv_istore_n (lv' := [(2, .int (x0 - x0 / x1 * x1)), (0, .int x0), (1, .int x1)]) hx hb dJ9_floorMod_7cf53_3 rfl hl (by decide) rfl (fun ls hl => ?_)
  refine lv_iload_n hx hb dJ9_floorMod_7cf53_4 rfl (lv_at hl 1 rfl) ?_
  refine lv_iload_n hx hb dJ9_floorMod_7cf53_5 rfl (lv_at hl 2 rfl) ?_
  refine lv_ixor hx hb dJ9_floorMod_7cf53_6 ?_
  refine lv_if_ge (tgt := 18) hx hb dJ9_floorMod_7cf53_7 (by decide) (fun c2 => ?_) (fun c2 => ?_)
  · rw [if_pos c2] at hf
    exact J18 _ _ _ _ hf hH (lv_sub hl [0] rfl)
  · rw [if_neg c2] at hf
    refine lv_iload_n hx hb dJ9_floorMod_7cf53_10 rfl (lv_at hl 0 rfl) ?_
    refine lv_if_eq (tgt := 18) hx hb dJ9_floorMod_7cf53_11 (by decide) (fun c3 => ?_) (fun c3 => ?_)
    · rw [if_pos c3] at hf
      exact J18 _ _ _ _ hf hH (lv_sub hl [0] rfl)
    · rw [if_neg c3] at hf
      refine lv_iload_n hx hb dJ9_floorMod_7cf53_14 rfl (lv_at hl 0 rfl) ?_
      refine lv_iload_n hx hb dJ9_floorMod_7cf53_15 rfl (lv_at hl 2 rfl) ?_
      refine lv_iadd hx hb dJ9_floorMod_7cf53_16 ?_
      cases hf
      exact hend _ _ _ _ hH rfl dJ9_floorMod_7cf53_17
