/-! CASE 27 AND THE LAW'S LOOP. -/
def StepF (Sim : Mem → Mem → Mem → Mem → (Nat → Mem) → Prop) (v t u hh : Mem) (S : Nat → Mem) : Prop := FRv (u 10 8) (u 10 7) = FRv (v 1 14) (v 1 13) ∧ Sim (mset v 0 0 0) t u hh S
section LOOPF
variable {p : Program} {l : Launch} {e : Env} {R : Room} {s : State} {m : MethodId} {args : Array Value} {below : List Frame} {meth : Method} {c : Code} {H : Heap} {locs : List Loc} {cells slots : Nat} {Q : State → Prop} {cc : ByteArray} {pc nL : Nat} {ls : Array Slot} {rest st0 : List Value} {D : va_G} {ca : Gp} {A : Nat → Prop} {Ts : List Cond} {own : String} {w w' : va_W}
theorem cl_fV {y : MethodName} {bytes : ByteArray} {maxL index : Nat} {ret : Option FieldType} {ws ws' : List Cond} {rm : Room} {C : String} {b : Addr} {As : List Value} {PP : UInt32 → Prop} {d0 : Drawn}
    (hd0 : s.drawn.sameBut d0 lw_cs) (C0 : Cx p s m args c cc nL Ts own D ca A) (hH : HS D A s w H locs) (hl : ls.size = nL) (hM : Mf l y ws rm D ca (.ref b :: As) w w' PP)
    (hG : GoodIn Ts (wsV own index C y ws)) (hw : ws = Cond.code y bytes maxL ret :: ws') (hrc : rm.cells = 0) (hrs : rm.slots = 0)
    (hd : y.cls = C ∧ y.cls ≠ "java/lang/invoke/MethodHandle" ∧ y.cls ≠ "java/lang/invoke/VarHandle" ∧ (parseMethodDescriptor y.desc).map (fun d => d.parameters.length) = some As.length) (hR : rm.frames + 1 ≤ R.frames ∧ 8 + (maxL + 11) + rm.locals ≤ R.locals) (hf : cells ≤ R.cells ∧ slots ≤ R.slots)
    (hv : ∃ cell : Cell, H[b]? = some cell ∧ cell.vm.isStatics = false ∧ s.vm.findClass C = some cell.cls)
    (hst : st0 = As.reverse ++ .ref b :: rest) (hcat : (rest.map fun v => v.category).sum ≤ 8) (hdg : decode cc pc = .ok (.invokevirtual index, 3))
    (kk : ∀ (r : UInt32) (d1 : Drawn) (H1 : Heap) (locs1 : List Loc), PP r → s.drawn.sameBut d1 lw_cs → HS D A s w' H1 locs1 → W p l e R (s.setDrawn d1) m args below meth c H1 locs1 cells slots Q (F0 m (pc + 3) ls (.float r :: rest))) : W p l e R (s.setDrawn d0) m args below meth c H locs cells slots Q (F0 m pc ls st0) := by
  have C1 := C0.drawn d0
  obtain ⟨hx, hb, hml, hown, hts⟩ := C1.1
  refine va_callfD hd0 (va_runV_D (As := As) (rest := rest) ⟨hx, hb, hml, hown, hts⟩ (hM H.size) (cwV As.length hts hG hw hrc hrs hd hR) ⟨PcM_blind, hv, fun U hU hW => ⟨rfl, PcM_at C1 hH U hU hW⟩⟩ rfl rfl hl hst (lv_room hcat) hdg ⟨hf.1, hf.2⟩) hH.2.2 (fun q _ h => hH.free C0 q h) (hH.free C0) (fun r1 u t H1 locs1 ht hvm hr hB hz1 hk1 hS d3 hd3 => ?_)
  subst hw
  exact kk r1 d3 H1 locs1 hr hd3 (hH.back C0 ht hB hS)
end LOOPF

set_option maxHeartbeats 4000000 in
set_option maxRecDepth 100000 in
theorem law_27 {p : Program} {l : Launch} {e : Env} {s : State} {m : MethodId} {args : Array Value} {below : List Frame} {meth : Method} {c : Code} {H : Heap} {locs : List Loc} {cells slots : Nat} {Q : State → Prop} {ls : Array Slot} {D : va_G} {ca : Gp} {A : Nat → Prop} {b0 L o : Nat} {xs : Nat → Int32} {d a b h : Nat → Nat} {f : Nat → Nat → Nat} {ol : Nat → Int64} {v t u hh : Mem} {S : Nat → Mem} {x4 : Int32} {d0 : Drawn} {Sim : Mem → Mem → Mem → Mem → (Nat → Mem) → Prop} (hd0 : s.drawn.sameBut d0 lw_cs) (C0 : Cx p s m args c cL_law 9 wsL_law RL D ca A) (hH : HS D A s (LW o d a b h f ca ol v t u hh S) H locs) (hl : lv_has ls 9 [(0, .ref b0), (1, .ref (h 2)), (2, .ref (d 0)), (3, .ref o), (4, .int x4)]) (hroom : cells ≤ room_1.cells ∧ slots ≤ room_1.slots) (ok : StepF Sim v t u hh S) (K : ∀ (ol : Nat → Int64) (v t u hh : Mem) (S : Nat → Mem) (H : Heap) (locs : List Loc) (ls : Array Slot) (d1 : Drawn), s.drawn.sameBut d1 lw_cs → Sim v t u hh S → HS D A s (LW o d a b h f ca ol v t u hh S) H locs → lv_has ls 9 [(0, .ref b0), (1, .ref (h 2)), (2, .ref (d 0)), (3, .ref o), (4, .int x4)] → W p l e room_1 (s.setDrawn d1) m args below meth c H locs (cells) (slots) Q (F0 m 1331 ls [])) : W p l e room_1 (s.setDrawn d0) m args below meth c H locs cells slots Q (F0 m 1262 ls []) := by
  obtain ⟨hx, hb, hml, hown, hts⟩ := id C0.1
  obtain ⟨hF, hs⟩ := ok
  refine lv_aload_n hx hb dL_law_1262 rfl (lv_at hl 1 rfl) ?_
  have hH := hH.perm LW_g
  refine cl_fV hd0 C0 hH hl.1 (As := []) (rest := []) (mX4_blocksPerStripe l D ca a b h f (oW o ca ol ++ (mW d ca v ++ [])) t u hh S) gL_law_X4_blocksPerStripe rfl rfl rfl hd_X4_blocksPerStripe ⟨Nat.le_of_ble_eq_true rfl, Nat.le_of_ble_eq_true rfl⟩ hroom (vG_X4 C0 hH) rfl (Nat.le_of_ble_eq_true rfl) dL_law_1263 (fun r1 d1 H locs hr1 hd1 hH => ?_)
  have hH := hH.perm LW_g.symm
  refine lv_f2d_any hd1 lw_bits hx hb dL_law_1266 (fun p1 d2 hp hd2 => ?_)
  refine lv_dstore (lv' := [(5, .double p1), (0, .ref b0), (1, .ref (h 2)), (2, .ref (d 0)), (3, .ref o), (4, .int x4)]) hx hb dL_law_1267 hl (by decide) rfl (fun ls hl => ?_)
  refine lv_aload_n hx hb dL_law_1269 rfl (lv_at hl 3 rfl) ?_
  have hH := hH.perm LW_m
  refine cl_fV hd2 C0 hH hl.1 (As := []) (rest := []) (mX5_blocksPerStripe l D ca d (oW o ca ol ++ gW a b h f ca t u hh S []) v) gL_law_X5_blocksPerStripe rfl rfl rfl hd_X5_blocksPerStripe ⟨Nat.le_of_ble_eq_true rfl, Nat.le_of_ble_eq_true rfl⟩ hroom (vM_X5 C0 hH) rfl (Nat.le_of_ble_eq_true rfl) dL_law_1270 (fun r2 d3 H locs hr2 hd3 hH => ?_)
  have hH := hH.perm LW_m.symm
  refine lv_f2d_any hd3 lw_bits hx hb dL_law_1273 (fun q d4 hq hd4 => ?_)
  refine lv_dstore (lv' := [(7, .double q), (5, .double p1), (0, .ref b0), (1, .ref (h 2)), (2, .ref (d 0)), (3, .ref o), (4, .int x4)]) hx hb dL_law_1274 hl (by decide) rfl (fun ls hl => ?_)
  rw [← hF] at hr2
  have key : Op.cmpValue (FP.dcmp p1 q) CmpOp.l = 0 ∨ (isNaN64 p1 = true ∧ isNaN64 q = true) := by
    rcases alike_two hr1 hr2 hp hq with e9 | h9
    · subst e9
      by_cases n9 : isNaN64 p1 = true
      · exact Or.inr ⟨n9, n9⟩
      · exact Or.inl (cmp_self n9)
    · exact Or.inr h9
  refine lv_dload hx hb dL_law_1276 (lv_at hl 1 rfl) ?_
  refine lv_dload hx hb dL_law_1278 (lv_at hl 0 rfl) ?_
  refine lv_dcmp hx hb dL_law_1280 ?_
  refine lv_if_eq (tgt := 1302) hx hb dL_law_1281 (by decide) (fun c9 => ?_) (fun c9 => ?_)
  · refine lv_goto (tgt := 1331) hx hb dL_law_1302 (by decide) ?_
    exact (show W p l e room_1 (s.setDrawn d4) m args below meth c H locs cells slots Q (F0 m 1331 ls []) from K _ _ _ _ _ _ _ _ _ d4 hd4 hs hH (lv_sub hl [2, 3, 4, 5, 6] rfl))
  · obtain ⟨n1, n2⟩ := key.resolve_left c9
    refine lv_dload hx hb dL_law_1284 (lv_at hl 1 rfl) ?_
    refine lv_dload hx hb dL_law_1286 (lv_at hl 1 rfl) ?_
    refine lv_dcmp hx hb dL_law_1288 ?_
    refine lv_if_eq (tgt := 1300) hx hb dL_law_1289 (by decide) (fun c8 => absurd c8 (by rw [cmp_nan n1]; decide)) (fun c8 => ?_)
    refine lv_dload hx hb dL_law_1292 (lv_at hl 0 rfl) ?_
    refine lv_dload hx hb dL_law_1294 (lv_at hl 0 rfl) ?_
    refine lv_dcmp hx hb dL_law_1296 ?_
    refine lv_if_ne (tgt := 1302) hx hb dL_law_1297 (by decide) (fun c7 => ?_) (fun c7 => absurd c7 (by rw [cmp_nan n2]; decide))
    refine lv_goto (tgt := 1331) hx hb dL_law_1302 (by decide) ?_
    exact (show W p l e room_1 (s.setDrawn d4) m args below meth c H locs cells slots Q (F0 m 1331 ls []) from K _ _ _ _ _ _ _ _ _ d4 hd4 hs hH (lv_sub hl [2, 3, 4, 5, 6] rfl))
/-- each of the script's calls, of both sides alike, out of states alike -/
def Oks (Sim : Nat → Mem → Mem → Mem → Mem → (Nat → Mem) → Prop) : Prop := ∀ (n : Nat) (v t u hh : Mem) (S : Nat → Mem), n < 512 → Sim n v t u hh S → (∀ x y : Int32, StepA (Sim (n + 1)) (pX4_write t u hh S x y) (tX4_write t u hh S x y) (pX5_write v x y) ["java/lang/IndexOutOfBoundsException", "java/lang/IllegalArgumentException", "java/lang/IllegalStateException"] u hh S) ∧ (∀ x : Int32, StepA (Sim (n + 1)) (pX4_read t u hh S x) (tX4_read t u hh S x) (pX5_read v x) ["java/lang/IndexOutOfBoundsException", "java/lang/IllegalStateException"] u hh S) ∧ (∀ x : Int32, StepA (Sim (n + 1)) (pX4_destage t u hh S x) (tX4_destage t u hh S x) (pX5_destage v x) ["java/lang/IndexOutOfBoundsException", "java/lang/IllegalStateException"] u hh S) ∧ (StepA (Sim (n + 1)) (pX4_destageAll t u hh S ) (tX4_destageAll t u hh S ) (pX5_destageAll v ) ["java/lang/IllegalStateException"] u hh S) ∧ (∀ x : Int32, StepA (Sim (n + 1)) (pX4_pass t u hh S x) (tX4_pass t u hh S x) (pX5_pass v x) ["java/lang/IllegalArgumentException"] u hh S) ∧ (∀ x : Int32, StepA (Sim (n + 1)) (pX4_setLimit t u hh S x) (tX4_setLimit t u hh S x) (pX5_setLimit v x) ["java/lang/IllegalArgumentException"] u hh S) ∧ (∀ x : Int32, StepC (Sim (n + 1)) (pX4_power t u hh S (bz x)) (pX5_power v (bz x))) ∧ (∀ x : Int32, StepA (Sim (n + 1)) (pX4_moveStick t u hh S (bz x)) (tX4_moveStick t u hh S (bz x)) (pX5_moveStick v (bz x)) ["java/lang/IllegalStateException"] u hh S) ∧ (∀ x : Int32, StepA (Sim (n + 1)) (pX4_appendText t u hh S x) (tX4_appendText t u hh S x) (pX5_appendText v x) ["java/lang/IllegalArgumentException", "java/lang/IllegalStateException"] u hh S) ∧ (StepC (Sim (n + 1)) (pX4_clearText t u hh S ) (pX5_clearText v )) ∧ (StepC (Sim (n + 1)) (pX4_errorPosition t u hh S ) (pX5_errorPosition v )) ∧ (StepA (Sim (n + 1)) (pX4_runText t u hh S ) (tX4_runText t u hh S ) (pX5_runText v ) ["java/lang/IllegalStateException"] u hh S) ∧ (StepA (Sim (n + 1)) (pX4_undo t u hh S ) (tX4_undo t u hh S ) (pX5_undo v ) ["java/lang/IllegalStateException"] u hh S) ∧ (StepD (Sim (n + 1)) (pX4_isOn t u hh S ) (pX5_isOn v ) t u hh S) ∧ (StepD (Sim (n + 1)) (pX4_isIn t u hh S ) (pX5_isIn v ) t u hh S) ∧ (StepD (Sim (n + 1)) (pX4_charge t u hh S ) (pX5_charge v ) t u hh S) ∧ (∀ x y z : Int32, StepB (Sim (n + 1)) (pX4_line t u hh S x y z) (tX4_line t u hh S x y z) (pX5_line v x y z) ["java/lang/IndexOutOfBoundsException", "java/lang/IllegalArgumentException"] t u hh S) ∧ (∀ x : Int32, StepB (Sim (n + 1)) (pX4_dirtyOf t u hh S x) (tX4_dirtyOf t u hh S x) (pX5_dirtyOf v x) ["java/lang/IndexOutOfBoundsException"] t u hh S) ∧ (StepD (Sim (n + 1)) (pX4_dirty t u hh S ) (pX5_dirty v ) t u hh S) ∧ (StepD (Sim (n + 1)) (pX4_used t u hh S ) (pX5_used v ) t u hh S) ∧ (∀ x : Int32, StepB (Sim (n + 1)) (pX4_onDisk t u hh S x) (tX4_onDisk t u hh S x) (pX5_onDisk v x) ["java/lang/IndexOutOfBoundsException"] t u hh S) ∧ (∀ x : Int32, StepB (Sim (n + 1)) (pX4_isFound t u hh S x) (tX4_isFound t u hh S x) (pX5_isFound v x) ["java/lang/IndexOutOfBoundsException"] t u hh S) ∧ (StepD (Sim (n + 1)) (pX4_missing t u hh S ) (pX5_missing v ) t u hh S) ∧ (∀ x : Int32, StepB (Sim (n + 1)) (pX4_ifWritten t u hh S x) (tX4_ifWritten t u hh S x) (pX5_ifWritten v x) ["java/lang/IndexOutOfBoundsException"] t u hh S) ∧ (StepD (Sim (n + 1)) (pX4_ifDestaged t u hh S ) (pX5_ifDestaged v ) t u hh S) ∧ (StepD (Sim (n + 1)) (pX4_ticksToLoss t u hh S ) (pX5_ticksToLoss v ) t u hh S) ∧ (∀ x : Int32, StepB (Sim (n + 1)) (pX4_count t u hh S x) (tX4_count t u hh S x) (pX5_count v x) ["java/lang/IllegalArgumentException"] t u hh S) ∧ (StepF (Sim (n + 1)) v t u hh S) ∧ (StepD (Sim (n + 1)) (pX4_savedStates t u hh S ) (pX5_savedStates v ) t u hh S) ∧ (StepD (Sim (n + 1)) (pX4_textLength t u hh S ) (pX5_textLength v ) t u hh S) ∧ (Sim (n + 1) v t u hh S)
theorem loop_gt {L j : Nat} (hL : L ≤ 2048) (hj : L < 4 * j + 4) (hj2 : 4 * j < 4096 := by omega) : Int32.ofNat L - 4 < nI (4 * j) := by
  have e1 : (Int32.ofNat L - 4).toInt = (L : Int) - 4 := pk_sub_toInt (a := L) (b := 4) (by omega) (by omega)
  rw [Int32.lt_iff_toInt_lt, e1, nI_toInt (by omega)]
  omega
theorem loop_le {L j : Nat} (hL : L ≤ 2048) (h : ¬ Int32.ofNat L - 4 < nI (4 * j)) (hj2 : 4 * j < 4096 := by omega) : 4 * j + 4 ≤ L := by
  have e1 : (Int32.ofNat L - 4).toInt = (L : Int) - 4 := pk_sub_toInt (a := L) (b := 4) (by omega) (by omega)
  rw [Int32.lt_iff_toInt_lt, e1, nI_toInt (by omega)] at h
  omega

set_option maxHeartbeats 8000000 in
set_option maxRecDepth 100000 in
theorem law_loop {p : Program} {l : Launch} {e : Env} {s : State} {m : MethodId} {args : Array Value} {below : List Frame} {meth : Method} {c : Code} {Q : State → Prop} {D : va_G} {ca : Gp} {A : Nat → Prop} {b0 L o : Nat} {xs : Nat → Int32} {d a b h : Nat → Nat} {f : Nat → Nat → Nat} {Sim : Nat → Mem → Mem → Mem → Mem → (Nat → Mem) → Prop} (C0 : Cx p s m args c cL_law 9 wsL_law RL D ca A) (hfl : l.stackTraces = false) (hX : va_X b0 L xs s s.heap) (hbl : b0 < s.heap.size) (hbA : ¬ A b0) (hL : L ≤ 2048) (ok : Oks Sim) (hend : ∀ (H : Heap) (locs : List Loc) (ls : Array Slot) (d1 : Drawn) (cells slots : Nat), s.drawn.sameBut d1 lw_cs → cells ≤ 598 → slots ≤ 7516 → va_S A s.heap H locs → W p l e room_1 (s.setDrawn d1) m args below meth c H locs cells slots Q (F0 m 1338 ls [.int 1])) : ∀ (k j : Nat) (d0 : Drawn) (cells slots : Nat) (H : Heap) (locs : List Loc) (ls : Array Slot) (ol : Nat → Int64) (v t u hh : Mem) (S : Nat → Mem), j + k = 512 → cells = 86 + j → slots = 4444 + 6 * j → s.drawn.sameBut d0 lw_cs → Sim j v t u hh S → HS D A s (LW o d a b h f ca ol v t u hh S) H locs → lv_has ls 9 [(0, .ref b0), (1, .ref (h 2)), (2, .ref (d 0)), (3, .ref o), (4, .int (nI (4 * j)))] → W p l e room_1 (s.setDrawn d0) m args below meth c H locs cells slots Q (F0 m 23 ls []) := by
  intro k
  induction k with
  | zero =>
    intro j d0 cells slots H locs ls ol v t u hh S hj hc hsl hd0 hs hH hl
    obtain ⟨hx, hb, hml, hown, hts⟩ := id C0.1
    refine lv_iload hx hb dL_law_23 (lv_at hl 4 rfl) ?_
    refine lv_aload_n hx hb dL_law_25 rfl (lv_at hl 0 rfl) ?_
    refine va_slen hx hb hX hbl hbA hH.2.2 dL_law_26 ?_
    refine lv_iconst (v := 4) hx hb dL_law_27 (by decide) ?_
    refine lv_isub hx hb dL_law_28 ?_
    refine lv_icmp_gt (tgt := 1337) hx hb dL_law_29 (by decide) (fun c1 => ?_) (fun c1 => absurd (loop_gt hL (by omega)) c1)
    refine lv_iconst (v := 1) hx hb dL_law_1337 (by decide) ?_
    exact hend H locs ls d0 cells slots hd0 (by omega) (by omega) hH.2.2
  | succ k ih =>
    intro j d0 cells slots H locs ls ol v t u hh S hj hc hsl hd0 hs hH hl
    obtain ⟨hx, hb, hml, hown, hts⟩ := id C0.1
    refine lv_iload hx hb dL_law_23 (lv_at hl 4 rfl) ?_
    refine lv_aload_n hx hb dL_law_25 rfl (lv_at hl 0 rfl) ?_
    refine va_slen hx hb hX hbl hbA hH.2.2 dL_law_26 ?_
    refine lv_iconst (v := 4) hx hb dL_law_27 (by decide) ?_
    refine lv_isub hx hb dL_law_28 ?_
    refine lv_icmp_gt (tgt := 1337) hx hb dL_law_29 (by decide) (fun c1 => ?_) (fun c1 => ?_)
    · refine lv_iconst (v := 1) hx hb dL_law_1337 (by decide) ?_
      exact hend H locs ls d0 cells slots hd0 (by omega) (by omega) hH.2.2
    · have h4 : 4 * j + 4 ≤ L := loop_le hL c1
      have h0 : vp_in (nI (4 * j)) L := vp_in_nI (by omega) (by omega)
      have h1 : vp_in (nI (4 * j) + 1) L := by rw [show (1 : Int32) = nI 1 from rfl, nI_add]; exact vp_in_nI (by omega) (by omega)
      have h2 : vp_in (nI (4 * j) + 2) L := by rw [show (2 : Int32) = nI 2 from rfl, nI_add]; exact vp_in_nI (by omega) (by omega)
      have h3 : vp_in (nI (4 * j) + 3) L := by rw [show (3 : Int32) = nI 3 from rfl, nI_add]; exact vp_in_nI (by omega) (by omega)
      have hrm : cells + 1 ≤ room_1.cells ∧ slots + 6 ≤ room_1.slots := ⟨Nat.le_trans (show cells + 1 ≤ 599 by omega) (Nat.le_of_ble_eq_true rfl), Nat.le_trans (show slots + 6 ≤ 7600 by omega) (Nat.le_of_ble_eq_true rfl)⟩
      have K : ∀ (ol : Nat → Int64) (v t u hh : Mem) (S : Nat → Mem) (H : Heap) (locs : List Loc) (ls : Array Slot) (d1 : Drawn), s.drawn.sameBut d1 lw_cs → Sim (j + 1) v t u hh S → HS D A s (LW o d a b h f ca ol v t u hh S) H locs → lv_has ls 9 [(0, .ref b0), (1, .ref (h 2)), (2, .ref (d 0)), (3, .ref o), (4, .int (nI (4 * j)))] → W p l e room_1 (s.setDrawn d1) m args below meth c H locs (cells + 1) (slots + 6) Q (F0 m 1331 ls []) := by
        intro ol v t u hh S H locs ls d1 hd1 hs hH hl
        refine lv_iinc (k := 4) (lv' := [(4, .int (nI (4 * (j + 1)))), (0, .ref b0), (1, .ref (h 2)), (2, .ref (d 0)), (3, .ref o)]) hx hb dL_law_1331 hl rfl (v := nI (4 * (j + 1))) (by rw [show Int32.ofInt 4 = nI 4 from rfl, nI_add]; rfl) (by decide) rfl (fun ls hl => ?_)
        refine lv_goto (tgt := 23) hx hb dL_law_1334 (by decide) ?_
        exact ih (j + 1) d1 (cells + 1) (slots + 6) H locs ls ol v t u hh S (by omega) (by omega) (by omega) hd1 hs hH (lv_sub hl [1, 2, 3, 4, 0] rfl)
      refine lv_aload_n hx hb dL_law_32 rfl (lv_at hl 0 rfl) ?_
      refine lv_iload hx hb dL_law_33 (lv_at hl 4 rfl) ?_
      refine va_sld (s := s.setDrawn d0) (H0 := s.heap) hx hb hX hbl hbA hH.2.2 h0 dL_law_35 ?_
      refine lv_bipush (v := 31) hx hb dL_law_36 (by decide) ?_
      refine lv_iand hx hb dL_law_38 ?_
      obtain ⟨q9, hq9, e9⟩ := pk_andE (xs (nI (4 * j)).toNatClampNeg) 5 (m := 31) (by decide)
      rw [e9]
      obtain ⟨o0, o1, o2, o3, o4, o5, o6, o7, o8, o9, o10, o11, o12, o13, o14, o15, o16, o17, o18, o19, o20, o21, o22, o23, o24, o25, o26, o27, o28, o29, o30⟩ := ok j v t u hh S (by omega) hs
      by_cases k0 : q9 = 0
      · subst k0
        refine sw_in (v := nI 0) (tgt := 172) hx hb rfl dL_law_39 (by decide +kernel) (by decide +kernel) (off := 133) (by decide +kernel) (by decide) ?_
        exact law_0 (s := s.setDrawn d0) (C0.drawn d0) hfl hX hbl hbA hH hl h1 h2 h3 hrm (o0 (xs (nI (4 * j) + 1).toNatClampNeg) (xs (nI (4 * j) + 2).toNatClampNeg)) (fun ol v t u hh S H locs ls hs hH hl => K ol v t u hh S H locs ls d0 hd0 hs hH hl)
      by_cases k1 : q9 = 1
      · subst k1
        refine sw_in (v := nI 1) (tgt := 240) hx hb rfl dL_law_39 (by decide +kernel) (by decide +kernel) (off := 201) (by decide +kernel) (by decide) ?_
        exact law_1 (s := s.setDrawn d0) (C0.drawn d0) hfl hX hbl hbA hH hl h1 h2 h3 hrm (o1 (xs (nI (4 * j) + 1).toNatClampNeg)) (fun ol v t u hh S H locs ls hs hH hl => K ol v t u hh S H locs ls d0 hd0 hs hH hl)
      by_cases k2 : q9 = 2
      · subst k2
        refine sw_in (v := nI 2) (tgt := 296) hx hb rfl dL_law_39 (by decide +kernel) (by decide +kernel) (off := 257) (by decide +kernel) (by decide) ?_
        exact law_2 (s := s.setDrawn d0) (C0.drawn d0) hfl hX hbl hbA hH hl h1 h2 h3 hrm (o2 (xs (nI (4 * j) + 1).toNatClampNeg)) (fun ol v t u hh S H locs ls hs hH hl => K ol v t u hh S H locs ls d0 hd0 hs hH hl)
      by_cases k3 : q9 = 3
      · subst k3
        refine sw_in (v := nI 3) (tgt := 352) hx hb rfl dL_law_39 (by decide +kernel) (by decide +kernel) (off := 313) (by decide +kernel) (by decide) ?_
        exact law_3 (s := s.setDrawn d0) (C0.drawn d0) hfl hX hbl hbA hH hl h1 h2 h3 hrm (o3) (fun ol v t u hh S H locs ls hs hH hl => K ol v t u hh S H locs ls d0 hd0 hs hH hl)
      by_cases k4 : q9 = 4
      · subst k4
        refine sw_in (v := nI 4) (tgt := 396) hx hb rfl dL_law_39 (by decide +kernel) (by decide +kernel) (off := 357) (by decide +kernel) (by decide) ?_
        exact law_4 (s := s.setDrawn d0) (C0.drawn d0) hfl hX hbl hbA hH hl h1 h2 h3 hrm (o4 (xs (nI (4 * j) + 1).toNatClampNeg)) (fun ol v t u hh S H locs ls hs hH hl => K ol v t u hh S H locs ls d0 hd0 hs hH hl)
      by_cases k5 : q9 = 5
      · subst k5
        refine sw_in (v := nI 5) (tgt := 452) hx hb rfl dL_law_39 (by decide +kernel) (by decide +kernel) (off := 413) (by decide +kernel) (by decide) ?_
        exact law_5 (s := s.setDrawn d0) (C0.drawn d0) hfl hX hbl hbA hH hl h1 h2 h3 hrm (o5 (xs (nI (4 * j) + 1).toNatClampNeg)) (fun ol v t u hh S H locs ls hs hH hl => K ol v t u hh S H locs ls d0 hd0 hs hH hl)
      by_cases k6 : q9 = 6
      · subst k6
        refine sw_in (v := nI 6) (tgt := 508) hx hb rfl dL_law_39 (by decide +kernel) (by decide +kernel) (off := 469) (by decide +kernel) (by decide) ?_
        exact law_6 (s := s.setDrawn d0) (C0.drawn d0) hfl hX hbl hbA hH hl h1 h2 h3 hrm (o6 (xs (nI (4 * j) + 1).toNatClampNeg)) (fun ol v t u hh S H locs ls hs hH hl => K ol v t u hh S H locs ls d0 hd0 hs hH hl)
      by_cases k7 : q9 = 7
      · subst k7
        refine sw_in (v := nI 7) (tgt := 549) hx hb rfl dL_law_39 (by decide +kernel) (by decide +kernel) (off := 510) (by decide +kernel) (by decide) ?_
        exact law_7 (s := s.setDrawn d0) (C0.drawn d0) hfl hX hbl hbA hH hl h1 h2 h3 hrm (o7 (xs (nI (4 * j) + 1).toNatClampNeg)) (fun ol v t u hh S H locs ls hs hH hl => K ol v t u hh S H locs ls d0 hd0 hs hH hl)
      by_cases k8 : q9 = 8
      · subst k8
        refine sw_in (v := nI 8) (tgt := 621) hx hb rfl dL_law_39 (by decide +kernel) (by decide +kernel) (off := 582) (by decide +kernel) (by decide) ?_
        exact law_8 (s := s.setDrawn d0) (C0.drawn d0) hfl hX hbl hbA hH hl h1 h2 h3 hrm (o8 (xs (nI (4 * j) + 1).toNatClampNeg)) (fun ol v t u hh S H locs ls hs hH hl => K ol v t u hh S H locs ls d0 hd0 hs hH hl)
      by_cases k9 : q9 = 9
      · subst k9
        refine sw_in (v := nI 9) (tgt := 677) hx hb rfl dL_law_39 (by decide +kernel) (by decide +kernel) (off := 638) (by decide +kernel) (by decide) ?_
        exact law_9 (s := s.setDrawn d0) (C0.drawn d0) hfl hX hbl hbA hH hl h1 h2 h3 hrm (o9) (fun ol v t u hh S H locs ls hs hH hl => K ol v t u hh S H locs ls d0 hd0 hs hH hl)
      by_cases k10 : q9 = 10
      · subst k10
        refine sw_in (v := nI 10) (tgt := 690) hx hb rfl dL_law_39 (by decide +kernel) (by decide +kernel) (off := 651) (by decide +kernel) (by decide) ?_
        exact law_10 (s := s.setDrawn d0) (C0.drawn d0) hfl hX hbl hbA hH hl h1 h2 h3 hrm (o10) (fun ol v t u hh S H locs ls hs hH hl => K ol v t u hh S H locs ls d0 hd0 hs hH hl)
      by_cases k11 : q9 = 11
      · subst k11
        refine sw_in (v := nI 11) (tgt := 703) hx hb rfl dL_law_39 (by decide +kernel) (by decide +kernel) (off := 664) (by decide +kernel) (by decide) ?_
        exact law_11 (s := s.setDrawn d0) (C0.drawn d0) hfl hX hbl hbA hH hl h1 h2 h3 hrm (o11) (fun ol v t u hh S H locs ls hs hH hl => K ol v t u hh S H locs ls d0 hd0 hs hH hl)
      by_cases k12 : q9 = 12
      · subst k12
        refine sw_in (v := nI 12) (tgt := 747) hx hb rfl dL_law_39 (by decide +kernel) (by decide +kernel) (off := 708) (by decide +kernel) (by decide) ?_
        exact law_12 (s := s.setDrawn d0) (C0.drawn d0) hfl hX hbl hbA hH hl h1 h2 h3 hrm (o12) (fun ol v t u hh S H locs ls hs hH hl => K ol v t u hh S H locs ls d0 hd0 hs hH hl)
      by_cases k13 : q9 = 13
      · subst k13
        refine sw_in (v := nI 13) (tgt := 791) hx hb rfl dL_law_39 (by decide +kernel) (by decide +kernel) (off := 752) (by decide +kernel) (by decide) ?_
        exact law_13 (s := s.setDrawn d0) (C0.drawn d0) hfl hX hbl hbA hH hl h1 h2 h3 hrm (o13) (fun ol v t u hh S H locs ls hs hH hl => K ol v t u hh S H locs ls d0 hd0 hs hH hl)
      by_cases k14 : q9 = 14
      · subst k14
        refine sw_in (v := nI 14) (tgt := 804) hx hb rfl dL_law_39 (by decide +kernel) (by decide +kernel) (off := 765) (by decide +kernel) (by decide) ?_
        exact law_14 (s := s.setDrawn d0) (C0.drawn d0) hfl hX hbl hbA hH hl h1 h2 h3 hrm (o14) (fun ol v t u hh S H locs ls hs hH hl => K ol v t u hh S H locs ls d0 hd0 hs hH hl)
      by_cases k15 : q9 = 15
      · subst k15
        refine sw_in (v := nI 15) (tgt := 817) hx hb rfl dL_law_39 (by decide +kernel) (by decide +kernel) (off := 778) (by decide +kernel) (by decide) ?_
        exact law_15 (s := s.setDrawn d0) (C0.drawn d0) hfl hX hbl hbA hH hl h1 h2 h3 hrm (o15) (fun ol v t u hh S H locs ls hs hH hl => K ol v t u hh S H locs ls d0 hd0 hs hH hl)
      by_cases k16 : q9 = 16
      · subst k16
        refine sw_in (v := nI 16) (tgt := 830) hx hb rfl dL_law_39 (by decide +kernel) (by decide +kernel) (off := 791) (by decide +kernel) (by decide) ?_
        exact law_16 (s := s.setDrawn d0) (C0.drawn d0) hfl hX hbl hbA hH hl h1 h2 h3 hrm (o16 (xs (nI (4 * j) + 1).toNatClampNeg) (xs (nI (4 * j) + 2).toNatClampNeg) (xs (nI (4 * j) + 3).toNatClampNeg)) (fun ol v t u hh S H locs ls hs hH hl => K ol v t u hh S H locs ls d0 hd0 hs hH hl)
      by_cases k17 : q9 = 17
      · subst k17
        refine sw_in (v := nI 17) (tgt := 910) hx hb rfl dL_law_39 (by decide +kernel) (by decide +kernel) (off := 871) (by decide +kernel) (by decide) ?_
        exact law_17 (s := s.setDrawn d0) (C0.drawn d0) hfl hX hbl hbA hH hl h1 h2 h3 hrm (o17 (xs (nI (4 * j) + 1).toNatClampNeg)) (fun ol v t u hh S H locs ls hs hH hl => K ol v t u hh S H locs ls d0 hd0 hs hH hl)
      by_cases k18 : q9 = 18
      · subst k18
        refine sw_in (v := nI 18) (tgt := 966) hx hb rfl dL_law_39 (by decide +kernel) (by decide +kernel) (off := 927) (by decide +kernel) (by decide) ?_
        exact law_18 (s := s.setDrawn d0) (C0.drawn d0) hfl hX hbl hbA hH hl h1 h2 h3 hrm (o18) (fun ol v t u hh S H locs ls hs hH hl => K ol v t u hh S H locs ls d0 hd0 hs hH hl)
      by_cases k19 : q9 = 19
      · subst k19
        refine sw_in (v := nI 19) (tgt := 979) hx hb rfl dL_law_39 (by decide +kernel) (by decide +kernel) (off := 940) (by decide +kernel) (by decide) ?_
        exact law_19 (s := s.setDrawn d0) (C0.drawn d0) hfl hX hbl hbA hH hl h1 h2 h3 hrm (o19) (fun ol v t u hh S H locs ls hs hH hl => K ol v t u hh S H locs ls d0 hd0 hs hH hl)
      by_cases k20 : q9 = 20
      · subst k20
        refine sw_in (v := nI 20) (tgt := 992) hx hb rfl dL_law_39 (by decide +kernel) (by decide +kernel) (off := 953) (by decide +kernel) (by decide) ?_
        exact law_20 (s := s.setDrawn d0) (C0.drawn d0) hfl hX hbl hbA hH hl h1 h2 h3 hrm (o20 (xs (nI (4 * j) + 1).toNatClampNeg)) (fun ol v t u hh S H locs ls hs hH hl => K ol v t u hh S H locs ls d0 hd0 hs hH hl)
      by_cases k21 : q9 = 21
      · subst k21
        refine sw_in (v := nI 21) (tgt := 1048) hx hb rfl dL_law_39 (by decide +kernel) (by decide +kernel) (off := 1009) (by decide +kernel) (by decide) ?_
        exact law_21 (s := s.setDrawn d0) (C0.drawn d0) hfl hX hbl hbA hH hl h1 h2 h3 hrm (o21 (xs (nI (4 * j) + 1).toNatClampNeg)) (fun ol v t u hh S H locs ls hs hH hl => K ol v t u hh S H locs ls d0 hd0 hs hH hl)
      by_cases k22 : q9 = 22
      · subst k22
        refine sw_in (v := nI 22) (tgt := 1111) hx hb rfl dL_law_39 (by decide +kernel) (by decide +kernel) (off := 1072) (by decide +kernel) (by decide) ?_
        exact law_22 (s := s.setDrawn d0) (C0.drawn d0) hfl hX hbl hbA hH hl h1 h2 h3 hrm (o22) (fun ol v t u hh S H locs ls hs hH hl => K ol v t u hh S H locs ls d0 hd0 hs hH hl)
      by_cases k23 : q9 = 23
      · subst k23
        refine sw_in (v := nI 23) (tgt := 1124) hx hb rfl dL_law_39 (by decide +kernel) (by decide +kernel) (off := 1085) (by decide +kernel) (by decide) ?_
        exact law_23 (s := s.setDrawn d0) (C0.drawn d0) hfl hX hbl hbA hH hl h1 h2 h3 hrm (o23 (xs (nI (4 * j) + 1).toNatClampNeg)) (fun ol v t u hh S H locs ls hs hH hl => K ol v t u hh S H locs ls d0 hd0 hs hH hl)
      by_cases k24 : q9 = 24
      · subst k24
        refine sw_in (v := nI 24) (tgt := 1180) hx hb rfl dL_law_39 (by decide +kernel) (by decide +kernel) (off := 1141) (by decide +kernel) (by decide) ?_
        exact law_24 (s := s.setDrawn d0) (C0.drawn d0) hfl hX hbl hbA hH hl h1 h2 h3 hrm (o24) (fun ol v t u hh S H locs ls hs hH hl => K ol v t u hh S H locs ls d0 hd0 hs hH hl)
      by_cases k25 : q9 = 25
      · subst k25
        refine sw_in (v := nI 25) (tgt := 1193) hx hb rfl dL_law_39 (by decide +kernel) (by decide +kernel) (off := 1154) (by decide +kernel) (by decide) ?_
        exact law_25 (s := s.setDrawn d0) (C0.drawn d0) hfl hX hbl hbA hH hl h1 h2 h3 hrm (o25) (fun ol v t u hh S H locs ls hs hH hl => K ol v t u hh S H locs ls d0 hd0 hs hH hl)
      by_cases k26 : q9 = 26
      · subst k26
        refine sw_in (v := nI 26) (tgt := 1206) hx hb rfl dL_law_39 (by decide +kernel) (by decide +kernel) (off := 1167) (by decide +kernel) (by decide) ?_
        exact law_26 (s := s.setDrawn d0) (C0.drawn d0) hfl hX hbl hbA hH hl h1 h2 h3 hrm (o26 (xs (nI (4 * j) + 1).toNatClampNeg)) (fun ol v t u hh S H locs ls hs hH hl => K ol v t u hh S H locs ls d0 hd0 hs hH hl)
      by_cases k27 : q9 = 27
      · subst k27
        refine sw_in (v := nI 27) (tgt := 1262) hx hb rfl dL_law_39 (by decide +kernel) (by decide +kernel) (off := 1223) (by decide +kernel) (by decide) ?_
        refine W.widen (k := cells + 1) (n := slots + 6) (Nat.le_add_right _ _) (Nat.le_add_right _ _) ?_
        exact law_27 (xs := xs) (L := L) hd0 C0 hH hl hrm o27 K
      by_cases k28 : q9 = 28
      · subst k28
        refine sw_in (v := nI 28) (tgt := 1305) hx hb rfl dL_law_39 (by decide +kernel) (by decide +kernel) (off := 1266) (by decide +kernel) (by decide) ?_
        exact law_28 (s := s.setDrawn d0) (C0.drawn d0) hfl hX hbl hbA hH hl h1 h2 h3 hrm (o28) (fun ol v t u hh S H locs ls hs hH hl => K ol v t u hh S H locs ls d0 hd0 hs hH hl)
      by_cases k29 : q9 = 29
      · subst k29
        refine sw_in (v := nI 29) (tgt := 1318) hx hb rfl dL_law_39 (by decide +kernel) (by decide +kernel) (off := 1279) (by decide +kernel) (by decide) ?_
        exact law_29 (s := s.setDrawn d0) (C0.drawn d0) hfl hX hbl hbA hH hl h1 h2 h3 hrm (o29) (fun ol v t u hh S H locs ls hs hH hl => K ol v t u hh S H locs ls d0 hd0 hs hH hl)
      refine W.widen (k := cells + 1) (n := slots + 6) (Nat.le_add_right _ _) (Nat.le_add_right _ _) ?_
      refine sw_out (vs := [nI 0, nI 1, nI 2, nI 3, nI 4, nI 5, nI 6, nI 7, nI 8, nI 9, nI 10, nI 11, nI 12, nI 13, nI 14, nI 15, nI 16, nI 17, nI 18, nI 19, nI 20, nI 21, nI 22, nI 23, nI 24, nI 25, nI 26, nI 27, nI 28, nI 29]) (tgt := 1331) hx hb ?_ dL_law_39 (by decide +kernel) (by decide) ?_
      · rcases (show q9 = 30 ∨ q9 = 31 by omega) with rfl | rfl
        · decide +kernel
        · decide +kernel
      · exact K ol v t u hh S H locs ls d0 hd0 o30 hH hl
