/-! THE CONSTRUCTORS of a state, of the history, of the whole object. -/
def uS (v : Mem) : Mem := fun k => if k = 6 then (fun j => if j = 1 then 1 else 0) else if k = 7 then (fun _ => 0) else if k = 8 then (fun _ => 0) else if k = 9 then (fun _ => 0) else if k = 10 then (fun _ => 0) else v k
def catW (L : List va_W) (wr : va_W) : va_W := L.foldr (fun x y => x ++ y) wr
theorem cat_end (x : va_W) (wr : va_W) : ∀ L : List va_W, (x ++ catW L wr).Perm (catW (L ++ [x]) wr) := by
  intro L
  induction L with
  | nil => exact List.Perm.refl _
  | cons y L ih => exact (perm_sw x y _).trans (List.Perm.append_left y ih)
theorem cat_rev (wr : va_W) : ∀ L : List va_W, (catW L.reverse wr).Perm (catW L wr) := by
  intro L
  induction L with
  | nil => exact List.Perm.refl _
  | cons x L ih =>
    rw [List.reverse_cons]
    exact (cat_end x wr L.reverse).symm.trans (List.Perm.append_left x ih)
theorem svL_cat (f : Nat → Nat → Nat) (ca : Gp) (S : Nat → Mem) (wr : va_W) : ∀ js : List Nat, svL f ca S js ++ wr = catW (js.map (fun j => sW (f j) ca (S j))) wr := by
  intro js
  induction js with
  | nil => rfl
  | cons j js ih =>
    show (sW (f j) ca (S j) ++ svL f ca S js) ++ wr = sW (f j) ca (S j) ++ catW _ wr
    rw [List.append_assoc, ih]
theorem inX1_init_X1 : ∀ w ∈ wsX10, w ∈ wsX1_init := by decide +kernel
theorem inX1_init_X2 : ∀ w ∈ wsX20, w ∈ wsX1_init := by decide +kernel
def rmX1_init : Room := { frames := 2, cells := 10, slots := 270, locals := 40 }
theorem hd_X1_init : yX1_init.cls ≠ "java/lang/invoke/MethodHandle" ∧ yX1_init.cls ≠ "java/lang/invoke/VarHandle" ∧ (parseMethodDescriptor yX1_init.desc).map (fun d => d.parameters.length) = some 0 := by decide +kernel
set_option maxHeartbeats 4000000 in
set_option maxRecDepth 100000 in
theorem mX1_init (l : Launch) (D : va_G) (ca : Gp) (q : Nat) (wr : va_W) {v : Mem} (hf : pX2_init m0 = some v) : Mn l yX1_init wsX1_init rmX1_init D ca [.ref q] ([(q, .inr (1, [.null, .null, .null, .null, .null, .int 0, .int 0]))] ++ wr) (fun a : Nat → Nat => a 6 = q) (fun a => sW a ca (uS v) ++ wr) 10 270 := by
  refine Mn_of (own := RX1) (cc := cX1_init) (nL := 1) (by decide) rfl rfl rfl (Nat.le_of_ble_eq_true rfl) ?_
  intro p e s m args below meth c Q A ls C0 hin hH hl hend
  obtain ⟨hx, hb, hml, hown, hts⟩ := id C0.1
  have hl : lv_has ls 1 [(0, .ref q)] := hl
  refine lv_aload_n hx hb dX1_init_0 rfl (lv_at hl 0 rfl) ?_
  refine obj_init C0 hl.1 (by decide +kernel : Cond.methodLink RX1 3 objectInit ∈ wsX1_init) (by decide +kernel : Cond.instanceMethod objectInit ∈ wsX1_init) (by decide +kernel : Cond.code objectInit ⟨#[0xb1]⟩ 1 none ∈ wsX1_init) dX1_init_1 (Nat.le_of_ble_eq_true rfl) (Nat.le_of_ble_eq_true rfl) ?_
  refine lv_aload_n hx hb dX1_init_4 rfl (lv_at hl 0 rfl) ?_
  have hH : HS D A s ([(q, .inr (1, [.null, .null, .null, .null, .null, .int 0, .int 0]))] ++ (wr)) _ _ := hH
  refine nw_obj (fs := [.null, .null, .null, .null, .null, .int 0, .int 0, .int 0, .int 0]) (ci := 2) (C := RX2) (T := TX2) (N := 9) C0 hH inX1_init_X2 tyX2 tyX2_ok (by decide +kernel : Cond.classLink RX1 9 RX2 ∈ wsX1_init) (by decide +kernel : Cond.instantiable RX2 9 ∈ wsX1_init) (by decide +kernel : Cond.initialized RX2 ∈ wsX1_init) rfl (fun j hj => by rcases (show j = 0 ∨ j = 1 ∨ j = 2 ∨ j = 3 ∨ j = 4 ∨ j = 5 ∨ j = 6 ∨ j = 7 ∨ j = 8 by omega) with rfl | rfl | rfl | rfl | rfl | rfl | rfl | rfl | rfl <;> rfl) (Nat.le_of_ble_eq_true rfl) (Nat.le_of_ble_eq_true rfl) dX1_init_5 (fun q0 H hH => ?_)
  refine lv_dup hx hb dX1_init_8 rfl ?_
  have hH : HS D A s ([(q, .inr (1, [.null, .null, .null, .null, .null, .int 0, .int 0]))] ++ ([(q0, .inr (2, [.null, .null, .null, .null, .null, .int 0, .int 0, .int 0, .int 0]))] ++ wr)) _ _ := hH
  have hH := hH.swap
  refine cl_n C0 hH hl.1 (mX2_init l D ca q0 ([(q, .inr (1, [.null, .null, .null, .null, .null, .int 0, .int 0]))] ++ wr) hf) gX1_init_X2_init rfl rfl rfl (by decide +kernel : Cond.initialized yX2_init.cls ∈ wsX1_init) (by decide +kernel : Cond.methodLink RX1 11 yX2_init ∈ wsX1_init) (by decide +kernel : Cond.instanceMethod yX2_init ∈ wsX1_init) rfl hd_X2_init ⟨Nat.le_of_ble_eq_true rfl, Nat.le_of_ble_eq_true rfl⟩ ⟨Nat.le_of_ble_eq_true rfl, Nat.le_of_ble_eq_true rfl⟩ (rest := [.ref q0, .ref q]) (Nat.le_of_ble_eq_true rfl) dX1_init_9 (fun z H locs hz hN => ?_)
  obtain rfl := hz
  have hH := hN.swap
  have hH : HS D A s ([(q, .inr (1, [.null, .null, .null, .null, .null, .int 0, .int 0]))] ++ (kW z ca v ++ wr)) _ _ := hH
  refine pt_fin C0 hin hH (C := RX1) (T := TX1) (N := 7) (ci := 1) inX1_init_X1 tyX1 tyX1_ok nmX1 0 rfl rfl 0 (by decide) (by decide +kernel : Cond.fieldLink RX1 12 "GatheringCache$State" "stick" "LGatheringCache$Stick;" ∈ wsX1_init) rfl rfl (ty := tyX1 0) rfl rfl rfl (Nat.le_of_ble_eq_true rfl) dX1_init_12 (fun H locs hH => ?_)
  have hH : HS D A s ([(q, .inr (1, [.ref (z 0), .null, .null, .null, .null, .int 0, .int 0]))] ++ (kW z ca v ++ wr)) _ _ := hH
  refine lv_aload_n hx hb dX1_init_15 rfl (lv_at hl 0 rfl) ?_
  refine lv_bipush (v := 64) hx hb dX1_init_16 (by decide) ?_
  refine nw_arr (a0 := (64, .inl (fun _ => 0))) C0 hH (n := 64) (N' := 64) (atype := .int) 0 rfl rfl (by decide +kernel) (fun _ => rfl) (by decide) (by decide) (Nat.le_of_ble_eq_true rfl) (Nat.le_of_ble_eq_true rfl) (Nat.le_of_ble_eq_true rfl) dX1_init_18 (fun q7 H hH => ?_)
  have hH : HS D A s ([(q, .inr (1, [.ref (z 0), .null, .null, .null, .null, .int 0, .int 0])), (q7, .inl (ca.1 0, 64, .inl (fun _ => 0)))] ++ (kW z ca v ++ wr)) _ _ := hH
  refine pt_fin C0 hin hH (C := RX1) (T := TX1) (N := 7) (ci := 1) inX1_init_X1 tyX1 tyX1_ok nmX1 0 rfl rfl 1 (by decide) (by decide +kernel : Cond.fieldLink RX1 18 "GatheringCache$State" "diskValues" "[I" ∈ wsX1_init) rfl rfl (ty := tyX1 1) rfl rfl rfl (Nat.le_of_ble_eq_true rfl) dX1_init_20 (fun H locs hH => ?_)
  have hH : HS D A s ([(q, .inr (1, [.ref (z 0), .ref q7, .null, .null, .null, .int 0, .int 0])), (q7, .inl (ca.1 0, 64, .inl (fun _ => 0)))] ++ (kW z ca v ++ wr)) _ _ := hH
  refine lv_aload_n hx hb dX1_init_23 rfl (lv_at hl 0 rfl) ?_
  refine lv_bipush (v := 64) hx hb dX1_init_24 (by decide) ?_
  refine nw_arr (a0 := (64, .inl (fun _ => 0))) C0 hH (n := 64) (N' := 64) (atype := .int) 0 rfl rfl (by decide +kernel) (fun _ => rfl) (by decide) (by decide) (Nat.le_of_ble_eq_true rfl) (Nat.le_of_ble_eq_true rfl) (Nat.le_of_ble_eq_true rfl) dX1_init_26 (fun q8 H hH => ?_)
  have hH : HS D A s ([(q, .inr (1, [.ref (z 0), .ref q7, .null, .null, .null, .int 0, .int 0])), (q7, .inl (ca.1 0, 64, .inl (fun _ => 0))), (q8, .inl (ca.1 0, 64, .inl (fun _ => 0)))] ++ (kW z ca v ++ wr)) _ _ := hH
  refine pt_fin C0 hin hH (C := RX1) (T := TX1) (N := 7) (ci := 1) inX1_init_X1 tyX1 tyX1_ok nmX1 0 rfl rfl 2 (by decide) (by decide +kernel : Cond.fieldLink RX1 22 "GatheringCache$State" "diskStamps" "[I" ∈ wsX1_init) rfl rfl (ty := tyX1 2) rfl rfl rfl (Nat.le_of_ble_eq_true rfl) dX1_init_28 (fun H locs hH => ?_)
  have hH : HS D A s ([(q, .inr (1, [.ref (z 0), .ref q7, .ref q8, .null, .null, .int 0, .int 0])), (q7, .inl (ca.1 0, 64, .inl (fun _ => 0))), (q8, .inl (ca.1 0, 64, .inl (fun _ => 0)))] ++ (kW z ca v ++ wr)) _ _ := hH
  refine lv_aload_n hx hb dX1_init_31 rfl (lv_at hl 0 rfl) ?_
  refine lv_bipush (v := 64) hx hb dX1_init_32 (by decide) ?_
  refine nw_arr (a0 := (64, .inl (fun _ => 0))) C0 hH (n := 64) (N' := 64) (atype := .int) 0 rfl rfl (by decide +kernel) (fun _ => rfl) (by decide) (by decide) (Nat.le_of_ble_eq_true rfl) (Nat.le_of_ble_eq_true rfl) (Nat.le_of_ble_eq_true rfl) dX1_init_34 (fun q9 H hH => ?_)
  have hH : HS D A s ([(q, .inr (1, [.ref (z 0), .ref q7, .ref q8, .null, .null, .int 0, .int 0])), (q7, .inl (ca.1 0, 64, .inl (fun _ => 0))), (q8, .inl (ca.1 0, 64, .inl (fun _ => 0))), (q9, .inl (ca.1 0, 64, .inl (fun _ => 0)))] ++ (kW z ca v ++ wr)) _ _ := hH
  refine pt_fin C0 hin hH (C := RX1) (T := TX1) (N := 7) (ci := 1) inX1_init_X1 tyX1 tyX1_ok nmX1 0 rfl rfl 3 (by decide) (by decide +kernel : Cond.fieldLink RX1 25 "GatheringCache$State" "latestStamps" "[I" ∈ wsX1_init) rfl rfl (ty := tyX1 3) rfl rfl rfl (Nat.le_of_ble_eq_true rfl) dX1_init_36 (fun H locs hH => ?_)
  have hH : HS D A s ([(q, .inr (1, [.ref (z 0), .ref q7, .ref q8, .ref q9, .null, .int 0, .int 0])), (q7, .inl (ca.1 0, 64, .inl (fun _ => 0))), (q8, .inl (ca.1 0, 64, .inl (fun _ => 0))), (q9, .inl (ca.1 0, 64, .inl (fun _ => 0)))] ++ (kW z ca v ++ wr)) _ _ := hH
  refine lv_aload_n hx hb dX1_init_39 rfl (lv_at hl 0 rfl) ?_
  refine lv_bipush (v := 9) hx hb dX1_init_40 (by decide) ?_
  refine nw_arr (a0 := (9, .inl (fun _ => 0))) C0 hH (n := 9) (N' := 9) (atype := .int) 0 rfl rfl (by decide +kernel) (fun _ => rfl) (by decide) (by decide) (Nat.le_of_ble_eq_true rfl) (Nat.le_of_ble_eq_true rfl) (Nat.le_of_ble_eq_true rfl) dX1_init_42 (fun q10 H hH => ?_)
  have hH : HS D A s ([(q, .inr (1, [.ref (z 0), .ref q7, .ref q8, .ref q9, .null, .int 0, .int 0])), (q7, .inl (ca.1 0, 64, .inl (fun _ => 0))), (q8, .inl (ca.1 0, 64, .inl (fun _ => 0))), (q9, .inl (ca.1 0, 64, .inl (fun _ => 0))), (q10, .inl (ca.1 0, 9, .inl (fun _ => 0)))] ++ (kW z ca v ++ wr)) _ _ := hH
  refine pt_fin C0 hin hH (C := RX1) (T := TX1) (N := 7) (ci := 1) inX1_init_X1 tyX1 tyX1_ok nmX1 0 rfl rfl 4 (by decide) (by decide +kernel : Cond.fieldLink RX1 28 "GatheringCache$State" "counts" "[I" ∈ wsX1_init) rfl rfl (ty := tyX1 4) rfl rfl rfl (Nat.le_of_ble_eq_true rfl) dX1_init_44 (fun H locs hH => ?_)
  have hH : HS D A s ([(q, .inr (1, [.ref (z 0), .ref q7, .ref q8, .ref q9, .ref q10, .int 0, .int 0])), (q7, .inl (ca.1 0, 64, .inl (fun _ => 0))), (q8, .inl (ca.1 0, 64, .inl (fun _ => 0))), (q9, .inl (ca.1 0, 64, .inl (fun _ => 0))), (q10, .inl (ca.1 0, 9, .inl (fun _ => 0)))] ++ (kW z ca v ++ wr)) _ _ := hH
  refine lv_aload_n hx hb dX1_init_47 rfl (lv_at hl 0 rfl) ?_
  refine lv_iconst (v := 1) hx hb dX1_init_48 (by decide) ?_
  refine va_put (D := D) (ci := 1) (v := .int 1) (ty := .boolean) (C := RX1) (T := TX1) (N := 7) hx hb hts inX1_init_X1 tyX1 tyX1_ok nmX1 hown C0.2.1 hH.1 hH.2.1 hH.2.2 0 rfl rfl 6 (by decide) (hts _ (by decide +kernel : Cond.fieldLink RX1 31 "GatheringCache$State" "on" "Z" ∈ wsX1_init)) (fun _ h9 => h9) rfl (by decide +kernel) rfl rfl (Nat.le_of_ble_eq_true rfl) dX1_init_49 (fun H locs hP hD hS => ?_)
  have hH : HS D A s ([(q, .inr (1, [.ref (z 0), .ref q7, .ref q8, .ref q9, .ref q10, .int 0, .int 1])), (q7, .inl (ca.1 0, 64, .inl (fun _ => 0))), (q8, .inl (ca.1 0, 64, .inl (fun _ => 0))), (q9, .inl (ca.1 0, 64, .inl (fun _ => 0))), (q10, .inl (ca.1 0, 9, .inl (fun _ => 0)))] ++ (kW z ca v ++ wr)) H locs := ⟨hP, hD, hS⟩
  have hH := hH.swap
  have hH : HS D A s (sW (fun k => if k = 6 then q else if k = 7 then q7 else if k = 8 then q8 else if k = 9 then q9 else if k = 10 then q10 else z k) ca (uS v) ++ wr) _ _ := hH
  exact hend (fun k => if k = 6 then q else if k = 7 then q7 else if k = 8 then q8 else if k = 9 then q9 else if k = 10 then q10 else z k) _ _ _ _ rfl hH dX1_init_52
theorem inX0_init_X0 : ∀ w ∈ wsX00, w ∈ wsX0_init := by decide +kernel
theorem inX0_init_X1 : ∀ w ∈ wsX10, w ∈ wsX0_init := by decide +kernel
def rmX0_init : Room := { frames := 3, cells := 67, slots := 1668, locals := 70 }
theorem hd_X0_init : yX0_init.cls ≠ "java/lang/invoke/MethodHandle" ∧ yX0_init.cls ≠ "java/lang/invoke/VarHandle" ∧ (parseMethodDescriptor yX0_init.desc).map (fun d => d.parameters.length) = some 0 := by decide +kernel
def h2W (h : Nat → Nat) (f : Nat → Nat → Nat) (ca : Gp) : va_W := [(h 0, .inr (0, [.ref (h 1), .int 0, .int 0])), (h 1, .inl (ca.1 3, 6, .inr (.inr (.inr (.inr (stF f))))))]
def f6 (z0 z1 z2 z3 z4 z5 : Nat → Nat) : Nat → Nat → Nat := fun j => if j = 0 then z0 else if j = 1 then z1 else if j = 2 then z2 else if j = 3 then z3 else if j = 4 then z4 else z5
theorem f6_st (z0 z1 z2 z3 z4 z5 : Nat → Nat) : va_up (va_up (va_up (va_up (va_up (va_up (fun _ => none) (0 : Int32).toNatClampNeg (some (z0 6))) (1 : Int32).toNatClampNeg (some (z1 6))) (2 : Int32).toNatClampNeg (some (z2 6))) (3 : Int32).toNatClampNeg (some (z3 6))) (4 : Int32).toNatClampNeg (some (z4 6))) (5 : Int32).toNatClampNeg (some (z5 6)) = stF (f6 z0 z1 z2 z3 z4 z5) := by
  funext j
  rcases (show j = 0 ∨ j = 1 ∨ j = 2 ∨ j = 3 ∨ j = 4 ∨ j = 5 ∨ 6 ≤ j by omega) with rfl | rfl | rfl | rfl | rfl | rfl | h
  · rfl
  · rfl
  · rfl
  · rfl
  · rfl
  · rfl
  · unfold stF va_up
    rw [show (0 : Int32).toNatClampNeg = 0 from rfl, show (1 : Int32).toNatClampNeg = 1 from rfl, show (2 : Int32).toNatClampNeg = 2 from rfl, show (3 : Int32).toNatClampNeg = 3 from rfl, show (4 : Int32).toNatClampNeg = 4 from rfl, show (5 : Int32).toNatClampNeg = 5 from rfl]
    rw [if_neg (by omega), if_neg (by omega), if_neg (by omega), if_neg (by omega), if_neg (by omega), if_neg (by omega), if_neg (by omega)]
set_option maxHeartbeats 4000000 in
set_option maxRecDepth 100000 in
theorem mX0_init (l : Launch) (D : va_G) (ca : Gp) (q : Nat) (wr : va_W) {v : Mem} (hf : pX2_init m0 = some v) : Mn l yX0_init wsX0_init rmX0_init D ca [.ref q] ([(q, .inr (0, [.null, .int 0, .int 0]))] ++ wr) (fun x : (Nat → Nat) × (Nat → Nat → Nat) => x.1 0 = q) (fun x => h2W x.1 x.2 ca ++ (svL x.2 ca (fun _ => uS v) js6 ++ wr)) 67 1668 := by
  refine Mn_of (own := RX0) (cc := cX0_init) (nL := 2) (by decide) rfl rfl rfl (Nat.le_of_ble_eq_true rfl) ?_
  intro p e s m args below meth c Q A ls C0 hin hH hl hend
  obtain ⟨hx, hb, hml, hown, hts⟩ := id C0.1
  have hl : lv_has ls 2 [(0, .ref q)] := hl
  refine lv_aload_n hx hb dX0_init_0 rfl (lv_at hl 0 rfl) ?_
  refine obj_init C0 hl.1 (by decide +kernel : Cond.methodLink RX0 3 objectInit ∈ wsX0_init) (by decide +kernel : Cond.instanceMethod objectInit ∈ wsX0_init) (by decide +kernel : Cond.code objectInit ⟨#[0xb1]⟩ 1 none ∈ wsX0_init) dX0_init_1 (Nat.le_of_ble_eq_true rfl) (Nat.le_of_ble_eq_true rfl) ?_
  refine lv_aload_n hx hb dX0_init_4 rfl (lv_at hl 0 rfl) ?_
  refine lv_bipush (v := 6) hx hb dX0_init_5 (by decide) ?_
  have hH : HS D A s ([(q, .inr (0, [.null, .int 0, .int 0]))] ++ (wr)) _ _ := hH
  refine nw_refs C0 hH (n := 6) (N' := 6) (by decide +kernel : Cond.classLink RX0 9 "GatheringCache$State" ∈ wsX0_init) (by decide) (by decide) (Nat.le_of_ble_eq_true rfl) (Nat.le_of_ble_eq_true rfl) (Nat.le_of_ble_eq_true rfl) dX0_init_7 (fun q1 H hH => ?_)
  have hH : HS D A s ([(q, .inr (0, [.null, .int 0, .int 0])), (q1, .inl (ca.1 3, 6, .inr (.inr (.inr (.inr (fun _ => none))))))] ++ (wr)) _ _ := hH
  refine pt_fin C0 hin hH (C := RX0) (T := TX0) (N := 3) (ci := 0) inX0_init_X0 tyX0 tyX0_ok nmX0 0 rfl rfl 0 (by decide) (by decide +kernel : Cond.fieldLink RX0 11 "GatheringCache$History" "states" "[LGatheringCache$State;" ∈ wsX0_init) rfl rfl (ty := tyX0 0) rfl rfl rfl (Nat.le_of_ble_eq_true rfl) dX0_init_10 (fun H locs hH => ?_)
  have hH : HS D A s ([(q, .inr (0, [.ref q1, .int 0, .int 0])), (q1, .inl (ca.1 3, 6, .inr (.inr (.inr (.inr (fun _ => none))))))] ++ (wr)) _ _ := hH
  refine lv_iconst (v := 0) hx hb dX0_init_13 (by decide) ?_
  refine lv_istore_n (lv' := [(1, .int 0), (0, .ref q)]) hx hb dX0_init_14 rfl hl (by decide) rfl (fun ls hl => ?_)
  refine lv_iload_n hx hb dX0_init_15 rfl (lv_at hl 0 rfl) ?_
  refine lv_bipush (v := 6) hx hb dX0_init_16 (by decide) ?_
  refine lv_icmp_ge (tgt := 40) hx hb dX0_init_18 (by decide) (fun c9 => absurd c9 (by decide)) (fun c9 => ?_)
  refine lv_aload_n hx hb dX0_init_21 rfl (lv_at hl 1 rfl) ?_
  refine va_get (D := D) (ci := 0) (v := .ref q1) (C := RX0) (T := TX0) (N := 3) hx hb hts inX0_init_X0 hown C0.2.1 hH.1 0 rfl rfl 0 (by decide) (hts _ (by decide +kernel : Cond.fieldLink RX0 11 "GatheringCache$History" "states" "[LGatheringCache$State;" ∈ wsX0_init)) (fun _ h9 => h9) rfl dX0_init_22 ?_
  refine lv_iload_n hx hb dX0_init_25 rfl (lv_at hl 0 rfl) ?_
  refine nw_obj (fs := [.null, .null, .null, .null, .null, .int 0, .int 0]) (ci := 1) (C := RX1) (T := TX1) (N := 7) C0 hH inX0_init_X1 tyX1 tyX1_ok (by decide +kernel : Cond.classLink RX0 9 RX1 ∈ wsX0_init) (by decide +kernel : Cond.instantiable RX1 7 ∈ wsX0_init) (by decide +kernel : Cond.initialized RX1 ∈ wsX0_init) rfl (fun j hj => by rcases (show j = 0 ∨ j = 1 ∨ j = 2 ∨ j = 3 ∨ j = 4 ∨ j = 5 ∨ j = 6 by omega) with rfl | rfl | rfl | rfl | rfl | rfl | rfl <;> rfl) (Nat.le_of_ble_eq_true rfl) (Nat.le_of_ble_eq_true rfl) dX0_init_26 (fun r0 H hH => ?_)
  refine lv_dup hx hb dX0_init_29 rfl ?_
  have hH : HS D A s ([(q, .inr (0, [.ref q1, .int 0, .int 0])), (q1, .inl (ca.1 3, 6, .inr (.inr (.inr (.inr (fun _ => none))))))] ++ ([(r0, .inr (1, [.null, .null, .null, .null, .null, .int 0, .int 0]))] ++ (wr))) _ _ := hH
  have hH := hH.swap
  refine cl_nN C0 hH hl.1 (mX1_init l D ca r0 ([(q, .inr (0, [.ref q1, .int 0, .int 0])), (q1, .inl (ca.1 3, 6, .inr (.inr (.inr (.inr (fun _ => none))))))] ++ (wr)) hf) gX0_init_X1_init_n17 rfl rfl rfl (by decide +kernel : Cond.initialized yX1_init.cls ∈ wsX0_init) (by decide +kernel) (by decide +kernel : Cond.instanceMethod yX1_init ∈ wsX0_init) rfl hd_X1_init ⟨Nat.le_of_ble_eq_true rfl, Nat.le_of_ble_eq_true rfl⟩ ⟨Nat.le_of_ble_eq_true rfl, Nat.le_of_ble_eq_true rfl⟩ (rest := [.ref r0, .int 0, .ref q1]) (Nat.le_of_ble_eq_true rfl) dX0_init_30 (fun z0 H locs hz hN => ?_)
  obtain rfl := hz
  have hH := hN.swap
  have hH : HS D A s ([(q, .inr (0, [.ref q1, .int 0, .int 0])), (q1, .inl (ca.1 3, 6, .inr (.inr (.inr (.inr (fun _ => none))))))] ++ (sW z0 ca (uS v) ++ (wr))) _ _ := hH
  refine va_astq (ci := 1) hx hb C0.2.1 hH.1 hH.2.1 hH.2.2 1 3 8 rfl rfl rfl rfl (i := 0) (by unfold vp_in; decide) dX0_init_33 (fun H locs hP hD hS => ?_)
  have hH : HS D A s ([(q, .inr (0, [.ref q1, .int 0, .int 0])), (q1, .inl (ca.1 3, 6, .inr (.inr (.inr (.inr (va_up (fun _ => none) (0 : Int32).toNatClampNeg (some (z0 6))))))))] ++ (sW z0 ca (uS v) ++ (wr))) H locs := ⟨hP, hD, hS⟩
  refine lv_iinc (v := 1) (lv' := [(1, .int 1), (0, .ref q)]) hx hb dX0_init_34 hl (k := 0) rfl rfl (by decide) rfl (fun ls hl => ?_)
  refine lv_goto (tgt := 15) hx hb dX0_init_37 (by decide) ?_
  refine lv_iload_n hx hb dX0_init_15 rfl (lv_at hl 0 rfl) ?_
  refine lv_bipush (v := 6) hx hb dX0_init_16 (by decide) ?_
  refine lv_icmp_ge (tgt := 40) hx hb dX0_init_18 (by decide) (fun c9 => absurd c9 (by decide)) (fun c9 => ?_)
  refine lv_aload_n hx hb dX0_init_21 rfl (lv_at hl 1 rfl) ?_
  refine va_get (D := D) (ci := 0) (v := .ref q1) (C := RX0) (T := TX0) (N := 3) hx hb hts inX0_init_X0 hown C0.2.1 hH.1 0 rfl rfl 0 (by decide) (hts _ (by decide +kernel : Cond.fieldLink RX0 11 "GatheringCache$History" "states" "[LGatheringCache$State;" ∈ wsX0_init)) (fun _ h9 => h9) rfl dX0_init_22 ?_
  refine lv_iload_n hx hb dX0_init_25 rfl (lv_at hl 0 rfl) ?_
  refine nw_obj (fs := [.null, .null, .null, .null, .null, .int 0, .int 0]) (ci := 1) (C := RX1) (T := TX1) (N := 7) C0 hH inX0_init_X1 tyX1 tyX1_ok (by decide +kernel : Cond.classLink RX0 9 RX1 ∈ wsX0_init) (by decide +kernel : Cond.instantiable RX1 7 ∈ wsX0_init) (by decide +kernel : Cond.initialized RX1 ∈ wsX0_init) rfl (fun j hj => by rcases (show j = 0 ∨ j = 1 ∨ j = 2 ∨ j = 3 ∨ j = 4 ∨ j = 5 ∨ j = 6 by omega) with rfl | rfl | rfl | rfl | rfl | rfl | rfl <;> rfl) (Nat.le_of_ble_eq_true rfl) (Nat.le_of_ble_eq_true rfl) dX0_init_26 (fun r1 H hH => ?_)
  refine lv_dup hx hb dX0_init_29 rfl ?_
  have hH : HS D A s ([(q, .inr (0, [.ref q1, .int 0, .int 0])), (q1, .inl (ca.1 3, 6, .inr (.inr (.inr (.inr (va_up (fun _ => none) (0 : Int32).toNatClampNeg (some (z0 6))))))))] ++ ([(r1, .inr (1, [.null, .null, .null, .null, .null, .int 0, .int 0]))] ++ (sW z0 ca (uS v) ++ (wr)))) _ _ := hH
  have hH := hH.swap
  refine cl_nN C0 hH hl.1 (mX1_init l D ca r1 ([(q, .inr (0, [.ref q1, .int 0, .int 0])), (q1, .inl (ca.1 3, 6, .inr (.inr (.inr (.inr (va_up (fun _ => none) (0 : Int32).toNatClampNeg (some (z0 6))))))))] ++ (sW z0 ca (uS v) ++ (wr))) hf) gX0_init_X1_init_n17 rfl rfl rfl (by decide +kernel : Cond.initialized yX1_init.cls ∈ wsX0_init) (by decide +kernel) (by decide +kernel : Cond.instanceMethod yX1_init ∈ wsX0_init) rfl hd_X1_init ⟨Nat.le_of_ble_eq_true rfl, Nat.le_of_ble_eq_true rfl⟩ ⟨Nat.le_of_ble_eq_true rfl, Nat.le_of_ble_eq_true rfl⟩ (rest := [.ref r1, .int 1, .ref q1]) (Nat.le_of_ble_eq_true rfl) dX0_init_30 (fun z1 H locs hz hN => ?_)
  obtain rfl := hz
  have hH := hN.swap
  have hH : HS D A s ([(q, .inr (0, [.ref q1, .int 0, .int 0])), (q1, .inl (ca.1 3, 6, .inr (.inr (.inr (.inr (va_up (fun _ => none) (0 : Int32).toNatClampNeg (some (z0 6))))))))] ++ (sW z1 ca (uS v) ++ (sW z0 ca (uS v) ++ (wr)))) _ _ := hH
  refine va_astq (ci := 1) hx hb C0.2.1 hH.1 hH.2.1 hH.2.2 1 3 8 rfl rfl rfl rfl (i := 1) (by unfold vp_in; decide) dX0_init_33 (fun H locs hP hD hS => ?_)
  have hH : HS D A s ([(q, .inr (0, [.ref q1, .int 0, .int 0])), (q1, .inl (ca.1 3, 6, .inr (.inr (.inr (.inr (va_up (va_up (fun _ => none) (0 : Int32).toNatClampNeg (some (z0 6))) (1 : Int32).toNatClampNeg (some (z1 6))))))))] ++ (sW z1 ca (uS v) ++ (sW z0 ca (uS v) ++ (wr)))) H locs := ⟨hP, hD, hS⟩
  refine lv_iinc (v := 2) (lv' := [(1, .int 2), (0, .ref q)]) hx hb dX0_init_34 hl (k := 0) rfl rfl (by decide) rfl (fun ls hl => ?_)
  refine lv_goto (tgt := 15) hx hb dX0_init_37 (by decide) ?_
  refine lv_iload_n hx hb dX0_init_15 rfl (lv_at hl 0 rfl) ?_
  refine lv_bipush (v := 6) hx hb dX0_init_16 (by decide) ?_
  refine lv_icmp_ge (tgt := 40) hx hb dX0_init_18 (by decide) (fun c9 => absurd c9 (by decide)) (fun c9 => ?_)
  refine lv_aload_n hx hb dX0_init_21 rfl (lv_at hl 1 rfl) ?_
  refine va_get (D := D) (ci := 0) (v := .ref q1) (C := RX0) (T := TX0) (N := 3) hx hb hts inX0_init_X0 hown C0.2.1 hH.1 0 rfl rfl 0 (by decide) (hts _ (by decide +kernel : Cond.fieldLink RX0 11 "GatheringCache$History" "states" "[LGatheringCache$State;" ∈ wsX0_init)) (fun _ h9 => h9) rfl dX0_init_22 ?_
  refine lv_iload_n hx hb dX0_init_25 rfl (lv_at hl 0 rfl) ?_
  refine nw_obj (fs := [.null, .null, .null, .null, .null, .int 0, .int 0]) (ci := 1) (C := RX1) (T := TX1) (N := 7) C0 hH inX0_init_X1 tyX1 tyX1_ok (by decide +kernel : Cond.classLink RX0 9 RX1 ∈ wsX0_init) (by decide +kernel : Cond.instantiable RX1 7 ∈ wsX0_init) (by decide +kernel : Cond.initialized RX1 ∈ wsX0_init) rfl (fun j hj => by rcases (show j = 0 ∨ j = 1 ∨ j = 2 ∨ j = 3 ∨ j = 4 ∨ j = 5 ∨ j = 6 by omega) with rfl | rfl | rfl | rfl | rfl | rfl | rfl <;> rfl) (Nat.le_of_ble_eq_true rfl) (Nat.le_of_ble_eq_true rfl) dX0_init_26 (fun r2 H hH => ?_)
  refine lv_dup hx hb dX0_init_29 rfl ?_
  have hH : HS D A s ([(q, .inr (0, [.ref q1, .int 0, .int 0])), (q1, .inl (ca.1 3, 6, .inr (.inr (.inr (.inr (va_up (va_up (fun _ => none) (0 : Int32).toNatClampNeg (some (z0 6))) (1 : Int32).toNatClampNeg (some (z1 6))))))))] ++ ([(r2, .inr (1, [.null, .null, .null, .null, .null, .int 0, .int 0]))] ++ (sW z1 ca (uS v) ++ (sW z0 ca (uS v) ++ (wr))))) _ _ := hH
  have hH := hH.swap
  refine cl_nN C0 hH hl.1 (mX1_init l D ca r2 ([(q, .inr (0, [.ref q1, .int 0, .int 0])), (q1, .inl (ca.1 3, 6, .inr (.inr (.inr (.inr (va_up (va_up (fun _ => none) (0 : Int32).toNatClampNeg (some (z0 6))) (1 : Int32).toNatClampNeg (some (z1 6))))))))] ++ (sW z1 ca (uS v) ++ (sW z0 ca (uS v) ++ (wr)))) hf) gX0_init_X1_init_n17 rfl rfl rfl (by decide +kernel : Cond.initialized yX1_init.cls ∈ wsX0_init) (by decide +kernel) (by decide +kernel : Cond.instanceMethod yX1_init ∈ wsX0_init) rfl hd_X1_init ⟨Nat.le_of_ble_eq_true rfl, Nat.le_of_ble_eq_true rfl⟩ ⟨Nat.le_of_ble_eq_true rfl, Nat.le_of_ble_eq_true rfl⟩ (rest := [.ref r2, .int 2, .ref q1]) (Nat.le_of_ble_eq_true rfl) dX0_init_30 (fun z2 H locs hz hN => ?_)
  obtain rfl := hz
  have hH := hN.swap
  have hH : HS D A s ([(q, .inr (0, [.ref q1, .int 0, .int 0])), (q1, .inl (ca.1 3, 6, .inr (.inr (.inr (.inr (va_up (va_up (fun _ => none) (0 : Int32).toNatClampNeg (some (z0 6))) (1 : Int32).toNatClampNeg (some (z1 6))))))))] ++ (sW z2 ca (uS v) ++ (sW z1 ca (uS v) ++ (sW z0 ca (uS v) ++ (wr))))) _ _ := hH
  refine va_astq (ci := 1) hx hb C0.2.1 hH.1 hH.2.1 hH.2.2 1 3 8 rfl rfl rfl rfl (i := 2) (by unfold vp_in; decide) dX0_init_33 (fun H locs hP hD hS => ?_)
  have hH : HS D A s ([(q, .inr (0, [.ref q1, .int 0, .int 0])), (q1, .inl (ca.1 3, 6, .inr (.inr (.inr (.inr (va_up (va_up (va_up (fun _ => none) (0 : Int32).toNatClampNeg (some (z0 6))) (1 : Int32).toNatClampNeg (some (z1 6))) (2 : Int32).toNatClampNeg (some (z2 6))))))))] ++ (sW z2 ca (uS v) ++ (sW z1 ca (uS v) ++ (sW z0 ca (uS v) ++ (wr))))) H locs := ⟨hP, hD, hS⟩
  refine lv_iinc (v := 3) (lv' := [(1, .int 3), (0, .ref q)]) hx hb dX0_init_34 hl (k := 0) rfl rfl (by decide) rfl (fun ls hl => ?_)
  refine lv_goto (tgt := 15) hx hb dX0_init_37 (by decide) ?_
  refine lv_iload_n hx hb dX0_init_15 rfl (lv_at hl 0 rfl) ?_
  refine lv_bipush (v := 6) hx hb dX0_init_16 (by decide) ?_
  refine lv_icmp_ge (tgt := 40) hx hb dX0_init_18 (by decide) (fun c9 => absurd c9 (by decide)) (fun c9 => ?_)
  refine lv_aload_n hx hb dX0_init_21 rfl (lv_at hl 1 rfl) ?_
  refine va_get (D := D) (ci := 0) (v := .ref q1) (C := RX0) (T := TX0) (N := 3) hx hb hts inX0_init_X0 hown C0.2.1 hH.1 0 rfl rfl 0 (by decide) (hts _ (by decide +kernel : Cond.fieldLink RX0 11 "GatheringCache$History" "states" "[LGatheringCache$State;" ∈ wsX0_init)) (fun _ h9 => h9) rfl dX0_init_22 ?_
  refine lv_iload_n hx hb dX0_init_25 rfl (lv_at hl 0 rfl) ?_
  refine nw_obj (fs := [.null, .null, .null, .null, .null, .int 0, .int 0]) (ci := 1) (C := RX1) (T := TX1) (N := 7) C0 hH inX0_init_X1 tyX1 tyX1_ok (by decide +kernel : Cond.classLink RX0 9 RX1 ∈ wsX0_init) (by decide +kernel : Cond.instantiable RX1 7 ∈ wsX0_init) (by decide +kernel : Cond.initialized RX1 ∈ wsX0_init) rfl (fun j hj => by rcases (show j = 0 ∨ j = 1 ∨ j = 2 ∨ j = 3 ∨ j = 4 ∨ j = 5 ∨ j = 6 by omega) with rfl | rfl | rfl | rfl | rfl | rfl | rfl <;> rfl) (Nat.le_of_ble_eq_true rfl) (Nat.le_of_ble_eq_true rfl) dX0_init_26 (fun r3 H hH => ?_)
  refine lv_dup hx hb dX0_init_29 rfl ?_
  have hH : HS D A s ([(q, .inr (0, [.ref q1, .int 0, .int 0])), (q1, .inl (ca.1 3, 6, .inr (.inr (.inr (.inr (va_up (va_up (va_up (fun _ => none) (0 : Int32).toNatClampNeg (some (z0 6))) (1 : Int32).toNatClampNeg (some (z1 6))) (2 : Int32).toNatClampNeg (some (z2 6))))))))] ++ ([(r3, .inr (1, [.null, .null, .null, .null, .null, .int 0, .int 0]))] ++ (sW z2 ca (uS v) ++ (sW z1 ca (uS v) ++ (sW z0 ca (uS v) ++ (wr)))))) _ _ := hH
  have hH := hH.swap
  refine cl_nN C0 hH hl.1 (mX1_init l D ca r3 ([(q, .inr (0, [.ref q1, .int 0, .int 0])), (q1, .inl (ca.1 3, 6, .inr (.inr (.inr (.inr (va_up (va_up (va_up (fun _ => none) (0 : Int32).toNatClampNeg (some (z0 6))) (1 : Int32).toNatClampNeg (some (z1 6))) (2 : Int32).toNatClampNeg (some (z2 6))))))))] ++ (sW z2 ca (uS v) ++ (sW z1 ca (uS v) ++ (sW z0 ca (uS v) ++ (wr))))) hf) gX0_init_X1_init_n17 rfl rfl rfl (by decide +kernel : Cond.initialized yX1_init.cls ∈ wsX0_init) (by decide +kernel) (by decide +kernel : Cond.instanceMethod yX1_init ∈ wsX0_init) rfl hd_X1_init ⟨Nat.le_of_ble_eq_true rfl, Nat.le_of_ble_eq_true rfl⟩ ⟨Nat.le_of_ble_eq_true rfl, Nat.le_of_ble_eq_true rfl⟩ (rest := [.ref r3, .int 3, .ref q1]) (Nat.le_of_ble_eq_true rfl) dX0_init_30 (fun z3 H locs hz hN => ?_)
  obtain rfl := hz
  have hH := hN.swap
  have hH : HS D A s ([(q, .inr (0, [.ref q1, .int 0, .int 0])), (q1, .inl (ca.1 3, 6, .inr (.inr (.inr (.inr (va_up (va_up (va_up (fun _ => none) (0 : Int32).toNatClampNeg (some (z0 6))) (1 : Int32).toNatClampNeg (some (z1 6))) (2 : Int32).toNatClampNeg (some (z2 6))))))))] ++ (sW z3 ca (uS v) ++ (sW z2 ca (uS v) ++ (sW z1 ca (uS v) ++ (sW z0 ca (uS v) ++ (wr)))))) _ _ := hH
  refine va_astq (ci := 1) hx hb C0.2.1 hH.1 hH.2.1 hH.2.2 1 3 8 rfl rfl rfl rfl (i := 3) (by unfold vp_in; decide) dX0_init_33 (fun H locs hP hD hS => ?_)
  have hH : HS D A s ([(q, .inr (0, [.ref q1, .int 0, .int 0])), (q1, .inl (ca.1 3, 6, .inr (.inr (.inr (.inr (va_up (va_up (va_up (va_up (fun _ => none) (0 : Int32).toNatClampNeg (some (z0 6))) (1 : Int32).toNatClampNeg (some (z1 6))) (2 : Int32).toNatClampNeg (some (z2 6))) (3 : Int32).toNatClampNeg (some (z3 6))))))))] ++ (sW z3 ca (uS v) ++ (sW z2 ca (uS v) ++ (sW z1 ca (uS v) ++ (sW z0 ca (uS v) ++ (wr)))))) H locs := ⟨hP, hD, hS⟩
  refine lv_iinc (v := 4) (lv' := [(1, .int 4), (0, .ref q)]) hx hb dX0_init_34 hl (k := 0) rfl rfl (by decide) rfl (fun ls hl => ?_)
  refine lv_goto (tgt := 15) hx hb dX0_init_37 (by decide) ?_
  refine lv_iload_n hx hb dX0_init_15 rfl (lv_at hl 0 rfl) ?_
  refine lv_bipush (v := 6) hx hb dX0_init_16 (by decide) ?_
  refine lv_icmp_ge (tgt := 40) hx hb dX0_init_18 (by decide) (fun c9 => absurd c9 (by decide)) (fun c9 => ?_)
  refine lv_aload_n hx hb dX0_init_21 rfl (lv_at hl 1 rfl) ?_
  refine va_get (D := D) (ci := 0) (v := .ref q1) (C := RX0) (T := TX0) (N := 3) hx hb hts inX0_init_X0 hown C0.2.1 hH.1 0 rfl rfl 0 (by decide) (hts _ (by decide +kernel : Cond.fieldLink RX0 11 "GatheringCache$History" "states" "[LGatheringCache$State;" ∈ wsX0_init)) (fun _ h9 => h9) rfl dX0_init_22 ?_
  refine lv_iload_n hx hb dX0_init_25 rfl (lv_at hl 0 rfl) ?_
  refine nw_obj (fs := [.null, .null, .null, .null, .null, .int 0, .int 0]) (ci := 1) (C := RX1) (T := TX1) (N := 7) C0 hH inX0_init_X1 tyX1 tyX1_ok (by decide +kernel : Cond.classLink RX0 9 RX1 ∈ wsX0_init) (by decide +kernel : Cond.instantiable RX1 7 ∈ wsX0_init) (by decide +kernel : Cond.initialized RX1 ∈ wsX0_init) rfl (fun j hj => by rcases (show j = 0 ∨ j = 1 ∨ j = 2 ∨ j = 3 ∨ j = 4 ∨ j = 5 ∨ j = 6 by omega) with rfl | rfl | rfl | rfl | rfl | rfl | rfl <;> rfl) (Nat.le_of_ble_eq_true rfl) (Nat.le_of_ble_eq_true rfl) dX0_init_26 (fun r4 H hH => ?_)
  refine lv_dup hx hb dX0_init_29 rfl ?_
  have hH : HS D A s ([(q, .inr (0, [.ref q1, .int 0, .int 0])), (q1, .inl (ca.1 3, 6, .inr (.inr (.inr (.inr (va_up (va_up (va_up (va_up (fun _ => none) (0 : Int32).toNatClampNeg (some (z0 6))) (1 : Int32).toNatClampNeg (some (z1 6))) (2 : Int32).toNatClampNeg (some (z2 6))) (3 : Int32).toNatClampNeg (some (z3 6))))))))] ++ ([(r4, .inr (1, [.null, .null, .null, .null, .null, .int 0, .int 0]))] ++ (sW z3 ca (uS v) ++ (sW z2 ca (uS v) ++ (sW z1 ca (uS v) ++ (sW z0 ca (uS v) ++ (wr))))))) _ _ := hH
  have hH := hH.swap
  refine cl_nN C0 hH hl.1 (mX1_init l D ca r4 ([(q, .inr (0, [.ref q1, .int 0, .int 0])), (q1, .inl (ca.1 3, 6, .inr (.inr (.inr (.inr (va_up (va_up (va_up (va_up (fun _ => none) (0 : Int32).toNatClampNeg (some (z0 6))) (1 : Int32).toNatClampNeg (some (z1 6))) (2 : Int32).toNatClampNeg (some (z2 6))) (3 : Int32).toNatClampNeg (some (z3 6))))))))] ++ (sW z3 ca (uS v) ++ (sW z2 ca (uS v) ++ (sW z1 ca (uS v) ++ (sW z0 ca (uS v) ++ (wr)))))) hf) gX0_init_X1_init_n17 rfl rfl rfl (by decide +kernel : Cond.initialized yX1_init.cls ∈ wsX0_init) (by decide +kernel) (by decide +kernel : Cond.instanceMethod yX1_init ∈ wsX0_init) rfl hd_X1_init ⟨Nat.le_of_ble_eq_true rfl, Nat.le_of_ble_eq_true rfl⟩ ⟨Nat.le_of_ble_eq_true rfl, Nat.le_of_ble_eq_true rfl⟩ (rest := [.ref r4, .int 4, .ref q1]) (Nat.le_of_ble_eq_true rfl) dX0_init_30 (fun z4 H locs hz hN => ?_)
  obtain rfl := hz
  have hH := hN.swap
  have hH : HS D A s ([(q, .inr (0, [.ref q1, .int 0, .int 0])), (q1, .inl (ca.1 3, 6, .inr (.inr (.inr (.inr (va_up (va_up (va_up (va_up (fun _ => none) (0 : Int32).toNatClampNeg (some (z0 6))) (1 : Int32).toNatClampNeg (some (z1 6))) (2 : Int32).toNatClampNeg (some (z2 6))) (3 : Int32).toNatClampNeg (some (z3 6))))))))] ++ (sW z4 ca (uS v) ++ (sW z3 ca (uS v) ++ (sW z2 ca (uS v) ++ (sW z1 ca (uS v) ++ (sW z0 ca (uS v) ++ (wr))))))) _ _ := hH
  refine va_astq (ci := 1) hx hb C0.2.1 hH.1 hH.2.1 hH.2.2 1 3 8 rfl rfl rfl rfl (i := 4) (by unfold vp_in; decide) dX0_init_33 (fun H locs hP hD hS => ?_)
  have hH : HS D A s ([(q, .inr (0, [.ref q1, .int 0, .int 0])), (q1, .inl (ca.1 3, 6, .inr (.inr (.inr (.inr (va_up (va_up (va_up (va_up (va_up (fun _ => none) (0 : Int32).toNatClampNeg (some (z0 6))) (1 : Int32).toNatClampNeg (some (z1 6))) (2 : Int32).toNatClampNeg (some (z2 6))) (3 : Int32).toNatClampNeg (some (z3 6))) (4 : Int32).toNatClampNeg (some (z4 6))))))))] ++ (sW z4 ca (uS v) ++ (sW z3 ca (uS v) ++ (sW z2 ca (uS v) ++ (sW z1 ca (uS v) ++ (sW z0 ca (uS v) ++ (wr))))))) H locs := ⟨hP, hD, hS⟩
  refine lv_iinc (v := 5) (lv' := [(1, .int 5), (0, .ref q)]) hx hb dX0_init_34 hl (k := 0) rfl rfl (by decide) rfl (fun ls hl => ?_)
  refine lv_goto (tgt := 15) hx hb dX0_init_37 (by decide) ?_
  refine lv_iload_n hx hb dX0_init_15 rfl (lv_at hl 0 rfl) ?_
  refine lv_bipush (v := 6) hx hb dX0_init_16 (by decide) ?_
  refine lv_icmp_ge (tgt := 40) hx hb dX0_init_18 (by decide) (fun c9 => absurd c9 (by decide)) (fun c9 => ?_)
  refine lv_aload_n hx hb dX0_init_21 rfl (lv_at hl 1 rfl) ?_
  refine va_get (D := D) (ci := 0) (v := .ref q1) (C := RX0) (T := TX0) (N := 3) hx hb hts inX0_init_X0 hown C0.2.1 hH.1 0 rfl rfl 0 (by decide) (hts _ (by decide +kernel : Cond.fieldLink RX0 11 "GatheringCache$History" "states" "[LGatheringCache$State;" ∈ wsX0_init)) (fun _ h9 => h9) rfl dX0_init_22 ?_
  refine lv_iload_n hx hb dX0_init_25 rfl (lv_at hl 0 rfl) ?_
  refine nw_obj (fs := [.null, .null, .null, .null, .null, .int 0, .int 0]) (ci := 1) (C := RX1) (T := TX1) (N := 7) C0 hH inX0_init_X1 tyX1 tyX1_ok (by decide +kernel : Cond.classLink RX0 9 RX1 ∈ wsX0_init) (by decide +kernel : Cond.instantiable RX1 7 ∈ wsX0_init) (by decide +kernel : Cond.initialized RX1 ∈ wsX0_init) rfl (fun j hj => by rcases (show j = 0 ∨ j = 1 ∨ j = 2 ∨ j = 3 ∨ j = 4 ∨ j = 5 ∨ j = 6 by omega) with rfl | rfl | rfl | rfl | rfl | rfl | rfl <;> rfl) (Nat.le_of_ble_eq_true rfl) (Nat.le_of_ble_eq_true rfl) dX0_init_26 (fun r5 H hH => ?_)
  refine lv_dup hx hb dX0_init_29 rfl ?_
  have hH : HS D A s ([(q, .inr (0, [.ref q1, .int 0, .int 0])), (q1, .inl (ca.1 3, 6, .inr (.inr (.inr (.inr (va_up (va_up (va_up (va_up (va_up (fun _ => none) (0 : Int32).toNatClampNeg (some (z0 6))) (1 : Int32).toNatClampNeg (some (z1 6))) (2 : Int32).toNatClampNeg (some (z2 6))) (3 : Int32).toNatClampNeg (some (z3 6))) (4 : Int32).toNatClampNeg (some (z4 6))))))))] ++ ([(r5, .inr (1, [.null, .null, .null, .null, .null, .int 0, .int 0]))] ++ (sW z4 ca (uS v) ++ (sW z3 ca (uS v) ++ (sW z2 ca (uS v) ++ (sW z1 ca (uS v) ++ (sW z0 ca (uS v) ++ (wr)))))))) _ _ := hH
  have hH := hH.swap
  refine cl_nN C0 hH hl.1 (mX1_init l D ca r5 ([(q, .inr (0, [.ref q1, .int 0, .int 0])), (q1, .inl (ca.1 3, 6, .inr (.inr (.inr (.inr (va_up (va_up (va_up (va_up (va_up (fun _ => none) (0 : Int32).toNatClampNeg (some (z0 6))) (1 : Int32).toNatClampNeg (some (z1 6))) (2 : Int32).toNatClampNeg (some (z2 6))) (3 : Int32).toNatClampNeg (some (z3 6))) (4 : Int32).toNatClampNeg (some (z4 6))))))))] ++ (sW z4 ca (uS v) ++ (sW z3 ca (uS v) ++ (sW z2 ca (uS v) ++ (sW z1 ca (uS v) ++ (sW z0 ca (uS v) ++ (wr))))))) hf) gX0_init_X1_init_n17 rfl rfl rfl (by decide +kernel : Cond.initialized yX1_init.cls ∈ wsX0_init) (by decide +kernel) (by decide +kernel : Cond.instanceMethod yX1_init ∈ wsX0_init) rfl hd_X1_init ⟨Nat.le_of_ble_eq_true rfl, Nat.le_of_ble_eq_true rfl⟩ ⟨Nat.le_of_ble_eq_true rfl, Nat.le_of_ble_eq_true rfl⟩ (rest := [.ref r5, .int 5, .ref q1]) (Nat.le_of_ble_eq_true rfl) dX0_init_30 (fun z5 H locs hz hN => ?_)
  obtain rfl := hz
  have hH := hN.swap
  have hH : HS D A s ([(q, .inr (0, [.ref q1, .int 0, .int 0])), (q1, .inl (ca.1 3, 6, .inr (.inr (.inr (.inr (va_up (va_up (va_up (va_up (va_up (fun _ => none) (0 : Int32).toNatClampNeg (some (z0 6))) (1 : Int32).toNatClampNeg (some (z1 6))) (2 : Int32).toNatClampNeg (some (z2 6))) (3 : Int32).toNatClampNeg (some (z3 6))) (4 : Int32).toNatClampNeg (some (z4 6))))))))] ++ (sW z5 ca (uS v) ++ (sW z4 ca (uS v) ++ (sW z3 ca (uS v) ++ (sW z2 ca (uS v) ++ (sW z1 ca (uS v) ++ (sW z0 ca (uS v) ++ (wr)))))))) _ _ := hH
  refine va_astq (ci := 1) hx hb C0.2.1 hH.1 hH.2.1 hH.2.2 1 3 8 rfl rfl rfl rfl (i := 5) (by unfold vp_in; decide) dX0_init_33 (fun H locs hP hD hS => ?_)
  have hH : HS D A s ([(q, .inr (0, [.ref q1, .int 0, .int 0])), (q1, .inl (ca.1 3, 6, .inr (.inr (.inr (.inr (va_up (va_up (va_up (va_up (va_up (va_up (fun _ => none) (0 : Int32).toNatClampNeg (some (z0 6))) (1 : Int32).toNatClampNeg (some (z1 6))) (2 : Int32).toNatClampNeg (some (z2 6))) (3 : Int32).toNatClampNeg (some (z3 6))) (4 : Int32).toNatClampNeg (some (z4 6))) (5 : Int32).toNatClampNeg (some (z5 6))))))))] ++ (sW z5 ca (uS v) ++ (sW z4 ca (uS v) ++ (sW z3 ca (uS v) ++ (sW z2 ca (uS v) ++ (sW z1 ca (uS v) ++ (sW z0 ca (uS v) ++ (wr)))))))) H locs := ⟨hP, hD, hS⟩
  refine lv_iinc (v := 6) (lv' := [(1, .int 6), (0, .ref q)]) hx hb dX0_init_34 hl (k := 0) rfl rfl (by decide) rfl (fun ls hl => ?_)
  refine lv_goto (tgt := 15) hx hb dX0_init_37 (by decide) ?_
  refine lv_iload_n hx hb dX0_init_15 rfl (lv_at hl 0 rfl) ?_
  refine lv_bipush (v := 6) hx hb dX0_init_16 (by decide) ?_
  refine lv_icmp_ge (tgt := 40) hx hb dX0_init_18 (by decide) (fun c9 => ?_) (fun c9 => absurd (by decide) c9)
  rw [f6_st] at hH
  have hp : (sW z5 ca (uS v) ++ (sW z4 ca (uS v) ++ (sW z3 ca (uS v) ++ (sW z2 ca (uS v) ++ (sW z1 ca (uS v) ++ (sW z0 ca (uS v) ++ (wr))))))).Perm (svL (f6 z0 z1 z2 z3 z4 z5) ca (fun _ => uS v) js6 ++ wr) := by
    rw [svL_cat]
    exact cat_rev wr [sW z0 ca (uS v), sW z1 ca (uS v), sW z2 ca (uS v), sW z3 ca (uS v), sW z4 ca (uS v), sW z5 ca (uS v)]
  have hH := hH.perm (List.Perm.append_left _ hp)
  exact hend (fun k => if k = 0 then q else q1, f6 z0 z1 z2 z3 z4 z5) _ _ _ _ rfl hH dX0_init_40
theorem inX4_init_X4 : ∀ w ∈ wsX40, w ∈ wsX4_init := by decide +kernel
theorem inX4_init_X1 : ∀ w ∈ wsX10, w ∈ wsX4_init := by decide +kernel
theorem inX4_init_X0 : ∀ w ∈ wsX00, w ∈ wsX4_init := by decide +kernel
theorem inX4_init_X3 : ∀ w ∈ wsX30, w ∈ wsX4_init := by decide +kernel
def rmX4_init : Room := { frames := 4, cells := 81, slots := 2034, locals := 100 }
theorem hd_X4_init : yX4_init.cls ≠ "java/lang/invoke/MethodHandle" ∧ yX4_init.cls ≠ "java/lang/invoke/VarHandle" ∧ (parseMethodDescriptor yX4_init.desc).map (fun d => d.parameters.length) = some 0 := by decide +kernel
set_option maxHeartbeats 4000000 in
set_option maxRecDepth 100000 in
theorem mX4_init (l : Launch) (D : va_G) (ca : Gp) (q : Nat) (wr : va_W) {v : Mem} (hf : pX2_init m0 = some v) : Mn l yX4_init wsX4_init rmX4_init D ca [.ref q] ([(q, .inr (4, [.null, .null, .null]))] ++ wr) (fun x : (Nat → Nat) × (Nat → Nat) × (Nat → Nat) × (Nat → Nat → Nat) => x.2.2.1 2 = q) (fun x => gW x.1 x.2.1 x.2.2.1 x.2.2.2 ca m0 (uS v) m0 (fun _ => uS v) wr) 81 2034 := by
  refine Mn_of (own := RX4) (cc := cX4_init) (nL := 1) (by decide) rfl rfl rfl (Nat.le_of_ble_eq_true rfl) ?_
  intro p e s m args below meth c Q A ls C0 hin hH hl hend
  obtain ⟨hx, hb, hml, hown, hts⟩ := id C0.1
  have hl : lv_has ls 1 [(0, .ref q)] := hl
  refine lv_aload_n hx hb dX4_init_0 rfl (lv_at hl 0 rfl) ?_
  refine obj_init C0 hl.1 (by decide +kernel : Cond.methodLink RX4 1 objectInit ∈ wsX4_init) (by decide +kernel : Cond.instanceMethod objectInit ∈ wsX4_init) (by decide +kernel : Cond.code objectInit ⟨#[0xb1]⟩ 1 none ∈ wsX4_init) dX4_init_1 (Nat.le_of_ble_eq_true rfl) (Nat.le_of_ble_eq_true rfl) ?_
  refine lv_aload_n hx hb dX4_init_4 rfl (lv_at hl 0 rfl) ?_
  have hH : HS D A s ([(q, .inr (4, [.null, .null, .null]))] ++ (wr)) _ _ := hH
  refine nw_obj (fs := [.null, .null, .null, .null, .null, .int 0, .int 0]) (ci := 1) (C := RX1) (T := TX1) (N := 7) C0 hH inX4_init_X1 tyX1 tyX1_ok (by decide +kernel : Cond.classLink RX4 7 RX1 ∈ wsX4_init) (by decide +kernel : Cond.instantiable RX1 7 ∈ wsX4_init) (by decide +kernel : Cond.initialized RX1 ∈ wsX4_init) rfl (fun j hj => by rcases (show j = 0 ∨ j = 1 ∨ j = 2 ∨ j = 3 ∨ j = 4 ∨ j = 5 ∨ j = 6 by omega) with rfl | rfl | rfl | rfl | rfl | rfl | rfl <;> rfl) (Nat.le_of_ble_eq_true rfl) (Nat.le_of_ble_eq_true rfl) dX4_init_5 (fun q1 H hH => ?_)
  refine lv_dup hx hb dX4_init_8 rfl ?_
  have hH : HS D A s ([(q, .inr (4, [.null, .null, .null]))] ++ ([(q1, .inr (1, [.null, .null, .null, .null, .null, .int 0, .int 0]))] ++ (wr))) _ _ := hH
  have hH := hH.swap
  refine cl_nN C0 hH hl.1 (mX1_init l D ca q1 ([(q, .inr (4, [.null, .null, .null]))] ++ (wr)) hf) gX4_init_X1_init_n9 rfl rfl rfl (by decide +kernel : Cond.initialized yX1_init.cls ∈ wsX4_init) (by decide +kernel) (by decide +kernel : Cond.instanceMethod yX1_init ∈ wsX4_init) rfl hd_X1_init ⟨Nat.le_of_ble_eq_true rfl, Nat.le_of_ble_eq_true rfl⟩ ⟨Nat.le_of_ble_eq_true rfl, Nat.le_of_ble_eq_true rfl⟩ (rest := [.ref q1, .ref q]) (Nat.le_of_ble_eq_true rfl) dX4_init_9 (fun a H locs hz hN => ?_)
  obtain rfl := hz
  have hH := hN.swap
  have hH : HS D A s ([(q, .inr (4, [.null, .null, .null]))] ++ (sW a ca (uS v) ++ (wr))) _ _ := hH
  refine pt_fin C0 hin hH (C := RX4) (T := TX4) (N := 3) (ci := 4) inX4_init_X4 tyX4 tyX4_ok nmX4 0 rfl rfl 0 (by decide) (by decide +kernel : Cond.fieldLink RX4 10 "GatheringCache" "now" "LGatheringCache$State;" ∈ wsX4_init) rfl rfl (ty := tyX4 0) rfl rfl rfl (Nat.le_of_ble_eq_true rfl) dX4_init_12 (fun H locs hH => ?_)
  have hH : HS D A s ([(q, .inr (4, [.ref (a 6), .null, .null]))] ++ (sW a ca (uS v) ++ (wr))) _ _ := hH
  refine lv_aload_n hx hb dX4_init_15 rfl (lv_at hl 0 rfl) ?_
  have hH : HS D A s ([(q, .inr (4, [.ref (a 6), .null, .null]))] ++ (sW a ca (uS v) ++ (wr))) _ _ := hH
  refine nw_obj (fs := [.null, .int 0, .int 0]) (ci := 0) (C := RX0) (T := TX0) (N := 3) C0 hH inX4_init_X0 tyX0 tyX0_ok (by decide +kernel : Cond.classLink RX4 16 RX0 ∈ wsX4_init) (by decide +kernel : Cond.instantiable RX0 3 ∈ wsX4_init) (by decide +kernel : Cond.initialized RX0 ∈ wsX4_init) rfl (fun j hj => by rcases (show j = 0 ∨ j = 1 ∨ j = 2 by omega) with rfl | rfl | rfl <;> rfl) (Nat.le_of_ble_eq_true rfl) (Nat.le_of_ble_eq_true rfl) dX4_init_16 (fun q2 H hH => ?_)
  refine lv_dup hx hb dX4_init_19 rfl ?_
  have hH : HS D A s ([(q, .inr (4, [.ref (a 6), .null, .null]))] ++ ([(q2, .inr (0, [.null, .int 0, .int 0]))] ++ (sW a ca (uS v) ++ (wr)))) _ _ := hH
  have hH := hH.swap
  refine cl_n C0 hH hl.1 (mX0_init l D ca q2 ([(q, .inr (4, [.ref (a 6), .null, .null]))] ++ (sW a ca (uS v) ++ (wr))) hf) gX4_init_X0_init rfl rfl rfl (by decide +kernel : Cond.initialized yX0_init.cls ∈ wsX4_init) (by decide +kernel : Cond.methodLink RX4 18 yX0_init ∈ wsX4_init) (by decide +kernel : Cond.instanceMethod yX0_init ∈ wsX4_init) rfl hd_X0_init ⟨Nat.le_of_ble_eq_true rfl, Nat.le_of_ble_eq_true rfl⟩ ⟨Nat.le_of_ble_eq_true rfl, Nat.le_of_ble_eq_true rfl⟩ (rest := [.ref q2, .ref q]) (Nat.le_of_ble_eq_true rfl) dX4_init_20 (fun x H locs hz hN => ?_)
  obtain ⟨h, f⟩ := x
  obtain rfl : h 0 = q2 := hz
  have hH : HS D A s (h2W h f ca ++ (svL f ca (fun _ => uS v) js6 ++ ([(q, .inr (4, [.ref (a 6), .null, .null]))] ++ (sW a ca (uS v) ++ (wr))))) _ _ := hN
  have hH := hH.perm ((List.Perm.append_left _ (perm_sw _ _ _)).trans (perm_sw _ _ _))
  have hH : HS D A s ([(q, .inr (4, [.ref (a 6), .null, .null]))] ++ (h2W h f ca ++ (svL f ca (fun _ => uS v) js6 ++ (sW a ca (uS v) ++ (wr))))) _ _ := hH
  refine pt_fin C0 hin hH (C := RX4) (T := TX4) (N := 3) (ci := 4) inX4_init_X4 tyX4 tyX4_ok nmX4 0 rfl rfl 1 (by decide) (by decide +kernel : Cond.fieldLink RX4 19 "GatheringCache" "history" "LGatheringCache$History;" ∈ wsX4_init) rfl rfl (ty := tyX4 1) rfl rfl rfl (Nat.le_of_ble_eq_true rfl) dX4_init_23 (fun H locs hH => ?_)
  have hH : HS D A s ([(q, .inr (4, [.ref (a 6), .ref (h 0), .null]))] ++ (h2W h f ca ++ (svL f ca (fun _ => uS v) js6 ++ (sW a ca (uS v) ++ (wr))))) _ _ := hH
  refine lv_aload_n hx hb dX4_init_26 rfl (lv_at hl 0 rfl) ?_
  have hH : HS D A s ([(q, .inr (4, [.ref (a 6), .ref (h 0), .null]))] ++ (h2W h f ca ++ (svL f ca (fun _ => uS v) js6 ++ (sW a ca (uS v) ++ (wr))))) _ _ := hH
  refine nw_obj (fs := [.null, .int 0, .int 0, .int 0, .int 0, .int 0]) (ci := 3) (C := RX3) (T := TX3) (N := 6) C0 hH inX4_init_X3 tyX3 tyX3_ok (by decide +kernel : Cond.classLink RX4 23 RX3 ∈ wsX4_init) (by decide +kernel : Cond.instantiable RX3 6 ∈ wsX4_init) (by decide +kernel : Cond.initialized RX3 ∈ wsX4_init) rfl (fun j hj => by rcases (show j = 0 ∨ j = 1 ∨ j = 2 ∨ j = 3 ∨ j = 4 ∨ j = 5 by omega) with rfl | rfl | rfl | rfl | rfl | rfl <;> rfl) (Nat.le_of_ble_eq_true rfl) (Nat.le_of_ble_eq_true rfl) dX4_init_27 (fun q3 H hH => ?_)
  refine lv_dup hx hb dX4_init_30 rfl ?_
  have hH : HS D A s ([(q, .inr (4, [.ref (a 6), .ref (h 0), .null]))] ++ ([(q3, .inr (3, [.null, .int 0, .int 0, .int 0, .int 0, .int 0]))] ++ (h2W h f ca ++ (svL f ca (fun _ => uS v) js6 ++ (sW a ca (uS v) ++ (wr)))))) _ _ := hH
  have hH := hH.swap
  refine cl_nN C0 hH hl.1 (mX3_init l D ca q3 ([(q, .inr (4, [.ref (a 6), .ref (h 0), .null]))] ++ (h2W h f ca ++ (svL f ca (fun _ => uS v) js6 ++ (sW a ca (uS v) ++ (wr)))))) gX4_init_X3_init_n25 rfl rfl rfl (by decide +kernel : Cond.initialized yX3_init.cls ∈ wsX4_init) (by decide +kernel) (by decide +kernel : Cond.instanceMethod yX3_init ∈ wsX4_init) rfl hd_X3_init ⟨Nat.le_of_ble_eq_true rfl, Nat.le_of_ble_eq_true rfl⟩ ⟨Nat.le_of_ble_eq_true rfl, Nat.le_of_ble_eq_true rfl⟩ (rest := [.ref q3, .ref q]) (Nat.le_of_ble_eq_true rfl) dX4_init_31 (fun b H locs hz hN => ?_)
  obtain rfl := hz
  have hH := hN.swap
  have hH : HS D A s ([(q, .inr (4, [.ref (a 6), .ref (h 0), .null]))] ++ (tW b ca m0 ++ (h2W h f ca ++ (svL f ca (fun _ => uS v) js6 ++ (sW a ca (uS v) ++ (wr)))))) _ _ := hH
  refine pt_fin C0 hin hH (C := RX4) (T := TX4) (N := 3) (ci := 4) inX4_init_X4 tyX4 tyX4_ok nmX4 0 rfl rfl 2 (by decide) (by decide +kernel : Cond.fieldLink RX4 26 "GatheringCache" "text" "LGatheringCache$Text;" ∈ wsX4_init) rfl rfl (ty := tyX4 2) rfl rfl rfl (Nat.le_of_ble_eq_true rfl) dX4_init_34 (fun H locs hH => ?_)
  have hH : HS D A s ([(q, .inr (4, [.ref (a 6), .ref (h 0), .ref (b 0)]))] ++ (tW b ca m0 ++ (h2W h f ca ++ (svL f ca (fun _ => uS v) js6 ++ (sW a ca (uS v) ++ (wr)))))) _ _ := hH
  have hp : (([(q, .inr (4, [.ref (a 6), .ref (h 0), .ref (b 0)]))] : va_W) ++ (tW b ca m0 ++ (h2W h f ca ++ (svL f ca (fun _ => uS v) js6 ++ (sW a ca (uS v) ++ wr))))).Perm (tW b ca m0 ++ (sW a ca (uS v) ++ (h2W h f ca ++ (([(q, .inr (4, [.ref (a 6), .ref (h 0), .ref (b 0)]))] : va_W) ++ (svL f ca (fun _ => uS v) js6 ++ wr))))) := by
    refine (perm_sw _ _ _).trans (List.Perm.append_left _ ?_)
    refine (perm_sw _ _ _).trans ?_
    refine (List.Perm.append_left _ (List.Perm.append_left _ (perm_sw _ _ _))).trans ?_
    refine (List.Perm.append_left _ (perm_sw _ _ _)).trans ?_
    exact perm_sw _ _ _
  have hH := hH.perm hp
  have hH : HS D A s (gW a b (fun k => if k = 2 then q else h k) f ca m0 (uS v) m0 (fun _ => uS v) wr) _ _ := hH
  exact hend (a, b, (fun k => if k = 2 then q else h k), f) _ _ _ _ rfl hH dX4_init_37
