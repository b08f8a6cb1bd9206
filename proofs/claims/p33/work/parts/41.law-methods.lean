/-! THE LAW'S OWN METHODS: functions and contracts, by program. -/
def Ml (l : Launch) (y : MethodName) (ws : List Cond) (rm : Room) (D : va_G) (ca : Gp) (av : List Value) (w w' : va_W) (r : Int64) : Prop := ∀ sz : Nat, Met l y ws rm (va_Pc av (PcM D ca w sz)) (va_Ql (fun (r' : Int64) (_ : Unit) => r' = r) (fun _ t => QcM D w w' sz t) (va_A w sz)) 0 0 (va_A w sz)
theorem Ml_of {l : Launch} {y : MethodName} {ws ws' : List Cond} {rm : Room} {D : va_G} {ca : Gp} {av : List Value} {w w' : va_W} {r : Int64} {cc : ByteArray} {nL : Nat}
    {own : String} (hy : plainName y.cls = true) (ho : y.cls = own) (hw : ws = Cond.code y cc nL (some .long) :: ws') (hrc : rm.cells = 0) (hrs : rm.slots = 0) (hlen : (lg_sl av).length ≤ nL)
    (body : ∀ (p : Program) (e : Env) (s : State) (m : MethodId) (args : Array Value) (below : List Frame) (meth : Method) (c : Code) (Q : State → Prop) (A : Nat → Prop) (ls : Array Slot), Cx p s m args c cc nL ws own D ca A → HS D A s w s.heap [] → lv_has ls nL (lv_args 0 av) →
      (∀ (H : Heap) (locs : List Loc) (pc : Nat) (ls : Array Slot), HS D A s w' H locs → decode cc pc = .ok (.lreturn, 1) → W p l e rm s m args below meth c H locs 0 0 Q (F0 m pc ls [.long r])) → W p l e rm s m args below meth c s.heap [] 0 0 Q (F0 m 0 ls [])) : Ml l y ws rm D ca av w w' r := by
  subst ho
  intro sz
  refine Met.ofW (cc := cc) (maxL := nL) (ret := some .long) hy hw ?_
  intro p e s m args below meth c s₁ B hml hv
  obtain ⟨rfl, hsz, hP, hK, hD0, hE⟩ := hv
  have hts := atoms_spec (ws := ws) B.pre
  have hown : s.vm.findClass y.cls = some m.cls := findClass_of_methodNamed B.named
  have hlocks := B.notSynchronized
  subst hsz
  have hl := lv_entry av (n := nL) hlen
  rw [lg_entry_eq]
  refine body p e s m av.toArray below meth c _ (va_A w s.heap.size) _ ⟨⟨B.exec, B.bytes, hml, hown, hts⟩, hK, fun q h => Or.inr h, hE⟩ ⟨hP, hD0.self, va_S.rf⟩ hl ?_
  intro H locs pc ls hH hdg
  exact W.lret (v := r) B.exec B.bytes B.returns (fun t ht hW => ⟨⟨r, (), rfl, rfl, by rw [ht]; exact hH.1, hH.2.1⟩, hH.2.2.F ht⟩) hH.2.2.2.2 hdg hlocks
def pL_up (x0 : Int32) (x1 : Int32) : Option Int32 :=
  (nzr x1).bind fun y1 =>
  some ((x0 &&& 2147483647) - (x0 &&& 2147483647) / x1 * x1)
def rmL_up : Room := { frames := 0, cells := 0, slots := 0, locals := 0 }
theorem hd_L_up : yL_up.cls ≠ "java/lang/invoke/MethodHandle" ∧ yL_up.cls ≠ "java/lang/invoke/VarHandle" ∧ (parseMethodDescriptor yL_up.desc).map (fun d => d.parameters.length) = some 2 := by decide +kernel
set_option maxHeartbeats 4000000 in
set_option maxRecDepth 100000 in
theorem mL_up (l : Launch) (D : va_G) (ca : Gp) (w : va_W) (x0 : Int32) (x1 : Int32) {r : Int32} (hf : pL_up x0 x1 = some r) : Mi l yL_up wsL_up rmL_up D ca [.int x0, .int x1] (w) (w) r := by
  refine Mi_of (own := RL) (cc := cL_up) (nL := 2) (ty := .int) (by decide) rfl rfl rfl rfl (Nat.le_of_ble_eq_true rfl) ?_
  intro p e s m args below meth c Q A ls C0 hH hl hend
  obtain ⟨hx, hb, hml, hown, hts⟩ := id C0.1
  have hl : lv_has ls 2 [(0, .int x0), (1, .int x1)] := hl
  unfold pL_up at hf
  refine lv_iload_n hx hb dL_up_0 rfl (lv_at hl 0 rfl) ?_
  refine lv_ldc (own := RL) (v := 2147483647) hx hb hown (hts (.constant RL 8 (2147483647)) (by decide +kernel)) dL_up_1 ?_
  refine lv_iand hx hb dL_up_3 ?_
  refine lv_iload_n hx hb dL_up_4 rfl (lv_at hl 1 rfl) ?_
  obtain ⟨y1, h_y1, hf⟩ := bnd hf
  refine lv_irem hx hb dL_up_5 (nzr_s h_y1) ?_
  cases hf
  exact hend _ _ _ _ hH rfl dL_up_6
def pL_lineOf_30 (t : Mem) (u : Mem) (hh : Mem) (S : Nat → Mem) (x1 : Int32) (k : Int32 → Int32 → Option Int32) (x3 : Int32) (s0 : Int32) : Option Int32 :=
  k s0 (x3 + 1)
def pL_lineOf_4b (t : Mem) (u : Mem) (hh : Mem) (S : Nat → Mem) (x1 : Int32) (k : Int32 → Int32 → Option Int32) (x2 : Int32) (x3 : Int32) : Option Int32 :=
  if 12 ≤ x3 then
    some x2
  else
    (pX4_line t u hh S (x3 / 3) (x3 - x3 / 3 * 3) 0).bind fun y102 =>
    if y102 = x1 then
      pL_lineOf_30 t u hh S x1 k x3 x3
    else
      pL_lineOf_30 t u hh S x1 k x3 x2
def pL_lineOf_4 (t : Mem) (u : Mem) (hh : Mem) (S : Nat → Mem) (x1 : Int32) : Nat → Int32 → Int32 → Option Int32
  | 0, _, _ => none
  | n + 1, x2, x3 => pL_lineOf_4b t u hh S x1 (pL_lineOf_4 t u hh S x1 n) x2 x3
def pL_lineOf (t : Mem) (u : Mem) (hh : Mem) (S : Nat → Mem) (x1 : Int32) : Option Int32 :=
  pL_lineOf_4 t u hh S x1 FU (-1) 0
def rmL_lineOf : Room := { frames := 3, cells := 0, slots := 0, locals := 65 }
theorem hd_L_lineOf : yL_lineOf.cls ≠ "java/lang/invoke/MethodHandle" ∧ yL_lineOf.cls ≠ "java/lang/invoke/VarHandle" ∧ (parseMethodDescriptor yL_lineOf.desc).map (fun d => d.parameters.length) = some 2 := by decide +kernel
set_option maxHeartbeats 4000000 in
set_option maxRecDepth 100000 in
theorem mL_lineOf (l : Launch) (D : va_G) (ca : Gp) (a b h : Nat → Nat) (f : Nat → Nat → Nat) (wr : va_W) (t u hh : Mem) (S : Nat → Mem) (x1 : Int32) {r : Int32} (hf : pL_lineOf t u hh S x1 = some r) : Mi l yL_lineOf wsL_lineOf rmL_lineOf D ca [.ref (h 2), .int x1] (gW a b h f ca t u hh S wr) (gW a b h f ca t u hh S wr) r := by
  refine Mi_of (own := RL) (cc := cL_lineOf) (nL := 4) (ty := .int) (by decide) rfl rfl rfl rfl (Nat.le_of_ble_eq_true rfl) ?_
  intro p e s m args below meth c Q A ls C0 hH hl hend
  obtain ⟨hx, hb, hml, hown, hts⟩ := id C0.1
  have hl : lv_has ls 4 [(0, .ref (h 2)), (1, .int x1)] := hl
  have J4 : ∀ (x1 : Int32) (n : Nat) (x2 : Int32) (x3 : Int32) (H : Heap) (locs : List Loc) (ls : Array Slot), pL_lineOf_4 t u hh S x1 n x2 x3 = some r → HS D A s (gW a b h f ca t u hh S wr) H locs → lv_has ls 4 [(0, .ref (h 2)), (1, .int x1), (2, .int x2), (3, .int x3)] → W p l e rmL_lineOf s m args below meth c H locs 0 0 Q (F0 m 4 ls []) := by
    intro x1 n
    induction n with
    | zero => intro x2 x3 H locs ls hf; cases hf
    | succ n ih =>
      intro x2 x3 H locs ls hf hH hl
      have hf : pL_lineOf_4b t u hh S x1 (pL_lineOf_4 t u hh S x1 n) x2 x3 = some r := hf
      have J30 : ∀ (x3 : Int32) (s0 : Int32) (H : Heap) (locs : List Loc) (ls : Array Slot), pL_lineOf_30 t u hh S x1 (pL_lineOf_4 t u hh S x1 n) x3 s0 = some r → HS D A s (gW a b h f ca t u hh S wr) H locs → lv_has ls 4 [(0, .ref (h 2)), (1, .int x1), (3, .int x3)] → W p l e rmL_lineOf s m args below meth c H locs 0 0 Q (F0 m 30 ls [.int s0]) := by
        intro x3 s0 H locs ls hf hH hl
        unfold pL_lineOf_30 at hf
        refine lv_istore_n (lv' := [(2, .int s0), (0, .ref (h 2)), (1, .int x1), (3, .int x3)]) hx hb dL_lineOf_30 rfl hl (by decide) rfl (fun ls hl => ?_)
        refine lv_iinc (v := (x3 + 1)) (lv' := [(3, .int (x3 + 1)), (2, .int s0), (0, .ref (h 2)), (1, .int x1)]) hx hb dL_lineOf_31 hl (k := 3) rfl rfl (by decide) rfl (fun ls hl => ?_)
        refine lv_goto (tgt := 4) hx hb dL_lineOf_34 (by decide) ?_
        exact ih _ _ _ _ _ hf hH (lv_sub hl [2, 3, 1, 0] rfl)
      unfold pL_lineOf_4b at hf
      refine lv_iload_n hx hb dL_lineOf_4 rfl (lv_at hl 3 rfl) ?_
      refine lv_bipush (v := 12) hx hb dL_lineOf_5 (by decide) ?_
      refine lv_icmp_ge (tgt := 37) hx hb dL_lineOf_7 (by decide) (fun c101 => ?_) (fun c101 => ?_)
      · rw [if_pos c101] at hf
        refine lv_iload_n hx hb dL_lineOf_37 rfl (lv_at hl 2 rfl) ?_
        cases hf
        exact hend _ _ _ _ hH rfl dL_lineOf_38
      · rw [if_neg c101] at hf
        refine lv_aload_n hx hb dL_lineOf_10 rfl (lv_at hl 0 rfl) ?_
        refine lv_iload_n hx hb dL_lineOf_11 rfl (lv_at hl 3 rfl) ?_
        refine lv_iconst (v := 3) hx hb dL_lineOf_12 (by decide) ?_
        refine lv_idiv hx hb dL_lineOf_13 (by decide) ?_
        refine lv_iload_n hx hb dL_lineOf_14 rfl (lv_at hl 3 rfl) ?_
        refine lv_iconst (v := 3) hx hb dL_lineOf_15 (by decide) ?_
        refine lv_irem hx hb dL_lineOf_16 (by decide) ?_
        refine lv_iconst (v := 0) hx hb dL_lineOf_17 (by decide) ?_
        obtain ⟨y102, h_y102, hf⟩ := bnd hf
        refine cl_iV C0 hH hl.1 (As := [.int (x3 / 3), .int (x3 - x3 / 3 * 3), .int 0]) (rest := []) (mX4_line l D ca a b h f wr t u hh S (x3 / 3) (x3 - x3 / 3 * 3) 0 h_y102) gL_lineOf_X4_line rfl rfl rfl hd_X4_line ⟨Nat.le_of_ble_eq_true rfl, Nat.le_of_ble_eq_true rfl⟩ ⟨Nat.zero_le _, Nat.zero_le _⟩ (vG_X4 C0 hH) rfl (Nat.le_of_ble_eq_true rfl) dL_lineOf_18 (fun H locs hH => ?_)
        refine lv_iload_n hx hb dL_lineOf_21 rfl (lv_at hl 1 rfl) ?_
        refine lv_icmp_ne (tgt := 29) hx hb dL_lineOf_22 (by decide) (fun c103 => ?_) (fun c103 => ?_)
        · rw [if_neg c103] at hf
          refine lv_iload_n hx hb dL_lineOf_29 rfl (lv_at hl 2 rfl) ?_
          exact J30 _ _ _ _ _ hf hH (lv_sub hl [0, 1, 3] rfl)
        · rw [if_pos c103] at hf
          refine lv_iload_n hx hb dL_lineOf_25 rfl (lv_at hl 3 rfl) ?_
          refine lv_goto (tgt := 30) hx hb dL_lineOf_26 (by decide) ?_
          exact J30 _ _ _ _ _ hf hH (lv_sub hl [0, 1, 3] rfl)
  unfold pL_lineOf at hf
  refine lv_iconst (v := (-1)) hx hb dL_lineOf_0 (by decide) ?_
  refine lv_istore_n (lv' := [(2, .int (-1)), (0, .ref (h 2)), (1, .int x1)]) hx hb dL_lineOf_1 rfl hl (by decide) rfl (fun ls hl => ?_)
  refine lv_iconst (v := 0) hx hb dL_lineOf_2 (by decide) ?_
  refine lv_istore_n (lv' := [(3, .int 0), (2, .int (-1)), (0, .ref (h 2)), (1, .int x1)]) hx hb dL_lineOf_3 rfl hl (by decide) rfl (fun ls hl => ?_)
  exact J4 _ FU _ _ _ _ _ hf hH (lv_sub hl [2, 3, 1, 0] rfl)
def pL_writes_110 (x1 : Int32) (x2 : Int32) (x3 : Int32) (x4 : Int32) (x5 : Int32) (x6 : Int32) (x7 : Int32) (x8 : Int32) (k : Int32 → Int32 → Mem → Mem → Mem → (Nat → Mem) → Option (Int32 × GM)) (x10 : Int32) (s0 : Int32) (t : Mem) (u : Mem) (hh : Mem) (S : Nat → Mem) : Option (Int32 × GM) :=
  k s0 (x10 + 1) t u hh S
def pL_writes_105 (x1 : Int32) (x2 : Int32) (x3 : Int32) (x4 : Int32) (x5 : Int32) (x6 : Int32) (x7 : Int32) (x8 : Int32) (k : Int32 → Int32 → Mem → Mem → Mem → (Nat → Mem) → Option (Int32 × GM)) (x10 : Int32) (t : Mem) (u : Mem) (hh : Mem) (S : Nat → Mem) : Option (Int32 × GM) :=
  pL_writes_110 x1 x2 x3 x4 x5 x6 x7 x8 k x10 1 t u hh S
def pL_writes_284 (s0 : Int32) (t : Mem) (u : Mem) (hh : Mem) (S : Nat → Mem) : Option (Int32 × GM) :=
  if isz s0 = true then some (s0, (t, u, hh, S)) else none
def pL_writes_283 (t : Mem) (u : Mem) (hh : Mem) (S : Nat → Mem) : Option (Int32 × GM) :=
  pL_writes_284 0 t u hh S
def pL_writes_369 (s0 : Int32) (t : Mem) (u : Mem) (hh : Mem) (S : Nat → Mem) : Option (Int32 × GM) :=
  if isz s0 = true then some (s0, (t, u, hh, S)) else none
def pL_writes_364 (t : Mem) (u : Mem) (hh : Mem) (S : Nat → Mem) : Option (Int32 × GM) :=
  pL_writes_369 1 t u hh S
def pL_writes_368 (t : Mem) (u : Mem) (hh : Mem) (S : Nat → Mem) : Option (Int32 × GM) :=
  pL_writes_369 0 t u hh S
def pL_writes_201 (x1 : Int32) (x2 : Int32) (x4 : Int32) (x5 : Int32) (x7 : Int32) (s0 : Int32) (t : Mem) (u : Mem) (hh : Mem) (S : Nat → Mem) : Option (Int32 × GM) :=
  (pL_lineOf t u hh S x1).bind fun y1101 =>
  if x7 = 0 then
    if s0 = 0 then
      pL_writes_368 t u hh S
    else
      (pX4_count t u hh S 3).bind fun y1104 =>
      if y1104 = (x5 + 1) then
        (pX4_onDisk t u hh S x1).bind fun y1106 =>
        if y1106 = x2 then
          (pX4_isFound t u hh S x1).bind fun y1108 =>
          if y1108 = 0 then
            pL_writes_368 t u hh S
          else
            (pX4_isIn t u hh S).bind fun y1110 =>
            if y1110 = 0 then
              pL_writes_364 t u hh S
            else
              if y1101 < 0 then
                pL_writes_364 t u hh S
              else
                (pX4_line t u hh S (y1101 / 3) (y1101 - y1101 / 3 * 3) 1).bind fun y1113 =>
                if y1113 = x2 then
                  (pX4_line t u hh S (y1101 / 3) (y1101 - y1101 / 3 * 3) 4).bind fun y1115 =>
                  if y1115 = 0 then
                    pL_writes_364 t u hh S
                  else
                    pL_writes_368 t u hh S
                else
                  pL_writes_368 t u hh S
        else
          pL_writes_368 t u hh S
      else
        pL_writes_368 t u hh S
  else
    if s0 = 0 then
      pL_writes_283 t u hh S
    else
      (pX4_count t u hh S 2).bind fun y1118 =>
      if y1118 = (x4 + 1) then
        if y1101 < 0 then
          pL_writes_283 t u hh S
        else
          (pX4_line t u hh S (y1101 / 3) (y1101 - y1101 / 3 * 3) 1).bind fun y1121 =>
          if y1121 = x2 then
            (pX4_line t u hh S (y1101 / 3) (y1101 - y1101 / 3 * 3) 4).bind fun y1123 =>
            if y1123 = 1 then
              (pX4_isFound t u hh S x1).bind fun y1125 =>
              if y1125 = 0 then
                pL_writes_283 t u hh S
              else
                pL_writes_284 1 t u hh S
            else
              pL_writes_283 t u hh S
          else
            pL_writes_283 t u hh S
      else
        pL_writes_283 t u hh S
def pL_writes_200 (x1 : Int32) (x2 : Int32) (x4 : Int32) (x5 : Int32) (x7 : Int32) (t : Mem) (u : Mem) (hh : Mem) (S : Nat → Mem) : Option (Int32 × GM) :=
  pL_writes_201 x1 x2 x4 x5 x7 0 t u hh S
def pL_writes_172 (x1 : Int32) (x2 : Int32) (x4 : Int32) (x5 : Int32) (x7 : Int32) (s0 : Int32) (s1 : Int32) (t : Mem) (u : Mem) (hh : Mem) (S : Nat → Mem) : Option (Int32 × GM) :=
  if s0 = s1 then
    (pX4_count t u hh S 2).bind fun y902 =>
    (pX4_count t u hh S 3).bind fun y903 =>
    if (y902 + y903) = ((x4 + x5) + 1) then
      pL_writes_201 x1 x2 x4 x5 x7 1 t u hh S
    else
      pL_writes_200 x1 x2 x4 x5 x7 t u hh S
  else
    pL_writes_200 x1 x2 x4 x5 x7 t u hh S
def pL_writes_171 (x1 : Int32) (x2 : Int32) (x4 : Int32) (x5 : Int32) (x7 : Int32) (s0 : Int32) (t : Mem) (u : Mem) (hh : Mem) (S : Nat → Mem) : Option (Int32 × GM) :=
  pL_writes_172 x1 x2 x4 x5 x7 s0 0 t u hh S
def pL_writes_157 (x1 : Int32) (x2 : Int32) (x4 : Int32) (x5 : Int32) (x7 : Int32) (x9 : Int32) (s0 : Int32) (t : Mem) (u : Mem) (hh : Mem) (S : Nat → Mem) : Option (Int32 × GM) :=
  if x7 = 0 then
    pL_writes_171 x1 x2 x4 x5 x7 s0 t u hh S
  else
    if x9 = 0 then
      pL_writes_171 x1 x2 x4 x5 x7 s0 t u hh S
    else
      pL_writes_172 x1 x2 x4 x5 x7 s0 1 t u hh S
def pL_writes_81b (x1 : Int32) (x2 : Int32) (x3 : Int32) (x4 : Int32) (x5 : Int32) (x6 : Int32) (x7 : Int32) (x8 : Int32) (k : Int32 → Int32 → Mem → Mem → Mem → (Nat → Mem) → Option (Int32 × GM)) (x9 : Int32) (x10 : Int32) (t : Mem) (u : Mem) (hh : Mem) (S : Nat → Mem) : Option (Int32 × GM) :=
  if 3 ≤ x10 then
    bdG (pX4_write t u hh S x1 x2) fun y402 t403 u404 h405 S406 =>
    if y402 = x6 then
      (pX4_count t403 u404 h405 S406 0).bind fun y408 =>
      (pX4_count t403 u404 h405 S406 1).bind fun y409 =>
      if (y408 + y409) = (x3 + x6) then
        if x6 = 0 then
          pL_writes_157 x1 x2 x4 x5 x7 x9 1 t403 u404 h405 S406
        else
          pL_writes_157 x1 x2 x4 x5 x7 x9 0 t403 u404 h405 S406
      else
        pL_writes_200 x1 x2 x4 x5 x7 t403 u404 h405 S406
    else
      pL_writes_200 x1 x2 x4 x5 x7 t403 u404 h405 S406
  else
    if x9 = 0 then
      (pX4_line t u hh S x8 x10 4).bind fun y413 =>
      if 1 ≤ y413 then
        pL_writes_110 x1 x2 x3 x4 x5 x6 x7 x8 k x10 0 t u hh S
      else
        pL_writes_105 x1 x2 x3 x4 x5 x6 x7 x8 k x10 t u hh S
    else
      pL_writes_105 x1 x2 x3 x4 x5 x6 x7 x8 k x10 t u hh S
def pL_writes_81 (x1 : Int32) (x2 : Int32) (x3 : Int32) (x4 : Int32) (x5 : Int32) (x6 : Int32) (x7 : Int32) (x8 : Int32) : Nat → Int32 → Int32 → Mem → Mem → Mem → (Nat → Mem) → Option (Int32 × GM)
  | 0, _, _, _, _, _, _ => none
  | n + 1, x9, x10, t, u, hh, S => pL_writes_81b x1 x2 x3 x4 x5 x6 x7 x8 (pL_writes_81 x1 x2 x3 x4 x5 x6 x7 x8 n) x9 x10 t u hh S
def pL_writes_76 (x1 : Int32) (x2 : Int32) (x3 : Int32) (x4 : Int32) (x5 : Int32) (x6 : Int32) (x7 : Int32) (x8 : Int32) (s0 : Int32) (t : Mem) (u : Mem) (hh : Mem) (S : Nat → Mem) : Option (Int32 × GM) :=
  pL_writes_81 x1 x2 x3 x4 x5 x6 x7 x8 FU s0 0 t u hh S
def pL_writes_54 (x1 : Int32) (x2 : Int32) (x3 : Int32) (x4 : Int32) (x5 : Int32) (x6 : Int32) (s0 : Int32) (t : Mem) (u : Mem) (hh : Mem) (S : Nat → Mem) : Option (Int32 × GM) :=
  (pL_lineOf t u hh S x1).bind fun y201 =>
  if y201 < 0 then
    pL_writes_76 x1 x2 x3 x4 x5 x6 s0 ((x1 / 4) - (x1 / 4) / 4 * 4) 0 t u hh S
  else
    pL_writes_76 x1 x2 x3 x4 x5 x6 s0 ((x1 / 4) - (x1 / 4) / 4 * 4) 1 t u hh S
def pL_writes_53 (x1 : Int32) (x2 : Int32) (x3 : Int32) (x4 : Int32) (x5 : Int32) (x6 : Int32) (t : Mem) (u : Mem) (hh : Mem) (S : Nat → Mem) : Option (Int32 × GM) :=
  pL_writes_54 x1 x2 x3 x4 x5 x6 0 t u hh S
def pL_writes (t : Mem) (u : Mem) (hh : Mem) (S : Nat → Mem) (x1 : Int32) (x2 : Int32) : Option (Int32 × GM) :=
  (pX4_count t u hh S 0).bind fun y1 =>
  (pX4_count t u hh S 1).bind fun y2 =>
  (pX4_count t u hh S 2).bind fun y3 =>
  (pX4_count t u hh S 3).bind fun y4 =>
  (pX4_ifWritten t u hh S x1).bind fun y5 =>
  (pX4_isIn t u hh S).bind fun y6 =>
  if y6 = 0 then
    pL_writes_53 x1 x2 (y1 + y2) y3 y4 y5 t u hh S
  else
    (pX4_charge t u hh S).bind fun y8 =>
    if y8 < 20 then
      pL_writes_53 x1 x2 (y1 + y2) y3 y4 y5 t u hh S
    else
      pL_writes_54 x1 x2 (y1 + y2) y3 y4 y5 1 t u hh S
def rmL_writes : Room := { frames := 7, cells := 0, slots := 0, locals := 164 }
theorem hd_L_writes : yL_writes.cls ≠ "java/lang/invoke/MethodHandle" ∧ yL_writes.cls ≠ "java/lang/invoke/VarHandle" ∧ (parseMethodDescriptor yL_writes.desc).map (fun d => d.parameters.length) = some 3 := by decide +kernel
set_option maxHeartbeats 4000000 in
set_option maxRecDepth 100000 in
theorem mL_writes (l : Launch) (D : va_G) (ca : Gp) (a b h : Nat → Nat) (f : Nat → Nat → Nat) (wr : va_W) (t u hh : Mem) (S : Nat → Mem) (x1 : Int32) (x2 : Int32) {r : Int32} {t9 : Mem} {u9 : Mem} {h9 : Mem} {S9 : Nat → Mem} (hf : pL_writes t u hh S x1 x2 = some (r, (t9, u9, h9, S9))) : Mi l yL_writes wsL_writes rmL_writes D ca [.ref (h 2), .int x1, .int x2] (gW a b h f ca t u hh S wr) (gW a b h f ca t9 u9 h9 S9 wr) r := by
  refine Mi_of (own := RL) (cc := cL_writes) (nL := 12) (ty := .boolean) (by decide) rfl rfl rfl rfl (Nat.le_of_ble_eq_true rfl) ?_
  intro p e s m args below meth c Q A ls C0 hH hl hend
  obtain ⟨hx, hb, hml, hown, hts⟩ := id C0.1
  have hl : lv_has ls 12 [(0, .ref (h 2)), (1, .int x1), (2, .int x2)] := hl
  have J284 : ∀ (s0 : Int32) (t : Mem) (u : Mem) (hh : Mem) (S : Nat → Mem) (H : Heap) (locs : List Loc) (ls : Array Slot), pL_writes_284 s0 t u hh S = some (r, (t9, u9, h9, S9)) → HS D A s (gW a b h f ca t u hh S wr) H locs → lv_has ls 12 [] → W p l e rmL_writes s m args below meth c H locs 0 0 Q (F0 m 284 ls [.int s0]) := by
    intro s0 t u hh S H locs ls hf hH hl
    unfold pL_writes_284 at hf
    obtain ⟨hz, hf⟩ := gd hf
    cases hf
    exact hend _ _ _ _ hH (isz_n hz) dL_writes_284
  have J283 : ∀ (t : Mem) (u : Mem) (hh : Mem) (S : Nat → Mem) (H : Heap) (locs : List Loc) (ls : Array Slot), pL_writes_283 t u hh S = some (r, (t9, u9, h9, S9)) → HS D A s (gW a b h f ca t u hh S wr) H locs → lv_has ls 12 [] → W p l e rmL_writes s m args below meth c H locs 0 0 Q (F0 m 283 ls []) := by
    intro t u hh S H locs ls hf hH hl
    unfold pL_writes_283 at hf
    refine lv_iconst (v := 0) hx hb dL_writes_283 (by decide) ?_
    exact J284 _ _ _ _ _ _ _ _ hf hH (lv_sub hl [] rfl)
  have J369 : ∀ (s0 : Int32) (t : Mem) (u : Mem) (hh : Mem) (S : Nat → Mem) (H : Heap) (locs : List Loc) (ls : Array Slot), pL_writes_369 s0 t u hh S = some (r, (t9, u9, h9, S9)) → HS D A s (gW a b h f ca t u hh S wr) H locs → lv_has ls 12 [] → W p l e rmL_writes s m args below meth c H locs 0 0 Q (F0 m 369 ls [.int s0]) := by
    intro s0 t u hh S H locs ls hf hH hl
    unfold pL_writes_369 at hf
    obtain ⟨hz, hf⟩ := gd hf
    cases hf
    exact hend _ _ _ _ hH (isz_n hz) dL_writes_369
  have J364 : ∀ (t : Mem) (u : Mem) (hh : Mem) (S : Nat → Mem) (H : Heap) (locs : List Loc) (ls : Array Slot), pL_writes_364 t u hh S = some (r, (t9, u9, h9, S9)) → HS D A s (gW a b h f ca t u hh S wr) H locs → lv_has ls 12 [] → W p l e rmL_writes s m args below meth c H locs 0 0 Q (F0 m 364 ls []) := by
    intro t u hh S H locs ls hf hH hl
    unfold pL_writes_364 at hf
    refine lv_iconst (v := 1) hx hb dL_writes_364 (by decide) ?_
    refine lv_goto (tgt := 369) hx hb dL_writes_365 (by decide) ?_
    exact J369 _ _ _ _ _ _ _ _ hf hH (lv_sub hl [] rfl)
  have J368 : ∀ (t : Mem) (u : Mem) (hh : Mem) (S : Nat → Mem) (H : Heap) (locs : List Loc) (ls : Array Slot), pL_writes_368 t u hh S = some (r, (t9, u9, h9, S9)) → HS D A s (gW a b h f ca t u hh S wr) H locs → lv_has ls 12 [] → W p l e rmL_writes s m args below meth c H locs 0 0 Q (F0 m 368 ls []) := by
    intro t u hh S H locs ls hf hH hl
    unfold pL_writes_368 at hf
    refine lv_iconst (v := 0) hx hb dL_writes_368 (by decide) ?_
    exact J369 _ _ _ _ _ _ _ _ hf hH (lv_sub hl [] rfl)
  have J201 : ∀ (x1 : Int32) (x2 : Int32) (x4 : Int32) (x5 : Int32) (x7 : Int32) (s0 : Int32) (t : Mem) (u : Mem) (hh : Mem) (S : Nat → Mem) (H : Heap) (locs : List Loc) (ls : Array Slot), pL_writes_201 x1 x2 x4 x5 x7 s0 t u hh S = some (r, (t9, u9, h9, S9)) → HS D A s (gW a b h f ca t u hh S wr) H locs → lv_has ls 12 [(0, .ref (h 2)), (1, .int x1), (2, .int x2), (4, .int x4), (5, .int x5), (7, .int x7)] → W p l e rmL_writes s m args below meth c H locs 0 0 Q (F0 m 201 ls [.int s0]) := by
    intro x1 x2 x4 x5 x7 s0 t u hh S H locs ls hf hH hl
    unfold pL_writes_201 at hf
    refine lv_istore (lv' := [(10, .int s0), (0, .ref (h 2)), (1, .int x1), (2, .int x2), (4, .int x4), (5, .int x5), (7, .int x7)]) hx hb dL_writes_201 hl (by decide) rfl (fun ls hl => ?_)
    refine lv_aload_n hx hb dL_writes_203 rfl (lv_at hl 1 rfl) ?_
    refine lv_iload_n hx hb dL_writes_204 rfl (lv_at hl 2 rfl) ?_
    obtain ⟨y1101, h_y1101, hf⟩ := bnd hf
    refine cl_iS C0 hH hl.1 (As := [.ref (h 2), .int x1]) (rest := []) (mL_lineOf l D ca a b h f wr t u hh S x1 h_y1101) gL_writes_L_lineOf rfl rfl rfl hd_L_lineOf ⟨Nat.le_of_ble_eq_true rfl, Nat.le_of_ble_eq_true rfl⟩ ⟨Nat.zero_le _, Nat.zero_le _⟩ rfl (Nat.le_of_ble_eq_true rfl) dL_writes_205 (fun H locs hH => ?_)
    refine lv_istore (lv' := [(11, .int y1101), (10, .int s0), (0, .ref (h 2)), (1, .int x1), (2, .int x2), (4, .int x4), (5, .int x5), (7, .int x7)]) hx hb dL_writes_208 hl (by decide) rfl (fun ls hl => ?_)
    refine lv_iload hx hb dL_writes_210 (lv_at hl 7 rfl) ?_
    refine lv_if_eq (tgt := 285) hx hb dL_writes_212 (by decide) (fun c1102 => ?_) (fun c1102 => ?_)
    · rw [if_pos c1102] at hf
      refine lv_iload hx hb dL_writes_285 (lv_at hl 1 rfl) ?_
      refine lv_if_eq (tgt := 368) hx hb dL_writes_287 (by decide) (fun c1103 => ?_) (fun c1103 => ?_)
      · rw [if_pos c1103] at hf
        exact J368 _ _ _ _ _ _ _ hf hH (lv_sub hl [] rfl)
      · rw [if_neg c1103] at hf
        refine lv_aload_n hx hb dL_writes_290 rfl (lv_at hl 2 rfl) ?_
        refine lv_iconst (v := 3) hx hb dL_writes_291 (by decide) ?_
        obtain ⟨y1104, h_y1104, hf⟩ := bnd hf
        refine cl_iV C0 hH hl.1 (As := [.int 3]) (rest := []) (mX4_count l D ca a b h f wr t u hh S 3 h_y1104) gL_writes_X4_count rfl rfl rfl hd_X4_count ⟨Nat.le_of_ble_eq_true rfl, Nat.le_of_ble_eq_true rfl⟩ ⟨Nat.zero_le _, Nat.zero_le _⟩ (vG_X4 C0 hH) rfl (Nat.le_of_ble_eq_true rfl) dL_writes_292 (fun H locs hH => ?_)
        refine lv_iload hx hb dL_writes_295 (lv_at hl 6 rfl) ?_
        refine lv_iconst (v := 1) hx hb dL_writes_297 (by decide) ?_
        refine lv_iadd hx hb dL_writes_298 ?_
        refine lv_icmp_ne (tgt := 368) hx hb dL_writes_299 (by decide) (fun c1105 => ?_) (fun c1105 => ?_)
        · rw [if_neg c1105] at hf
          exact J368 _ _ _ _ _ _ _ hf hH (lv_sub hl [] rfl)
        · rw [if_pos c1105] at hf
          refine lv_aload_n hx hb dL_writes_302 rfl (lv_at hl 2 rfl) ?_
          refine lv_iload_n hx hb dL_writes_303 rfl (lv_at hl 3 rfl) ?_
          obtain ⟨y1106, h_y1106, hf⟩ := bnd hf
          refine cl_iV C0 hH hl.1 (As := [.int x1]) (rest := []) (mX4_onDisk l D ca a b h f wr t u hh S x1 h_y1106) gL_writes_X4_onDisk rfl rfl rfl hd_X4_onDisk ⟨Nat.le_of_ble_eq_true rfl, Nat.le_of_ble_eq_true rfl⟩ ⟨Nat.zero_le _, Nat.zero_le _⟩ (vG_X4 C0 hH) rfl (Nat.le_of_ble_eq_true rfl) dL_writes_304 (fun H locs hH => ?_)
          refine lv_iload_n hx hb dL_writes_307 rfl (lv_at hl 4 rfl) ?_
          refine lv_icmp_ne (tgt := 368) hx hb dL_writes_308 (by decide) (fun c1107 => ?_) (fun c1107 => ?_)
          · rw [if_neg c1107] at hf
            exact J368 _ _ _ _ _ _ _ hf hH (lv_sub hl [] rfl)
          · rw [if_pos c1107] at hf
            refine lv_aload_n hx hb dL_writes_311 rfl (lv_at hl 2 rfl) ?_
            refine lv_iload_n hx hb dL_writes_312 rfl (lv_at hl 3 rfl) ?_
            obtain ⟨y1108, h_y1108, hf⟩ := bnd hf
            refine cl_iV C0 hH hl.1 (As := [.int x1]) (rest := []) (mX4_isFound l D ca a b h f wr t u hh S x1 h_y1108) gL_writes_X4_isFound rfl rfl rfl hd_X4_isFound ⟨Nat.le_of_ble_eq_true rfl, Nat.le_of_ble_eq_true rfl⟩ ⟨Nat.zero_le _, Nat.zero_le _⟩ (vG_X4 C0 hH) rfl (Nat.le_of_ble_eq_true rfl) dL_writes_313 (fun H locs hH => ?_)
            refine lv_if_eq (tgt := 368) hx hb dL_writes_316 (by decide) (fun c1109 => ?_) (fun c1109 => ?_)
            · rw [if_pos c1109] at hf
              exact J368 _ _ _ _ _ _ _ hf hH (lv_sub hl [] rfl)
            · rw [if_neg c1109] at hf
              refine lv_aload_n hx hb dL_writes_319 rfl (lv_at hl 2 rfl) ?_
              obtain ⟨y1110, h_y1110, hf⟩ := bnd hf
              refine cl_iV C0 hH hl.1 (As := []) (rest := []) (mX4_isIn l D ca a b h f wr t u hh S h_y1110) gL_writes_X4_isIn rfl rfl rfl hd_X4_isIn ⟨Nat.le_of_ble_eq_true rfl, Nat.le_of_ble_eq_true rfl⟩ ⟨Nat.zero_le _, Nat.zero_le _⟩ (vG_X4 C0 hH) rfl (Nat.le_of_ble_eq_true rfl) dL_writes_320 (fun H locs hH => ?_)
              refine lv_if_eq (tgt := 364) hx hb dL_writes_323 (by decide) (fun c1111 => ?_) (fun c1111 => ?_)
              · rw [if_pos c1111] at hf
                exact J364 _ _ _ _ _ _ _ hf hH (lv_sub hl [] rfl)
              · rw [if_neg c1111] at hf
                refine lv_iload hx hb dL_writes_326 (lv_at hl 0 rfl) ?_
                refine lv_if_lt (tgt := 364) hx hb dL_writes_328 (by decide) (fun c1112 => ?_) (fun c1112 => ?_)
                · rw [if_pos c1112] at hf
                  exact J364 _ _ _ _ _ _ _ hf hH (lv_sub hl [] rfl)
                · rw [if_neg c1112] at hf
                  refine lv_aload_n hx hb dL_writes_331 rfl (lv_at hl 2 rfl) ?_
                  refine lv_iload hx hb dL_writes_332 (lv_at hl 0 rfl) ?_
                  refine lv_iconst (v := 3) hx hb dL_writes_334 (by decide) ?_
                  refine lv_idiv hx hb dL_writes_335 (by decide) ?_
                  refine lv_iload hx hb dL_writes_336 (lv_at hl 0 rfl) ?_
                  refine lv_iconst (v := 3) hx hb dL_writes_338 (by decide) ?_
                  refine lv_irem hx hb dL_writes_339 (by decide) ?_
                  refine lv_iconst (v := 1) hx hb dL_writes_340 (by decide) ?_
                  obtain ⟨y1113, h_y1113, hf⟩ := bnd hf
                  refine cl_iV C0 hH hl.1 (As := [.int (y1101 / 3), .int (y1101 - y1101 / 3 * 3), .int 1]) (rest := []) (mX4_line l D ca a b h f wr t u hh S (y1101 / 3) (y1101 - y1101 / 3 * 3) 1 h_y1113) gL_writes_X4_line rfl rfl rfl hd_X4_line ⟨Nat.le_of_ble_eq_true rfl, Nat.le_of_ble_eq_true rfl⟩ ⟨Nat.zero_le _, Nat.zero_le _⟩ (vG_X4 C0 hH) rfl (Nat.le_of_ble_eq_true rfl) dL_writes_341 (fun H locs hH => ?_)
                  refine lv_iload_n hx hb dL_writes_344 rfl (lv_at hl 4 rfl) ?_
                  refine lv_icmp_ne (tgt := 368) hx hb dL_writes_345 (by decide) (fun c1114 => ?_) (fun c1114 => ?_)
                  · rw [if_neg c1114] at hf
                    exact J368 _ _ _ _ _ _ _ hf hH (lv_sub hl [] rfl)
                  · rw [if_pos c1114] at hf
                    refine lv_aload_n hx hb dL_writes_348 rfl (lv_at hl 2 rfl) ?_
                    refine lv_iload hx hb dL_writes_349 (lv_at hl 0 rfl) ?_
                    refine lv_iconst (v := 3) hx hb dL_writes_351 (by decide) ?_
                    refine lv_idiv hx hb dL_writes_352 (by decide) ?_
                    refine lv_iload hx hb dL_writes_353 (lv_at hl 0 rfl) ?_
                    refine lv_iconst (v := 3) hx hb dL_writes_355 (by decide) ?_
                    refine lv_irem hx hb dL_writes_356 (by decide) ?_
                    refine lv_iconst (v := 4) hx hb dL_writes_357 (by decide) ?_
                    obtain ⟨y1115, h_y1115, hf⟩ := bnd hf
                    refine cl_iV C0 hH hl.1 (As := [.int (y1101 / 3), .int (y1101 - y1101 / 3 * 3), .int 4]) (rest := []) (mX4_line l D ca a b h f wr t u hh S (y1101 / 3) (y1101 - y1101 / 3 * 3) 4 h_y1115) gL_writes_X4_line rfl rfl rfl hd_X4_line ⟨Nat.le_of_ble_eq_true rfl, Nat.le_of_ble_eq_true rfl⟩ ⟨Nat.zero_le _, Nat.zero_le _⟩ (vG_X4 C0 hH) rfl (Nat.le_of_ble_eq_true rfl) dL_writes_358 (fun H locs hH => ?_)
                    refine lv_if_ne (tgt := 368) hx hb dL_writes_361 (by decide) (fun c1116 => ?_) (fun c1116 => ?_)
                    · rw [if_neg c1116] at hf
                      exact J368 _ _ _ _ _ _ _ hf hH (lv_sub hl [] rfl)
                    · rw [if_pos c1116] at hf
                      exact J364 _ _ _ _ _ _ _ hf hH (lv_sub hl [] rfl)
    · rw [if_neg c1102] at hf
      refine lv_iload hx hb dL_writes_215 (lv_at hl 1 rfl) ?_
      refine lv_if_eq (tgt := 283) hx hb dL_writes_217 (by decide) (fun c1117 => ?_) (fun c1117 => ?_)
      · rw [if_pos c1117] at hf
        exact J283 _ _ _ _ _ _ _ hf hH (lv_sub hl [] rfl)
      · rw [if_neg c1117] at hf
        refine lv_aload_n hx hb dL_writes_220 rfl (lv_at hl 2 rfl) ?_
        refine lv_iconst (v := 2) hx hb dL_writes_221 (by decide) ?_
        obtain ⟨y1118, h_y1118, hf⟩ := bnd hf
        refine cl_iV C0 hH hl.1 (As := [.int 2]) (rest := []) (mX4_count l D ca a b h f wr t u hh S 2 h_y1118) gL_writes_X4_count rfl rfl rfl hd_X4_count ⟨Nat.le_of_ble_eq_true rfl, Nat.le_of_ble_eq_true rfl⟩ ⟨Nat.zero_le _, Nat.zero_le _⟩ (vG_X4 C0 hH) rfl (Nat.le_of_ble_eq_true rfl) dL_writes_222 (fun H locs hH => ?_)
        refine lv_iload hx hb dL_writes_225 (lv_at hl 5 rfl) ?_
        refine lv_iconst (v := 1) hx hb dL_writes_227 (by decide) ?_
        refine lv_iadd hx hb dL_writes_228 ?_
        refine lv_icmp_ne (tgt := 283) hx hb dL_writes_229 (by decide) (fun c1119 => ?_) (fun c1119 => ?_)
        · rw [if_neg c1119] at hf
          exact J283 _ _ _ _ _ _ _ hf hH (lv_sub hl [] rfl)
        · rw [if_pos c1119] at hf
          refine lv_iload hx hb dL_writes_232 (lv_at hl 0 rfl) ?_
          refine lv_if_lt (tgt := 283) hx hb dL_writes_234 (by decide) (fun c1120 => ?_) (fun c1120 => ?_)
          · rw [if_pos c1120] at hf
            exact J283 _ _ _ _ _ _ _ hf hH (lv_sub hl [] rfl)
          · rw [if_neg c1120] at hf
            refine lv_aload_n hx hb dL_writes_237 rfl (lv_at hl 2 rfl) ?_
            refine lv_iload hx hb dL_writes_238 (lv_at hl 0 rfl) ?_
            refine lv_iconst (v := 3) hx hb dL_writes_240 (by decide) ?_
            refine lv_idiv hx hb dL_writes_241 (by decide) ?_
            refine lv_iload hx hb dL_writes_242 (lv_at hl 0 rfl) ?_
            refine lv_iconst (v := 3) hx hb dL_writes_244 (by decide) ?_
            refine lv_irem hx hb dL_writes_245 (by decide) ?_
            refine lv_iconst (v := 1) hx hb dL_writes_246 (by decide) ?_
            obtain ⟨y1121, h_y1121, hf⟩ := bnd hf
            refine cl_iV C0 hH hl.1 (As := [.int (y1101 / 3), .int (y1101 - y1101 / 3 * 3), .int 1]) (rest := []) (mX4_line l D ca a b h f wr t u hh S (y1101 / 3) (y1101 - y1101 / 3 * 3) 1 h_y1121) gL_writes_X4_line rfl rfl rfl hd_X4_line ⟨Nat.le_of_ble_eq_true rfl, Nat.le_of_ble_eq_true rfl⟩ ⟨Nat.zero_le _, Nat.zero_le _⟩ (vG_X4 C0 hH) rfl (Nat.le_of_ble_eq_true rfl) dL_writes_247 (fun H locs hH => ?_)
            refine lv_iload_n hx hb dL_writes_250 rfl (lv_at hl 4 rfl) ?_
            refine lv_icmp_ne (tgt := 283) hx hb dL_writes_251 (by decide) (fun c1122 => ?_) (fun c1122 => ?_)
            · rw [if_neg c1122] at hf
              exact J283 _ _ _ _ _ _ _ hf hH (lv_sub hl [] rfl)
            · rw [if_pos c1122] at hf
              refine lv_aload_n hx hb dL_writes_254 rfl (lv_at hl 2 rfl) ?_
              refine lv_iload hx hb dL_writes_255 (lv_at hl 0 rfl) ?_
              refine lv_iconst (v := 3) hx hb dL_writes_257 (by decide) ?_
              refine lv_idiv hx hb dL_writes_258 (by decide) ?_
              refine lv_iload hx hb dL_writes_259 (lv_at hl 0 rfl) ?_
              refine lv_iconst (v := 3) hx hb dL_writes_261 (by decide) ?_
              refine lv_irem hx hb dL_writes_262 (by decide) ?_
              refine lv_iconst (v := 4) hx hb dL_writes_263 (by decide) ?_
              obtain ⟨y1123, h_y1123, hf⟩ := bnd hf
              refine cl_iV C0 hH hl.1 (As := [.int (y1101 / 3), .int (y1101 - y1101 / 3 * 3), .int 4]) (rest := []) (mX4_line l D ca a b h f wr t u hh S (y1101 / 3) (y1101 - y1101 / 3 * 3) 4 h_y1123) gL_writes_X4_line rfl rfl rfl hd_X4_line ⟨Nat.le_of_ble_eq_true rfl, Nat.le_of_ble_eq_true rfl⟩ ⟨Nat.zero_le _, Nat.zero_le _⟩ (vG_X4 C0 hH) rfl (Nat.le_of_ble_eq_true rfl) dL_writes_264 (fun H locs hH => ?_)
              refine lv_iconst (v := 1) hx hb dL_writes_267 (by decide) ?_
              refine lv_icmp_ne (tgt := 283) hx hb dL_writes_268 (by decide) (fun c1124 => ?_) (fun c1124 => ?_)
              · rw [if_neg c1124] at hf
                exact J283 _ _ _ _ _ _ _ hf hH (lv_sub hl [] rfl)
              · rw [if_pos c1124] at hf
                refine lv_aload_n hx hb dL_writes_271 rfl (lv_at hl 2 rfl) ?_
                refine lv_iload_n hx hb dL_writes_272 rfl (lv_at hl 3 rfl) ?_
                obtain ⟨y1125, h_y1125, hf⟩ := bnd hf
                refine cl_iV C0 hH hl.1 (As := [.int x1]) (rest := []) (mX4_isFound l D ca a b h f wr t u hh S x1 h_y1125) gL_writes_X4_isFound rfl rfl rfl hd_X4_isFound ⟨Nat.le_of_ble_eq_true rfl, Nat.le_of_ble_eq_true rfl⟩ ⟨Nat.zero_le _, Nat.zero_le _⟩ (vG_X4 C0 hH) rfl (Nat.le_of_ble_eq_true rfl) dL_writes_273 (fun H locs hH => ?_)
                refine lv_if_eq (tgt := 283) hx hb dL_writes_276 (by decide) (fun c1126 => ?_) (fun c1126 => ?_)
                · rw [if_pos c1126] at hf
                  exact J283 _ _ _ _ _ _ _ hf hH (lv_sub hl [] rfl)
                · rw [if_neg c1126] at hf
                  refine lv_iconst (v := 1) hx hb dL_writes_279 (by decide) ?_
                  refine lv_goto (tgt := 284) hx hb dL_writes_280 (by decide) ?_
                  exact J284 _ _ _ _ _ _ _ _ hf hH (lv_sub hl [] rfl)
  have J200 : ∀ (x1 : Int32) (x2 : Int32) (x4 : Int32) (x5 : Int32) (x7 : Int32) (t : Mem) (u : Mem) (hh : Mem) (S : Nat → Mem) (H : Heap) (locs : List Loc) (ls : Array Slot), pL_writes_200 x1 x2 x4 x5 x7 t u hh S = some (r, (t9, u9, h9, S9)) → HS D A s (gW a b h f ca t u hh S wr) H locs → lv_has ls 12 [(0, .ref (h 2)), (1, .int x1), (2, .int x2), (4, .int x4), (5, .int x5), (7, .int x7)] → W p l e rmL_writes s m args below meth c H locs 0 0 Q (F0 m 200 ls []) := by
    intro x1 x2 x4 x5 x7 t u hh S H locs ls hf hH hl
    unfold pL_writes_200 at hf
    refine lv_iconst (v := 0) hx hb dL_writes_200 (by decide) ?_
    exact J201 _ _ _ _ _ _ _ _ _ _ _ _ _ hf hH (lv_sub hl [0, 1, 2, 3, 4, 5] rfl)
  have J172 : ∀ (x1 : Int32) (x2 : Int32) (x4 : Int32) (x5 : Int32) (x7 : Int32) (s0 : Int32) (s1 : Int32) (t : Mem) (u : Mem) (hh : Mem) (S : Nat → Mem) (H : Heap) (locs : List Loc) (ls : Array Slot), pL_writes_172 x1 x2 x4 x5 x7 s0 s1 t u hh S = some (r, (t9, u9, h9, S9)) → HS D A s (gW a b h f ca t u hh S wr) H locs → lv_has ls 12 [(0, .ref (h 2)), (1, .int x1), (2, .int x2), (4, .int x4), (5, .int x5), (7, .int x7)] → W p l e rmL_writes s m args below meth c H locs 0 0 Q (F0 m 172 ls [.int s1, .int s0]) := by
    intro x1 x2 x4 x5 x7 s0 s1 t u hh S H locs ls hf hH hl
    unfold pL_writes_172 at hf
    refine lv_icmp_ne (tgt := 200) hx hb dL_writes_172 (by decide) (fun c901 => ?_) (fun c901 => ?_)
    · rw [if_neg c901] at hf
      exact J200 _ _ _ _ _ _ _ _ _ _ _ _ hf hH (lv_sub hl [0, 1, 2, 3, 4, 5] rfl)
    · rw [if_pos c901] at hf
      refine lv_aload_n hx hb dL_writes_175 rfl (lv_at hl 0 rfl) ?_
      refine lv_iconst (v := 2) hx hb dL_writes_176 (by decide) ?_
      obtain ⟨y902, h_y902, hf⟩ := bnd hf
      refine cl_iV C0 hH hl.1 (As := [.int 2]) (rest := []) (mX4_count l D ca a b h f wr t u hh S 2 h_y902) gL_writes_X4_count rfl rfl rfl hd_X4_count ⟨Nat.le_of_ble_eq_true rfl, Nat.le_of_ble_eq_true rfl⟩ ⟨Nat.zero_le _, Nat.zero_le _⟩ (vG_X4 C0 hH) rfl (Nat.le_of_ble_eq_true rfl) dL_writes_177 (fun H locs hH => ?_)
      refine lv_aload_n hx hb dL_writes_180 rfl (lv_at hl 0 rfl) ?_
      refine lv_iconst (v := 3) hx hb dL_writes_181 (by decide) ?_
      obtain ⟨y903, h_y903, hf⟩ := bnd hf
      refine cl_iV C0 hH hl.1 (As := [.int 3]) (rest := [.int y902]) (mX4_count l D ca a b h f wr t u hh S 3 h_y903) gL_writes_X4_count rfl rfl rfl hd_X4_count ⟨Nat.le_of_ble_eq_true rfl, Nat.le_of_ble_eq_true rfl⟩ ⟨Nat.zero_le _, Nat.zero_le _⟩ (vG_X4 C0 hH) rfl (Nat.le_of_ble_eq_true rfl) dL_writes_182 (fun H locs hH => ?_)
      refine lv_iadd hx hb dL_writes_185 ?_
      refine lv_iload hx hb dL_writes_186 (lv_at hl 3 rfl) ?_
      refine lv_iload hx hb dL_writes_188 (lv_at hl 4 rfl) ?_
      refine lv_iadd hx hb dL_writes_190 ?_
      refine lv_iconst (v := 1) hx hb dL_writes_191 (by decide) ?_
      refine lv_iadd hx hb dL_writes_192 ?_
      refine lv_icmp_ne (tgt := 200) hx hb dL_writes_193 (by decide) (fun c904 => ?_) (fun c904 => ?_)
      · rw [if_neg c904] at hf
        exact J200 _ _ _ _ _ _ _ _ _ _ _ _ hf hH (lv_sub hl [0, 1, 2, 3, 4, 5] rfl)
      · rw [if_pos c904] at hf
        refine lv_iconst (v := 1) hx hb dL_writes_196 (by decide) ?_
        refine lv_goto (tgt := 201) hx hb dL_writes_197 (by decide) ?_
        exact J201 _ _ _ _ _ _ _ _ _ _ _ _ _ hf hH (lv_sub hl [0, 1, 2, 3, 4, 5] rfl)
  have J171 : ∀ (x1 : Int32) (x2 : Int32) (x4 : Int32) (x5 : Int32) (x7 : Int32) (s0 : Int32) (t : Mem) (u : Mem) (hh : Mem) (S : Nat → Mem) (H : Heap) (locs : List Loc) (ls : Array Slot), pL_writes_171 x1 x2 x4 x5 x7 s0 t u hh S = some (r, (t9, u9, h9, S9)) → HS D A s (gW a b h f ca t u hh S wr) H locs → lv_has ls 12 [(0, .ref (h 2)), (1, .int x1), (2, .int x2), (4, .int x4), (5, .int x5), (7, .int x7)] → W p l e rmL_writes s m args below meth c H locs 0 0 Q (F0 m 171 ls [.int s0]) := by
    intro x1 x2 x4 x5 x7 s0 t u hh S H locs ls hf hH hl
    unfold pL_writes_171 at hf
    refine lv_iconst (v := 0) hx hb dL_writes_171 (by decide) ?_
    exact J172 _ _ _ _ _ _ _ _ _ _ _ _ _ _ hf hH (lv_sub hl [0, 1, 2, 3, 4, 5] rfl)
  have J157 : ∀ (x1 : Int32) (x2 : Int32) (x4 : Int32) (x5 : Int32) (x7 : Int32) (x9 : Int32) (s0 : Int32) (t : Mem) (u : Mem) (hh : Mem) (S : Nat → Mem) (H : Heap) (locs : List Loc) (ls : Array Slot), pL_writes_157 x1 x2 x4 x5 x7 x9 s0 t u hh S = some (r, (t9, u9, h9, S9)) → HS D A s (gW a b h f ca t u hh S wr) H locs → lv_has ls 12 [(0, .ref (h 2)), (1, .int x1), (2, .int x2), (4, .int x4), (5, .int x5), (7, .int x7), (9, .int x9)] → W p l e rmL_writes s m args below meth c H locs 0 0 Q (F0 m 157 ls [.int s0]) := by
    intro x1 x2 x4 x5 x7 x9 s0 t u hh S H locs ls hf hH hl
    unfold pL_writes_157 at hf
    refine lv_iload hx hb dL_writes_157 (lv_at hl 5 rfl) ?_
    refine lv_if_eq (tgt := 171) hx hb dL_writes_159 (by decide) (fun c701 => ?_) (fun c701 => ?_)
    · rw [if_pos c701] at hf
      exact J171 _ _ _ _ _ _ _ _ _ _ _ _ _ hf hH (lv_sub hl [0, 1, 2, 3, 4, 5] rfl)
    · rw [if_neg c701] at hf
      refine lv_iload hx hb dL_writes_162 (lv_at hl 6 rfl) ?_
      refine lv_if_eq (tgt := 171) hx hb dL_writes_164 (by decide) (fun c702 => ?_) (fun c702 => ?_)
      · rw [if_pos c702] at hf
        exact J171 _ _ _ _ _ _ _ _ _ _ _ _ _ hf hH (lv_sub hl [0, 1, 2, 3, 4, 5] rfl)
      · rw [if_neg c702] at hf
        refine lv_iconst (v := 1) hx hb dL_writes_167 (by decide) ?_
        refine lv_goto (tgt := 172) hx hb dL_writes_168 (by decide) ?_
        exact J172 _ _ _ _ _ _ _ _ _ _ _ _ _ _ hf hH (lv_sub hl [0, 1, 2, 3, 4, 5] rfl)
  have J81 : ∀ (x1 : Int32) (x2 : Int32) (x3 : Int32) (x4 : Int32) (x5 : Int32) (x6 : Int32) (x7 : Int32) (x8 : Int32) (n : Nat) (x9 : Int32) (x10 : Int32) (t : Mem) (u : Mem) (hh : Mem) (S : Nat → Mem) (H : Heap) (locs : List Loc) (ls : Array Slot), pL_writes_81 x1 x2 x3 x4 x5 x6 x7 x8 n x9 x10 t u hh S = some (r, (t9, u9, h9, S9)) → HS D A s (gW a b h f ca t u hh S wr) H locs → lv_has ls 12 [(0, .ref (h 2)), (1, .int x1), (2, .int x2), (3, .int x3), (4, .int x4), (5, .int x5), (6, .int x6), (7, .int x7), (8, .int x8), (9, .int x9), (10, .int x10)] → W p l e rmL_writes s m args below meth c H locs 0 0 Q (F0 m 81 ls []) := by
    intro x1 x2 x3 x4 x5 x6 x7 x8 n
    induction n with
    | zero => intro x9 x10 t u hh S H locs ls hf; cases hf
    | succ n ih =>
      intro x9 x10 t u hh S H locs ls hf hH hl
      have hf : pL_writes_81b x1 x2 x3 x4 x5 x6 x7 x8 (pL_writes_81 x1 x2 x3 x4 x5 x6 x7 x8 n) x9 x10 t u hh S = some (r, (t9, u9, h9, S9)) := hf
      have J110 : ∀ (x10 : Int32) (s0 : Int32) (t : Mem) (u : Mem) (hh : Mem) (S : Nat → Mem) (H : Heap) (locs : List Loc) (ls : Array Slot), pL_writes_110 x1 x2 x3 x4 x5 x6 x7 x8 (pL_writes_81 x1 x2 x3 x4 x5 x6 x7 x8 n) x10 s0 t u hh S = some (r, (t9, u9, h9, S9)) → HS D A s (gW a b h f ca t u hh S wr) H locs → lv_has ls 12 [(0, .ref (h 2)), (1, .int x1), (2, .int x2), (3, .int x3), (4, .int x4), (5, .int x5), (6, .int x6), (7, .int x7), (8, .int x8), (10, .int x10)] → W p l e rmL_writes s m args below meth c H locs 0 0 Q (F0 m 110 ls [.int s0]) := by
        intro x10 s0 t u hh S H locs ls hf hH hl
        unfold pL_writes_110 at hf
        refine lv_istore (lv' := [(9, .int s0), (0, .ref (h 2)), (1, .int x1), (2, .int x2), (3, .int x3), (4, .int x4), (5, .int x5), (6, .int x6), (7, .int x7), (8, .int x8), (10, .int x10)]) hx hb dL_writes_110 hl (by decide) rfl (fun ls hl => ?_)
        refine lv_iinc (v := (x10 + 1)) (lv' := [(10, .int (x10 + 1)), (9, .int s0), (0, .ref (h 2)), (1, .int x1), (2, .int x2), (3, .int x3), (4, .int x4), (5, .int x5), (6, .int x6), (7, .int x7), (8, .int x8)]) hx hb dL_writes_112 hl (k := 10) rfl rfl (by decide) rfl (fun ls hl => ?_)
        refine lv_goto (tgt := 81) hx hb dL_writes_115 (by decide) ?_
        exact ih _ _ _ _ _ _ _ _ _ hf hH (lv_sub hl [2, 3, 4, 5, 6, 7, 8, 9, 10, 1, 0] rfl)
      have J105 : ∀ (x10 : Int32) (t : Mem) (u : Mem) (hh : Mem) (S : Nat → Mem) (H : Heap) (locs : List Loc) (ls : Array Slot), pL_writes_105 x1 x2 x3 x4 x5 x6 x7 x8 (pL_writes_81 x1 x2 x3 x4 x5 x6 x7 x8 n) x10 t u hh S = some (r, (t9, u9, h9, S9)) → HS D A s (gW a b h f ca t u hh S wr) H locs → lv_has ls 12 [(0, .ref (h 2)), (1, .int x1), (2, .int x2), (3, .int x3), (4, .int x4), (5, .int x5), (6, .int x6), (7, .int x7), (8, .int x8), (10, .int x10)] → W p l e rmL_writes s m args below meth c H locs 0 0 Q (F0 m 105 ls []) := by
        intro x10 t u hh S H locs ls hf hH hl
        unfold pL_writes_105 at hf
        refine lv_iconst (v := 1) hx hb dL_writes_105 (by decide) ?_
        refine lv_goto (tgt := 110) hx hb dL_writes_106 (by decide) ?_
        exact J110 _ _ _ _ _ _ _ _ _ hf hH (lv_sub hl [0, 1, 2, 3, 4, 5, 6, 7, 8, 9] rfl)
      unfold pL_writes_81b at hf
      refine lv_iload hx hb dL_writes_81 (lv_at hl 10 rfl) ?_
      refine lv_iconst (v := 3) hx hb dL_writes_83 (by decide) ?_
      refine lv_icmp_ge (tgt := 118) hx hb dL_writes_84 (by decide) (fun c401 => ?_) (fun c401 => ?_)
      · rw [if_pos c401] at hf
        refine lv_aload_n hx hb dL_writes_118 rfl (lv_at hl 0 rfl) ?_
        refine lv_iload_n hx hb dL_writes_119 rfl (lv_at hl 1 rfl) ?_
        refine lv_iload_n hx hb dL_writes_120 rfl (lv_at hl 2 rfl) ?_
        obtain ⟨y402, t403, u404, h405, S406, h_y402, hf⟩ := bndG hf
        refine cl_iV C0 hH hl.1 (As := [.int x1, .int x2]) (rest := []) (mX4_write l D ca a b h f wr t u hh S x1 x2 h_y402) gL_writes_X4_write rfl rfl rfl hd_X4_write ⟨Nat.le_of_ble_eq_true rfl, Nat.le_of_ble_eq_true rfl⟩ ⟨Nat.zero_le _, Nat.zero_le _⟩ (vG_X4 C0 hH) rfl (Nat.le_of_ble_eq_true rfl) dL_writes_121 (fun H locs hH => ?_)
        refine lv_iload hx hb dL_writes_124 (lv_at hl 6 rfl) ?_
        refine lv_icmp_ne (tgt := 200) hx hb dL_writes_126 (by decide) (fun c407 => ?_) (fun c407 => ?_)
        · rw [if_neg c407] at hf
          exact J200 _ _ _ _ _ _ _ _ _ _ _ _ hf hH (lv_sub hl [0, 1, 2, 4, 5, 7] rfl)
        · rw [if_pos c407] at hf
          refine lv_aload_n hx hb dL_writes_129 rfl (lv_at hl 0 rfl) ?_
          refine lv_iconst (v := 0) hx hb dL_writes_130 (by decide) ?_
          obtain ⟨y408, h_y408, hf⟩ := bnd hf
          refine cl_iV C0 hH hl.1 (As := [.int 0]) (rest := []) (mX4_count l D ca a b h f wr t403 u404 h405 S406 0 h_y408) gL_writes_X4_count rfl rfl rfl hd_X4_count ⟨Nat.le_of_ble_eq_true rfl, Nat.le_of_ble_eq_true rfl⟩ ⟨Nat.zero_le _, Nat.zero_le _⟩ (vG_X4 C0 hH) rfl (Nat.le_of_ble_eq_true rfl) dL_writes_131 (fun H locs hH => ?_)
          refine lv_aload_n hx hb dL_writes_134 rfl (lv_at hl 0 rfl) ?_
          refine lv_iconst (v := 1) hx hb dL_writes_135 (by decide) ?_
          obtain ⟨y409, h_y409, hf⟩ := bnd hf
          refine cl_iV C0 hH hl.1 (As := [.int 1]) (rest := [.int y408]) (mX4_count l D ca a b h f wr t403 u404 h405 S406 1 h_y409) gL_writes_X4_count rfl rfl rfl hd_X4_count ⟨Nat.le_of_ble_eq_true rfl, Nat.le_of_ble_eq_true rfl⟩ ⟨Nat.zero_le _, Nat.zero_le _⟩ (vG_X4 C0 hH) rfl (Nat.le_of_ble_eq_true rfl) dL_writes_136 (fun H locs hH => ?_)
          refine lv_iadd hx hb dL_writes_139 ?_
          refine lv_iload_n hx hb dL_writes_140 rfl (lv_at hl 3 rfl) ?_
          refine lv_iload hx hb dL_writes_141 (lv_at hl 6 rfl) ?_
          refine lv_iadd hx hb dL_writes_143 ?_
          refine lv_icmp_ne (tgt := 200) hx hb dL_writes_144 (by decide) (fun c410 => ?_) (fun c410 => ?_)
          · rw [if_neg c410] at hf
            exact J200 _ _ _ _ _ _ _ _ _ _ _ _ hf hH (lv_sub hl [0, 1, 2, 4, 5, 7] rfl)
          · rw [if_pos c410] at hf
            refine lv_iload hx hb dL_writes_147 (lv_at hl 6 rfl) ?_
            refine lv_if_ne (tgt := 156) hx hb dL_writes_149 (by decide) (fun c411 => ?_) (fun c411 => ?_)
            · rw [if_neg c411] at hf
              refine lv_iconst (v := 0) hx hb dL_writes_156 (by decide) ?_
              exact J157 _ _ _ _ _ _ _ _ _ _ _ _ _ _ hf hH (lv_sub hl [0, 1, 2, 4, 5, 7, 9] rfl)
            · rw [if_pos c411] at hf
              refine lv_iconst (v := 1) hx hb dL_writes_152 (by decide) ?_
              refine lv_goto (tgt := 157) hx hb dL_writes_153 (by decide) ?_
              exact J157 _ _ _ _ _ _ _ _ _ _ _ _ _ _ hf hH (lv_sub hl [0, 1, 2, 4, 5, 7, 9] rfl)
      · rw [if_neg c401] at hf
        refine lv_iload hx hb dL_writes_87 (lv_at hl 9 rfl) ?_
        refine lv_if_ne (tgt := 105) hx hb dL_writes_89 (by decide) (fun c412 => ?_) (fun c412 => ?_)
        · rw [if_neg c412] at hf
          exact J105 _ _ _ _ _ _ _ _ hf hH (lv_sub hl [0, 1, 2, 3, 4, 5, 6, 7, 8, 10] rfl)
        · rw [if_pos c412] at hf
          refine lv_aload_n hx hb dL_writes_92 rfl (lv_at hl 0 rfl) ?_
          refine lv_iload hx hb dL_writes_93 (lv_at hl 8 rfl) ?_
          refine lv_iload hx hb dL_writes_95 (lv_at hl 10 rfl) ?_
          refine lv_iconst (v := 4) hx hb dL_writes_97 (by decide) ?_
          obtain ⟨y413, h_y413, hf⟩ := bnd hf
          refine cl_iV C0 hH hl.1 (As := [.int x8, .int x10, .int 4]) (rest := []) (mX4_line l D ca a b h f wr t u hh S x8 x10 4 h_y413) gL_writes_X4_line rfl rfl rfl hd_X4_line ⟨Nat.le_of_ble_eq_true rfl, Nat.le_of_ble_eq_true rfl⟩ ⟨Nat.zero_le _, Nat.zero_le _⟩ (vG_X4 C0 hH) rfl (Nat.le_of_ble_eq_true rfl) dL_writes_98 (fun H locs hH => ?_)
          refine lv_iconst (v := 1) hx hb dL_writes_101 (by decide) ?_
          refine lv_icmp_ge (tgt := 109) hx hb dL_writes_102 (by decide) (fun c414 => ?_) (fun c414 => ?_)
          · rw [if_pos c414] at hf
            refine lv_iconst (v := 0) hx hb dL_writes_109 (by decide) ?_
            exact J110 _ _ _ _ _ _ _ _ _ hf hH (lv_sub hl [0, 1, 2, 3, 4, 5, 6, 7, 8, 10] rfl)
          · rw [if_neg c414] at hf
            exact J105 _ _ _ _ _ _ _ _ hf hH (lv_sub hl [0, 1, 2, 3, 4, 5, 6, 7, 8, 10] rfl)
  have J76 : ∀ (x1 : Int32) (x2 : Int32) (x3 : Int32) (x4 : Int32) (x5 : Int32) (x6 : Int32) (x7 : Int32) (x8 : Int32) (s0 : Int32) (t : Mem) (u : Mem) (hh : Mem) (S : Nat → Mem) (H : Heap) (locs : List Loc) (ls : Array Slot), pL_writes_76 x1 x2 x3 x4 x5 x6 x7 x8 s0 t u hh S = some (r, (t9, u9, h9, S9)) → HS D A s (gW a b h f ca t u hh S wr) H locs → lv_has ls 12 [(0, .ref (h 2)), (1, .int x1), (2, .int x2), (3, .int x3), (4, .int x4), (5, .int x5), (6, .int x6), (7, .int x7), (8, .int x8)] → W p l e rmL_writes s m args below meth c H locs 0 0 Q (F0 m 76 ls [.int s0]) := by
    intro x1 x2 x3 x4 x5 x6 x7 x8 s0 t u hh S H locs ls hf hH hl
    unfold pL_writes_76 at hf
    refine lv_istore (lv' := [(9, .int s0), (0, .ref (h 2)), (1, .int x1), (2, .int x2), (3, .int x3), (4, .int x4), (5, .int x5), (6, .int x6), (7, .int x7), (8, .int x8)]) hx hb dL_writes_76 hl (by decide) rfl (fun ls hl => ?_)
    refine lv_iconst (v := 0) hx hb dL_writes_78 (by decide) ?_
    refine lv_istore (lv' := [(10, .int 0), (9, .int s0), (0, .ref (h 2)), (1, .int x1), (2, .int x2), (3, .int x3), (4, .int x4), (5, .int x5), (6, .int x6), (7, .int x7), (8, .int x8)]) hx hb dL_writes_79 hl (by decide) rfl (fun ls hl => ?_)
    exact J81 _ _ _ _ _ _ _ _ FU _ _ _ _ _ _ _ _ _ hf hH (lv_sub hl [2, 3, 4, 5, 6, 7, 8, 9, 10, 1, 0] rfl)
  have J54 : ∀ (x1 : Int32) (x2 : Int32) (x3 : Int32) (x4 : Int32) (x5 : Int32) (x6 : Int32) (s0 : Int32) (t : Mem) (u : Mem) (hh : Mem) (S : Nat → Mem) (H : Heap) (locs : List Loc) (ls : Array Slot), pL_writes_54 x1 x2 x3 x4 x5 x6 s0 t u hh S = some (r, (t9, u9, h9, S9)) → HS D A s (gW a b h f ca t u hh S wr) H locs → lv_has ls 12 [(0, .ref (h 2)), (1, .int x1), (2, .int x2), (3, .int x3), (4, .int x4), (5, .int x5), (6, .int x6)] → W p l e rmL_writes s m args below meth c H locs 0 0 Q (F0 m 54 ls [.int s0]) := by
    intro x1 x2 x3 x4 x5 x6 s0 t u hh S H locs ls hf hH hl
    unfold pL_writes_54 at hf
    refine lv_istore (lv' := [(7, .int s0), (0, .ref (h 2)), (1, .int x1), (2, .int x2), (3, .int x3), (4, .int x4), (5, .int x5), (6, .int x6)]) hx hb dL_writes_54 hl (by decide) rfl (fun ls hl => ?_)
    refine lv_iload_n hx hb dL_writes_56 rfl (lv_at hl 2 rfl) ?_
    refine lv_iconst (v := 4) hx hb dL_writes_57 (by decide) ?_
    refine lv_idiv hx hb dL_writes_58 (by decide) ?_
    refine lv_iconst (v := 4) hx hb dL_writes_59 (by decide) ?_
    refine lv_irem hx hb dL_writes_60 (by decide) ?_
    refine lv_istore (lv' := [(8, .int ((x1 / 4) - (x1 / 4) / 4 * 4)), (7, .int s0), (0, .ref (h 2)), (1, .int x1), (2, .int x2), (3, .int x3), (4, .int x4), (5, .int x5), (6, .int x6)]) hx hb dL_writes_61 hl (by decide) rfl (fun ls hl => ?_)
    refine lv_aload_n hx hb dL_writes_63 rfl (lv_at hl 2 rfl) ?_
    refine lv_iload_n hx hb dL_writes_64 rfl (lv_at hl 3 rfl) ?_
    obtain ⟨y201, h_y201, hf⟩ := bnd hf
    refine cl_iS C0 hH hl.1 (As := [.ref (h 2), .int x1]) (rest := []) (mL_lineOf l D ca a b h f wr t u hh S x1 h_y201) gL_writes_L_lineOf rfl rfl rfl hd_L_lineOf ⟨Nat.le_of_ble_eq_true rfl, Nat.le_of_ble_eq_true rfl⟩ ⟨Nat.zero_le _, Nat.zero_le _⟩ rfl (Nat.le_of_ble_eq_true rfl) dL_writes_65 (fun H locs hH => ?_)
    refine lv_if_lt (tgt := 75) hx hb dL_writes_68 (by decide) (fun c202 => ?_) (fun c202 => ?_)
    · rw [if_pos c202] at hf
      refine lv_iconst (v := 0) hx hb dL_writes_75 (by decide) ?_
      exact J76 _ _ _ _ _ _ _ _ _ _ _ _ _ _ _ _ hf hH (lv_sub hl [2, 3, 4, 5, 6, 7, 8, 1, 0] rfl)
    · rw [if_neg c202] at hf
      refine lv_iconst (v := 1) hx hb dL_writes_71 (by decide) ?_
      refine lv_goto (tgt := 76) hx hb dL_writes_72 (by decide) ?_
      exact J76 _ _ _ _ _ _ _ _ _ _ _ _ _ _ _ _ hf hH (lv_sub hl [2, 3, 4, 5, 6, 7, 8, 1, 0] rfl)
  have J53 : ∀ (x1 : Int32) (x2 : Int32) (x3 : Int32) (x4 : Int32) (x5 : Int32) (x6 : Int32) (t : Mem) (u : Mem) (hh : Mem) (S : Nat → Mem) (H : Heap) (locs : List Loc) (ls : Array Slot), pL_writes_53 x1 x2 x3 x4 x5 x6 t u hh S = some (r, (t9, u9, h9, S9)) → HS D A s (gW a b h f ca t u hh S wr) H locs → lv_has ls 12 [(0, .ref (h 2)), (1, .int x1), (2, .int x2), (3, .int x3), (4, .int x4), (5, .int x5), (6, .int x6)] → W p l e rmL_writes s m args below meth c H locs 0 0 Q (F0 m 53 ls []) := by
    intro x1 x2 x3 x4 x5 x6 t u hh S H locs ls hf hH hl
    unfold pL_writes_53 at hf
    refine lv_iconst (v := 0) hx hb dL_writes_53 (by decide) ?_
    exact J54 _ _ _ _ _ _ _ _ _ _ _ _ _ _ hf hH (lv_sub hl [0, 1, 2, 3, 4, 5, 6] rfl)
  unfold pL_writes at hf
  refine lv_aload_n hx hb dL_writes_0 rfl (lv_at hl 0 rfl) ?_
  refine lv_iconst (v := 0) hx hb dL_writes_1 (by decide) ?_
  obtain ⟨y1, h_y1, hf⟩ := bnd hf
  refine cl_iV C0 hH hl.1 (As := [.int 0]) (rest := []) (mX4_count l D ca a b h f wr t u hh S 0 h_y1) gL_writes_X4_count rfl rfl rfl hd_X4_count ⟨Nat.le_of_ble_eq_true rfl, Nat.le_of_ble_eq_true rfl⟩ ⟨Nat.zero_le _, Nat.zero_le _⟩ (vG_X4 C0 hH) rfl (Nat.le_of_ble_eq_true rfl) dL_writes_2 (fun H locs hH => ?_)
  refine lv_aload_n hx hb dL_writes_5 rfl (lv_at hl 0 rfl) ?_
  refine lv_iconst (v := 1) hx hb dL_writes_6 (by decide) ?_
  obtain ⟨y2, h_y2, hf⟩ := bnd hf
  refine cl_iV C0 hH hl.1 (As := [.int 1]) (rest := [.int y1]) (mX4_count l D ca a b h f wr t u hh S 1 h_y2) gL_writes_X4_count rfl rfl rfl hd_X4_count ⟨Nat.le_of_ble_eq_true rfl, Nat.le_of_ble_eq_true rfl⟩ ⟨Nat.zero_le _, Nat.zero_le _⟩ (vG_X4 C0 hH) rfl (Nat.le_of_ble_eq_true rfl) dL_writes_7 (fun H locs hH => ?_)
  refine lv_iadd hx hb dL_writes_10 ?_
  refine lv_istore_n (lv' := [(3, .int (y1 + y2)), (0, .ref (h 2)), (1, .int x1), (2, .int x2)]) hx hb dL_writes_11 rfl hl (by decide) rfl (fun ls hl => ?_)
  refine lv_aload_n hx hb dL_writes_12 rfl (lv_at hl 1 rfl) ?_
  refine lv_iconst (v := 2) hx hb dL_writes_13 (by decide) ?_
  obtain ⟨y3, h_y3, hf⟩ := bnd hf
  refine cl_iV C0 hH hl.1 (As := [.int 2]) (rest := []) (mX4_count l D ca a b h f wr t u hh S 2 h_y3) gL_writes_X4_count rfl rfl rfl hd_X4_count ⟨Nat.le_of_ble_eq_true rfl, Nat.le_of_ble_eq_true rfl⟩ ⟨Nat.zero_le _, Nat.zero_le _⟩ (vG_X4 C0 hH) rfl (Nat.le_of_ble_eq_true rfl) dL_writes_14 (fun H locs hH => ?_)
  refine lv_istore (lv' := [(4, .int y3), (3, .int (y1 + y2)), (0, .ref (h 2)), (1, .int x1), (2, .int x2)]) hx hb dL_writes_17 hl (by decide) rfl (fun ls hl => ?_)
  refine lv_aload_n hx hb dL_writes_19 rfl (lv_at hl 2 rfl) ?_
  refine lv_iconst (v := 3) hx hb dL_writes_20 (by decide) ?_
  obtain ⟨y4, h_y4, hf⟩ := bnd hf
  refine cl_iV C0 hH hl.1 (As := [.int 3]) (rest := []) (mX4_count l D ca a b h f wr t u hh S 3 h_y4) gL_writes_X4_count rfl rfl rfl hd_X4_count ⟨Nat.le_of_ble_eq_true rfl, Nat.le_of_ble_eq_true rfl⟩ ⟨Nat.zero_le _, Nat.zero_le _⟩ (vG_X4 C0 hH) rfl (Nat.le_of_ble_eq_true rfl) dL_writes_21 (fun H locs hH => ?_)
  refine lv_istore (lv' := [(5, .int y4), (4, .int y3), (3, .int (y1 + y2)), (0, .ref (h 2)), (1, .int x1), (2, .int x2)]) hx hb dL_writes_24 hl (by decide) rfl (fun ls hl => ?_)
  refine lv_aload_n hx hb dL_writes_26 rfl (lv_at hl 3 rfl) ?_
  refine lv_iload_n hx hb dL_writes_27 rfl (lv_at hl 4 rfl) ?_
  obtain ⟨y5, h_y5, hf⟩ := bnd hf
  refine cl_iV C0 hH hl.1 (As := [.int x1]) (rest := []) (mX4_ifWritten l D ca a b h f wr t u hh S x1 h_y5) gL_writes_X4_ifWritten rfl rfl rfl hd_X4_ifWritten ⟨Nat.le_of_ble_eq_true rfl, Nat.le_of_ble_eq_true rfl⟩ ⟨Nat.zero_le _, Nat.zero_le _⟩ (vG_X4 C0 hH) rfl (Nat.le_of_ble_eq_true rfl) dL_writes_28 (fun H locs hH => ?_)
  refine lv_istore (lv' := [(6, .int y5), (5, .int y4), (4, .int y3), (3, .int (y1 + y2)), (0, .ref (h 2)), (1, .int x1), (2, .int x2)]) hx hb dL_writes_31 hl (by decide) rfl (fun ls hl => ?_)
  refine lv_aload_n hx hb dL_writes_33 rfl (lv_at hl 4 rfl) ?_
  obtain ⟨y6, h_y6, hf⟩ := bnd hf
  refine cl_iV C0 hH hl.1 (As := []) (rest := []) (mX4_isIn l D ca a b h f wr t u hh S h_y6) gL_writes_X4_isIn rfl rfl rfl hd_X4_isIn ⟨Nat.le_of_ble_eq_true rfl, Nat.le_of_ble_eq_true rfl⟩ ⟨Nat.zero_le _, Nat.zero_le _⟩ (vG_X4 C0 hH) rfl (Nat.le_of_ble_eq_true rfl) dL_writes_34 (fun H locs hH => ?_)
  refine lv_if_eq (tgt := 53) hx hb dL_writes_37 (by decide) (fun c7 => ?_) (fun c7 => ?_)
  · rw [if_pos c7] at hf
    exact J53 _ _ _ _ _ _ _ _ _ _ _ _ _ hf hH (lv_sub hl [4, 5, 6, 3, 2, 1, 0] rfl)
  · rw [if_neg c7] at hf
    refine lv_aload_n hx hb dL_writes_40 rfl (lv_at hl 4 rfl) ?_
    obtain ⟨y8, h_y8, hf⟩ := bnd hf
    refine cl_iV C0 hH hl.1 (As := []) (rest := []) (mX4_charge l D ca a b h f wr t u hh S h_y8) gL_writes_X4_charge rfl rfl rfl hd_X4_charge ⟨Nat.le_of_ble_eq_true rfl, Nat.le_of_ble_eq_true rfl⟩ ⟨Nat.zero_le _, Nat.zero_le _⟩ (vG_X4 C0 hH) rfl (Nat.le_of_ble_eq_true rfl) dL_writes_41 (fun H locs hH => ?_)
    refine lv_bipush (v := 20) hx hb dL_writes_44 (by decide) ?_
    refine lv_icmp_lt (tgt := 53) hx hb dL_writes_46 (by decide) (fun c9 => ?_) (fun c9 => ?_)
    · rw [if_pos c9] at hf
      exact J53 _ _ _ _ _ _ _ _ _ _ _ _ _ hf hH (lv_sub hl [4, 5, 6, 3, 2, 1, 0] rfl)
    · rw [if_neg c9] at hf
      refine lv_iconst (v := 1) hx hb dL_writes_49 (by decide) ?_
      refine lv_goto (tgt := 54) hx hb dL_writes_50 (by decide) ?_
      exact J54 _ _ _ _ _ _ _ _ _ _ _ _ _ _ hf hH (lv_sub hl [4, 5, 6, 3, 2, 1, 0] rfl)
def pL_acts_224 (s0 : Int32) (t : Mem) (u : Mem) (hh : Mem) (S : Nat → Mem) : Option (Int32 × GM) :=
  if isz s0 = true then some (s0, (t, u, hh, S)) else none
def pL_acts_223 (t : Mem) (u : Mem) (hh : Mem) (S : Nat → Mem) : Option (Int32 × GM) :=
  pL_acts_224 0 t u hh S
def pL_acts_207 (x6 : Int32) (s0 : Int32) (s1 : Int32) (t : Mem) (u : Mem) (hh : Mem) (S : Nat → Mem) : Option (Int32 × GM) :=
  if s0 = s1 then
    (pX4_isOn t u hh S).bind fun y702 =>
    if y702 = x6 then
      pL_acts_224 1 t u hh S
    else
      pL_acts_223 t u hh S
  else
    pL_acts_223 t u hh S
def pL_acts_188 (x6 : Int32) (x7 : Int32) (s0 : Int32) (t : Mem) (u : Mem) (hh : Mem) (S : Nat → Mem) : Option (Int32 × GM) :=
  bdG (pX4_power t u hh S x6) fun y601 t602 u603 h604 S605 =>
  if s0 = 0 then
    pL_acts_207 x6 y601 0 t602 u603 h604 S605
  else
    pL_acts_207 x6 y601 x7 t602 u603 h604 S605
def pL_acts_187 (x6 : Int32) (x7 : Int32) (t : Mem) (u : Mem) (hh : Mem) (S : Nat → Mem) : Option (Int32 × GM) :=
  pL_acts_188 x6 x7 0 t u hh S
def pL_acts_147 (s0 : Int32) (t : Mem) (u : Mem) (hh : Mem) (S : Nat → Mem) : Option (Int32 × GM) :=
  (pX4_dirty t u hh S).bind fun y401 =>
  if s0 = 0 then
    pL_acts_187 s0 y401 t u hh S
  else
    (pX4_isOn t u hh S).bind fun y403 =>
    if y403 = 0 then
      (pX4_isIn t u hh S).bind fun y405 =>
      if y405 = 0 then
        pL_acts_187 s0 y401 t u hh S
      else
        (pX4_charge t u hh S).bind fun y407 =>
        if 20 ≤ y407 then
          pL_acts_187 s0 y401 t u hh S
        else
          pL_acts_188 s0 y401 1 t u hh S
    else
      pL_acts_187 s0 y401 t u hh S
def pL_acts_264 (s0 : Int32) (t : Mem) (u : Mem) (hh : Mem) (S : Nat → Mem) : Option (Int32 × GM) :=
  if isz s0 = true then some (s0, (t, u, hh, S)) else none
def pL_acts_314 (s0 : Int32) (t : Mem) (u : Mem) (hh : Mem) (S : Nat → Mem) : Option (Int32 × GM) :=
  if isz s0 = true then some (s0, (t, u, hh, S)) else none
def pL_acts_309 (t : Mem) (u : Mem) (hh : Mem) (S : Nat → Mem) : Option (Int32 × GM) :=
  pL_acts_314 1 t u hh S
def pL_acts_313 (t : Mem) (u : Mem) (hh : Mem) (S : Nat → Mem) : Option (Int32 × GM) :=
  pL_acts_314 0 t u hh S
def pL_acts_236 (s0 : Int32) (t : Mem) (u : Mem) (hh : Mem) (S : Nat → Mem) : Option (Int32 × GM) :=
  (pX4_used t u hh S).bind fun y1001 =>
  (pX4_isOn t u hh S).bind fun y1002 =>
  if y1002 = 0 then
    bdG (pX4_moveStick t u hh S s0) fun y1004 t1005 u1006 h1007 S1008 =>
    if y1004 < 0 then
      pL_acts_313 t1005 u1006 h1007 S1008
    else
      (pX4_isIn t1005 u1006 h1007 S1008).bind fun y1010 =>
      if y1010 = s0 then
        (pX4_used t1005 u1006 h1007 S1008).bind fun y1012 =>
        if y1012 = (y1001 - y1004) then
          if s0 = 0 then
            if y1004 = 0 then
              pL_acts_309 t1005 u1006 h1007 S1008
            else
              pL_acts_313 t1005 u1006 h1007 S1008
          else
            pL_acts_309 t1005 u1006 h1007 S1008
        else
          pL_acts_313 t1005 u1006 h1007 S1008
      else
        pL_acts_313 t1005 u1006 h1007 S1008
  else
    bdG (pX4_power t u hh S 0) fun y1016 t1017 u1018 h1019 S1020 =>
    if y1016 = 0 then
      pL_acts_264 1 t1017 u1018 h1019 S1020
    else
      pL_acts_264 0 t1017 u1018 h1019 S1020
def pL_acts_504 (s0 : Int32) (t : Mem) (u : Mem) (hh : Mem) (S : Nat → Mem) : Option (Int32 × GM) :=
  if isz s0 = true then some (s0, (t, u, hh, S)) else none
def pL_acts_499 (t : Mem) (u : Mem) (hh : Mem) (S : Nat → Mem) : Option (Int32 × GM) :=
  pL_acts_504 1 t u hh S
def pL_acts_503 (t : Mem) (u : Mem) (hh : Mem) (S : Nat → Mem) : Option (Int32 × GM) :=
  pL_acts_504 0 t u hh S
def pL_acts_483 (x16 : Int32) (s0 : Int32) (s1 : Int32) (s2 : Int32) (t : Mem) (u : Mem) (hh : Mem) (S : Nat → Mem) : Option (Int32 × GM) :=
  if s0 = (s1 + s2) then
    if x16 = 0 then
      pL_acts_499 t u hh S
    else
      (pX4_used t u hh S).bind fun y2003 =>
      if y2003 = 0 then
        pL_acts_499 t u hh S
      else
        pL_acts_503 t u hh S
  else
    pL_acts_503 t u hh S
def pL_acts_464 (x14 : Int32) (x15 : Int32) (x16 : Int32) (t : Mem) (u : Mem) (hh : Mem) (S : Nat → Mem) : Option (Int32 × GM) :=
  (pX4_count t u hh S 6).bind fun y1901 =>
  if x16 = 0 then
    pL_acts_483 x16 y1901 x14 0 t u hh S
  else
    pL_acts_483 x16 y1901 x14 x15 t u hh S
def pL_acts_461 (x14 : Int32) (x15 : Int32) (x16 : Int32) (s0 : Int32) (s1 : Int32) (t : Mem) (u : Mem) (hh : Mem) (S : Nat → Mem) : Option (Int32 × GM) :=
  if s0 = s1 then
    pL_acts_464 x14 x15 x16 t u hh S
  else
    pL_acts_503 t u hh S
def pL_acts_381 (x4 : Int32) (x5 : Int32) (x12 : Int32) (x13 : Int32) (x14 : Int32) (x15 : Int32) (s0 : Int32) (t : Mem) (u : Mem) (hh : Mem) (S : Nat → Mem) : Option (Int32 × GM) :=
  bdG (pX4_pass t u hh S x13) fun y1701 t1702 u1703 h1704 S1705 =>
  (pX4_count t1702 u1703 h1704 S1705 0).bind fun y1706 =>
  (pX4_count t1702 u1703 h1704 S1705 1).bind fun y1707 =>
  if (y1706 + y1707) = x5 then
    (pX4_charge t1702 u1703 h1704 S1705).bind fun y1709 =>
    if y1701 = y1709 then
      if x4 = 0 then
        if x12 ≤ x13 then
          pL_acts_461 x14 x15 s0 y1701 0 t1702 u1703 h1704 S1705
        else
          pL_acts_461 x14 x15 s0 y1701 (x12 - x13) t1702 u1703 h1704 S1705
      else
        if y1701 < x12 then
          pL_acts_503 t1702 u1703 h1704 S1705
        else
          if (x12 + (2 * x13)) < y1701 then
            pL_acts_503 t1702 u1703 h1704 S1705
          else
            pL_acts_464 x14 x15 s0 t1702 u1703 h1704 S1705
    else
      pL_acts_503 t1702 u1703 h1704 S1705
  else
    pL_acts_503 t1702 u1703 h1704 S1705
def pL_acts_380 (x4 : Int32) (x5 : Int32) (x12 : Int32) (x13 : Int32) (x14 : Int32) (x15 : Int32) (t : Mem) (u : Mem) (hh : Mem) (S : Nat → Mem) : Option (Int32 × GM) :=
  pL_acts_381 x4 x5 x12 x13 x14 x15 0 t u hh S
def pL_acts_339 (x4 : Int32) (x5 : Int32) (x12 : Int32) (s0 : Int32) (s1 : Int32) (s2 : Int32) (t : Mem) (u : Mem) (hh : Mem) (S : Nat → Mem) : Option (Int32 × GM) :=
  (pL_up s1 s2).bind fun y1501 =>
  (pX4_count t u hh S 6).bind fun y1502 =>
  (pX4_dirty t u hh S).bind fun y1503 =>
  if x4 = 0 then
    if x12 ≤ 0 then
      pL_acts_380 x4 x5 x12 (s0 + y1501) y1502 y1503 t u hh S
    else
      if (s0 + y1501) < x12 then
        pL_acts_380 x4 x5 x12 (s0 + y1501) y1502 y1503 t u hh S
      else
        pL_acts_381 x4 x5 x12 (s0 + y1501) y1502 y1503 1 t u hh S
  else
    pL_acts_380 x4 x5 x12 (s0 + y1501) y1502 y1503 t u hh S
def pL_acts_549 (s0 : Int32) (t : Mem) (u : Mem) (hh : Mem) (S : Nat → Mem) : Option (Int32 × GM) :=
  if isz s0 = true then some (s0, (t, u, hh, S)) else none
def pL_acts_541 (s0 : Int32) (s1 : Int32) (t : Mem) (u : Mem) (hh : Mem) (S : Nat → Mem) : Option (Int32 × GM) :=
  if s0 = s1 then
    pL_acts_549 1 t u hh S
  else
    pL_acts_549 0 t u hh S
def pL_acts_576 (s0 : Int32) (t : Mem) (u : Mem) (hh : Mem) (S : Nat → Mem) : Option (Int32 × GM) :=
  if isz s0 = true then some (s0, (t, u, hh, S)) else none
def pL_acts_575 (t : Mem) (u : Mem) (hh : Mem) (S : Nat → Mem) : Option (Int32 × GM) :=
  pL_acts_576 0 t u hh S
def pL_acts_629 (s0 : Int32) (t : Mem) (u : Mem) (hh : Mem) (S : Nat → Mem) : Option (Int32 × GM) :=
  if isz s0 = true then some (s0, (t, u, hh, S)) else none
def pL_acts_628 (t : Mem) (u : Mem) (hh : Mem) (S : Nat → Mem) : Option (Int32 × GM) :=
  pL_acts_629 0 t u hh S
def pL_acts_689 (s0 : Int32) (t : Mem) (u : Mem) (hh : Mem) (S : Nat → Mem) : Option (Int32 × GM) :=
  if isz s0 = true then some (s0, (t, u, hh, S)) else none
def pL_acts_672 (t : Mem) (u : Mem) (hh : Mem) (S : Nat → Mem) : Option (Int32 × GM) :=
  pL_acts_689 0 t u hh S
def pL_acts_801 (s0 : Int32) (t : Mem) (u : Mem) (hh : Mem) (S : Nat → Mem) : Option (Int32 × GM) :=
  if isz s0 = true then some (s0, (t, u, hh, S)) else none
def pL_acts_784 (t : Mem) (u : Mem) (hh : Mem) (S : Nat → Mem) : Option (Int32 × GM) :=
  pL_acts_801 0 t u hh S
def pL_acts_776 (s0 : Int32) (s1 : Int32) (s2 : Int32) (t : Mem) (u : Mem) (hh : Mem) (S : Nat → Mem) : Option (Int32 × GM) :=
  if s0 = (s1 + s2) then
    pL_acts_801 1 t u hh S
  else
    pL_acts_784 t u hh S
def pL_acts_734 (x3 : Int32) (x5 : Int32) (x24 : Int32) (s0 : Int32) (t : Mem) (u : Mem) (hh : Mem) (S : Nat → Mem) : Option (Int32 × GM) :=
  (pX4_isOn t u hh S).bind fun y3301 =>
  if y3301 = 0 then
    bdG (pX4_power t u hh S 1) fun y3303 t3304 u3305 h3306 S3307 =>
    if y3303 < 0 then
      pL_acts_801 0 t3304 u3305 h3306 S3307
    else
      pL_acts_801 1 t3304 u3305 h3306 S3307
  else
    bdG (pX4_read t u hh S x3) fun y3309 t3310 u3311 h3312 S3313 =>
    if y3309 = s0 then
      (pX4_count t3310 u3311 h3312 S3313 0).bind fun y3315 =>
      (pX4_count t3310 u3311 h3312 S3313 1).bind fun y3316 =>
      if x24 < 0 then
        pL_acts_776 (y3315 + y3316) x5 1 t3310 u3311 h3312 S3313
      else
        pL_acts_776 (y3315 + y3316) x5 0 t3310 u3311 h3312 S3313
    else
      pL_acts_784 t3310 u3311 h3312 S3313
def pL_acts_706 (x3 : Int32) (x5 : Int32) (s0 : Int32) (t : Mem) (u : Mem) (hh : Mem) (S : Nat → Mem) : Option (Int32 × GM) :=
  if s0 < 0 then
    (pX4_onDisk t u hh S x3).bind fun y3202 =>
    pL_acts_734 x3 x5 s0 y3202 t u hh S
  else
    (pX4_line t u hh S (s0 / 3) (s0 - s0 / 3 * 3) 1).bind fun y3203 =>
    pL_acts_734 x3 x5 s0 y3203 t u hh S
def pL_acts_840 (s0 : Int32) (t : Mem) (u : Mem) (hh : Mem) (S : Nat → Mem) : Option (Int32 × GM) :=
  if isz s0 = true then some (s0, (t, u, hh, S)) else none
def pL_acts_55 (x1 : Int32) (x2 : Int32) (x3 : Int32) (s0 : Int32) (t : Mem) (u : Mem) (hh : Mem) (S : Nat → Mem) : Option (Int32 × GM) :=
  (pX4_count t u hh S 0).bind fun y301 =>
  (pX4_count t u hh S 1).bind fun y302 =>
  (pL_up x1 20).bind fun y303 =>
  if y303 = 0 then
    if (x2 &&& 3) ≤ 0 then
      pL_acts_147 0 t u hh S
    else
      pL_acts_147 1 t u hh S
  else if y303 = 1 then
    if (x2 &&& 1) = 0 then
      pL_acts_236 1 t u hh S
    else
      pL_acts_236 0 t u hh S
  else if y303 = 2 then
    if (x2 &&& 1) = 0 then
      pL_acts_236 1 t u hh S
    else
      pL_acts_236 0 t u hh S
  else if y303 = 3 then
    (pX4_charge t u hh S).bind fun y307 =>
    if ((x2 >>> (8 &&& 31)) &&& 3) = 0 then
      pL_acts_339 s0 (y301 + y302) y307 1 x2 99 t u hh S
    else
      pL_acts_339 s0 (y301 + y302) y307 1 x2 30 t u hh S
  else if y303 = 4 then
    (pX4_charge t u hh S).bind fun y309 =>
    if ((x2 >>> (8 &&& 31)) &&& 3) = 0 then
      pL_acts_339 s0 (y301 + y302) y309 1 x2 99 t u hh S
    else
      pL_acts_339 s0 (y301 + y302) y309 1 x2 30 t u hh S
  else if y303 = 5 then
    (pL_up x2 100).bind fun y311 =>
    (pX4_charge t u hh S).bind fun y312 =>
    bdG (pX4_setLimit t u hh S (1 + y311)) fun y313 t314 u315 h316 S317 =>
    if (1 + y311) ≤ y312 then
      pL_acts_541 y313 (1 + y311) t314 u315 h316 S317
    else
      pL_acts_541 y313 y312 t314 u315 h316 S317
  else if y303 = 6 then
    if s0 = 0 then
      (pX4_ifDestaged t u hh S).bind fun y333 =>
      if y333 = (-1) then
        bdG (pX4_pass t u hh S 1) fun y335 t336 u337 h338 S339 =>
        if y335 < 0 then
          pL_acts_575 t336 u337 h338 S339
        else
          pL_acts_576 1 t336 u337 h338 S339
      else
        pL_acts_575 t u hh S
    else
      (pX4_ifDestaged t u hh S).bind fun y320 =>
      (pX4_dirty t u hh S).bind fun y321 =>
      bdG (pX4_destageAll t u hh S) fun y322 t323 u324 h325 S326 =>
      if y322 = y321 then
        (pX4_dirty t323 u324 h325 S326).bind fun y328 =>
        if y328 = 0 then
          (pX4_count t323 u324 h325 S326 0).bind fun y330 =>
          (pX4_count t323 u324 h325 S326 1).bind fun y331 =>
          if (y330 + y331) = ((y301 + y302) + y320) then
            pL_acts_629 1 t323 u324 h325 S326
          else
            pL_acts_628 t323 u324 h325 S326
        else
          pL_acts_628 t323 u324 h325 S326
      else
        pL_acts_628 t323 u324 h325 S326
  else if y303 = 7 then
    (pX4_dirtyOf t u hh S (x3 / 4)).bind fun y341 =>
    if s0 = 0 then
      bdG (pX4_power t u hh S 1) fun y343 t344 u345 h346 S347 =>
      if y343 < 0 then
        pL_acts_689 0 t344 u345 h346 S347
      else
        pL_acts_689 1 t344 u345 h346 S347
    else
      bdG (pX4_destage t u hh S (x3 / 4)) fun y349 t350 u351 h352 S353 =>
      if y349 = y341 then
        (pX4_dirtyOf t350 u351 h352 S353 (x3 / 4)).bind fun y355 =>
        if y355 = 0 then
          pL_acts_689 1 t350 u351 h352 S353
        else
          pL_acts_672 t350 u351 h352 S353
      else
        pL_acts_672 t350 u351 h352 S353
  else if y303 = 8 then
    (pX4_isIn t u hh S).bind fun y357 =>
    if y357 = 0 then
      pL_acts_706 x3 (y301 + y302) (-1) t u hh S
    else
      (pL_lineOf t u hh S x3).bind fun y359 =>
      pL_acts_706 x3 (y301 + y302) y359 t u hh S
  else if y303 = 9 then
    (pX4_isIn t u hh S).bind fun y360 =>
    if y360 = 0 then
      pL_acts_706 x3 (y301 + y302) (-1) t u hh S
    else
      (pL_lineOf t u hh S x3).bind fun y362 =>
      pL_acts_706 x3 (y301 + y302) y362 t u hh S
  else if y303 = 10 then
    (pX4_isIn t u hh S).bind fun y363 =>
    if y363 = 0 then
      pL_acts_706 x3 (y301 + y302) (-1) t u hh S
    else
      (pL_lineOf t u hh S x3).bind fun y365 =>
      pL_acts_706 x3 (y301 + y302) y365 t u hh S
  else 
    (pX4_isOn t u hh S).bind fun y366 =>
    if y366 = 0 then
      bdG (pX4_power t u hh S 1) fun y368 t369 u370 h371 S372 =>
      if y368 < 0 then
        pL_acts_840 0 t369 u370 h371 S372
      else
        pL_acts_840 1 t369 u370 h371 S372
    else
      (pL_up (x2 >>> (9 &&& 31)) 1000).bind fun y374 =>
      bdG (pL_writes t u hh S x3 y374) fun y375 t376 u377 h378 S379 =>
      pL_acts_840 y375 t376 u377 h378 S379
def pL_acts_54 (x1 : Int32) (x2 : Int32) (x3 : Int32) (t : Mem) (u : Mem) (hh : Mem) (S : Nat → Mem) : Option (Int32 × GM) :=
  pL_acts_55 x1 x2 x3 0 t u hh S
def pL_acts_35 (x1 : Int32) (x2 : Int32) (s0 : Int32) (t : Mem) (u : Mem) (hh : Mem) (S : Nat → Mem) : Option (Int32 × GM) :=
  (pX4_isOn t u hh S).bind fun y101 =>
  if y101 = 0 then
    pL_acts_54 x1 x2 s0 t u hh S
  else
    (pX4_isIn t u hh S).bind fun y103 =>
    if y103 = 0 then
      pL_acts_54 x1 x2 s0 t u hh S
    else
      pL_acts_55 x1 x2 s0 1 t u hh S
def pL_acts (t : Mem) (u : Mem) (hh : Mem) (S : Nat → Mem) (x1 : Int32) (x2 : Int32) : Option (Int32 × GM) :=
  if (x2 &&& 3) = 0 then
    (pL_up (x2 >>> (2 &&& 31)) 64).bind fun y4 =>
    pL_acts_35 x1 x2 y4 t u hh S
  else
    (pL_up (x2 >>> (2 &&& 31)) 4).bind fun y2 =>
    (pL_up (x2 >>> (4 &&& 31)) 5).bind fun y3 =>
    pL_acts_35 x1 x2 ((16 * y2) + y3) t u hh S
def rmL_acts : Room := { frames := 8, cells := 0, slots := 0, locals := 195 }
theorem hd_L_acts : yL_acts.cls ≠ "java/lang/invoke/MethodHandle" ∧ yL_acts.cls ≠ "java/lang/invoke/VarHandle" ∧ (parseMethodDescriptor yL_acts.desc).map (fun d => d.parameters.length) = some 3 := by decide +kernel
set_option maxHeartbeats 4000000 in
set_option maxRecDepth 100000 in
theorem mL_acts (l : Launch) (D : va_G) (ca : Gp) (a b h : Nat → Nat) (f : Nat → Nat → Nat) (wr : va_W) (t u hh : Mem) (S : Nat → Mem) (x1 : Int32) (x2 : Int32) {r : Int32} {t9 : Mem} {u9 : Mem} {h9 : Mem} {S9 : Nat → Mem} (hf : pL_acts t u hh S x1 x2 = some (r, (t9, u9, h9, S9))) : Mi l yL_acts wsL_acts rmL_acts D ca [.ref (h 2), .int x1, .int x2] (gW a b h f ca t u hh S wr) (gW a b h f ca t9 u9 h9 S9 wr) r := by
  refine Mi_of (own := RL) (cc := cL_acts) (nL := 26) (ty := .boolean) (by decide) rfl rfl rfl rfl (Nat.le_of_ble_eq_true rfl) ?_
  intro p e s m args below meth c Q A ls C0 hH hl hend
  obtain ⟨hx, hb, hml, hown, hts⟩ := id C0.1
  have hl : lv_has ls 26 [(0, .ref (h 2)), (1, .int x1), (2, .int x2)] := hl
  have J224 : ∀ (s0 : Int32) (t : Mem) (u : Mem) (hh : Mem) (S : Nat → Mem) (H : Heap) (locs : List Loc) (ls : Array Slot), pL_acts_224 s0 t u hh S = some (r, (t9, u9, h9, S9)) → HS D A s (gW a b h f ca t u hh S wr) H locs → lv_has ls 26 [] → W p l e rmL_acts s m args below meth c H locs 0 0 Q (F0 m 224 ls [.int s0]) := by
    intro s0 t u hh S H locs ls hf hH hl
    unfold pL_acts_224 at hf
    obtain ⟨hz, hf⟩ := gd hf
    cases hf
    exact hend _ _ _ _ hH (isz_n hz) dL_acts_224
  have J223 : ∀ (t : Mem) (u : Mem) (hh : Mem) (S : Nat → Mem) (H : Heap) (locs : List Loc) (ls : Array Slot), pL_acts_223 t u hh S = some (r, (t9, u9, h9, S9)) → HS D A s (gW a b h f ca t u hh S wr) H locs → lv_has ls 26 [] → W p l e rmL_acts s m args below meth c H locs 0 0 Q (F0 m 223 ls []) := by
    intro t u hh S H locs ls hf hH hl
    unfold pL_acts_223 at hf
    refine lv_iconst (v := 0) hx hb dL_acts_223 (by decide) ?_
    exact J224 _ _ _ _ _ _ _ _ hf hH (lv_sub hl [] rfl)
  have J207 : ∀ (x6 : Int32) (s0 : Int32) (s1 : Int32) (t : Mem) (u : Mem) (hh : Mem) (S : Nat → Mem) (H : Heap) (locs : List Loc) (ls : Array Slot), pL_acts_207 x6 s0 s1 t u hh S = some (r, (t9, u9, h9, S9)) → HS D A s (gW a b h f ca t u hh S wr) H locs → lv_has ls 26 [(0, .ref (h 2)), (6, .int x6)] → W p l e rmL_acts s m args below meth c H locs 0 0 Q (F0 m 207 ls [.int s1, .int s0]) := by
    intro x6 s0 s1 t u hh S H locs ls hf hH hl
    unfold pL_acts_207 at hf
    refine lv_icmp_ne (tgt := 223) hx hb dL_acts_207 (by decide) (fun c701 => ?_) (fun c701 => ?_)
    · rw [if_neg c701] at hf
      exact J223 _ _ _ _ _ _ _ hf hH (lv_sub hl [] rfl)
    · rw [if_pos c701] at hf
      refine lv_aload_n hx hb dL_acts_210 rfl (lv_at hl 0 rfl) ?_
      obtain ⟨y702, h_y702, hf⟩ := bnd hf
      refine cl_iV C0 hH hl.1 (As := []) (rest := []) (mX4_isOn l D ca a b h f wr t u hh S h_y702) gL_acts_X4_isOn rfl rfl rfl hd_X4_isOn ⟨Nat.le_of_ble_eq_true rfl, Nat.le_of_ble_eq_true rfl⟩ ⟨Nat.zero_le _, Nat.zero_le _⟩ (vG_X4 C0 hH) rfl (Nat.le_of_ble_eq_true rfl) dL_acts_211 (fun H locs hH => ?_)
      refine lv_iload hx hb dL_acts_214 (lv_at hl 1 rfl) ?_
      refine lv_icmp_ne (tgt := 223) hx hb dL_acts_216 (by decide) (fun c703 => ?_) (fun c703 => ?_)
      · rw [if_neg c703] at hf
        exact J223 _ _ _ _ _ _ _ hf hH (lv_sub hl [] rfl)
      · rw [if_pos c703] at hf
        refine lv_iconst (v := 1) hx hb dL_acts_219 (by decide) ?_
        refine lv_goto (tgt := 224) hx hb dL_acts_220 (by decide) ?_
        exact J224 _ _ _ _ _ _ _ _ hf hH (lv_sub hl [] rfl)
  have J188 : ∀ (x6 : Int32) (x7 : Int32) (s0 : Int32) (t : Mem) (u : Mem) (hh : Mem) (S : Nat → Mem) (H : Heap) (locs : List Loc) (ls : Array Slot), pL_acts_188 x6 x7 s0 t u hh S = some (r, (t9, u9, h9, S9)) → HS D A s (gW a b h f ca t u hh S wr) H locs → lv_has ls 26 [(0, .ref (h 2)), (6, .int x6), (7, .int x7)] → W p l e rmL_acts s m args below meth c H locs 0 0 Q (F0 m 188 ls [.int s0]) := by
    intro x6 x7 s0 t u hh S H locs ls hf hH hl
    unfold pL_acts_188 at hf
    refine lv_istore (lv' := [(8, .int s0), (0, .ref (h 2)), (6, .int x6), (7, .int x7)]) hx hb dL_acts_188 hl (by decide) rfl (fun ls hl => ?_)
    refine lv_aload_n hx hb dL_acts_190 rfl (lv_at hl 1 rfl) ?_
    refine lv_iload hx hb dL_acts_191 (lv_at hl 2 rfl) ?_
    obtain ⟨y601, t602, u603, h604, S605, h_y601, hf⟩ := bndG hf
    refine cl_iV C0 hH hl.1 (As := [.int x6]) (rest := []) (mX4_power l D ca a b h f wr t u hh S x6 h_y601) gL_acts_X4_power rfl rfl rfl hd_X4_power ⟨Nat.le_of_ble_eq_true rfl, Nat.le_of_ble_eq_true rfl⟩ ⟨Nat.zero_le _, Nat.zero_le _⟩ (vG_X4 C0 hH) rfl (Nat.le_of_ble_eq_true rfl) dL_acts_193 (fun H locs hH => ?_)
    refine lv_iload hx hb dL_acts_196 (lv_at hl 0 rfl) ?_
    refine lv_if_eq (tgt := 206) hx hb dL_acts_198 (by decide) (fun c606 => ?_) (fun c606 => ?_)
    · rw [if_pos c606] at hf
      refine lv_iconst (v := 0) hx hb dL_acts_206 (by decide) ?_
      exact J207 _ _ _ _ _ _ _ _ _ _ hf hH (lv_sub hl [1, 2] rfl)
    · rw [if_neg c606] at hf
      refine lv_iload hx hb dL_acts_201 (lv_at hl 3 rfl) ?_
      refine lv_goto (tgt := 207) hx hb dL_acts_203 (by decide) ?_
      exact J207 _ _ _ _ _ _ _ _ _ _ hf hH (lv_sub hl [1, 2] rfl)
  have J187 : ∀ (x6 : Int32) (x7 : Int32) (t : Mem) (u : Mem) (hh : Mem) (S : Nat → Mem) (H : Heap) (locs : List Loc) (ls : Array Slot), pL_acts_187 x6 x7 t u hh S = some (r, (t9, u9, h9, S9)) → HS D A s (gW a b h f ca t u hh S wr) H locs → lv_has ls 26 [(0, .ref (h 2)), (6, .int x6), (7, .int x7)] → W p l e rmL_acts s m args below meth c H locs 0 0 Q (F0 m 187 ls []) := by
    intro x6 x7 t u hh S H locs ls hf hH hl
    unfold pL_acts_187 at hf
    refine lv_iconst (v := 0) hx hb dL_acts_187 (by decide) ?_
    exact J188 _ _ _ _ _ _ _ _ _ _ hf hH (lv_sub hl [0, 1, 2] rfl)
  have J147 : ∀ (s0 : Int32) (t : Mem) (u : Mem) (hh : Mem) (S : Nat → Mem) (H : Heap) (locs : List Loc) (ls : Array Slot), pL_acts_147 s0 t u hh S = some (r, (t9, u9, h9, S9)) → HS D A s (gW a b h f ca t u hh S wr) H locs → lv_has ls 26 [(0, .ref (h 2))] → W p l e rmL_acts s m args below meth c H locs 0 0 Q (F0 m 147 ls [.int s0]) := by
    intro s0 t u hh S H locs ls hf hH hl
    unfold pL_acts_147 at hf
    refine lv_istore (lv' := [(6, .int s0), (0, .ref (h 2))]) hx hb dL_acts_147 hl (by decide) rfl (fun ls hl => ?_)
    refine lv_aload_n hx hb dL_acts_149 rfl (lv_at hl 1 rfl) ?_
    obtain ⟨y401, h_y401, hf⟩ := bnd hf
    refine cl_iV C0 hH hl.1 (As := []) (rest := []) (mX4_dirty l D ca a b h f wr t u hh S h_y401) gL_acts_X4_dirty rfl rfl rfl hd_X4_dirty ⟨Nat.le_of_ble_eq_true rfl, Nat.le_of_ble_eq_true rfl⟩ ⟨Nat.zero_le _, Nat.zero_le _⟩ (vG_X4 C0 hH) rfl (Nat.le_of_ble_eq_true rfl) dL_acts_150 (fun H locs hH => ?_)
    refine lv_istore (lv' := [(7, .int y401), (6, .int s0), (0, .ref (h 2))]) hx hb dL_acts_153 hl (by decide) rfl (fun ls hl => ?_)
    refine lv_iload hx hb dL_acts_155 (lv_at hl 1 rfl) ?_
    refine lv_if_eq (tgt := 187) hx hb dL_acts_157 (by decide) (fun c402 => ?_) (fun c402 => ?_)
    · rw [if_pos c402] at hf
      exact J187 _ _ _ _ _ _ _ _ _ hf hH (lv_sub hl [2, 1, 0] rfl)
    · rw [if_neg c402] at hf
      refine lv_aload_n hx hb dL_acts_160 rfl (lv_at hl 2 rfl) ?_
      obtain ⟨y403, h_y403, hf⟩ := bnd hf
      refine cl_iV C0 hH hl.1 (As := []) (rest := []) (mX4_isOn l D ca a b h f wr t u hh S h_y403) gL_acts_X4_isOn rfl rfl rfl hd_X4_isOn ⟨Nat.le_of_ble_eq_true rfl, Nat.le_of_ble_eq_true rfl⟩ ⟨Nat.zero_le _, Nat.zero_le _⟩ (vG_X4 C0 hH) rfl (Nat.le_of_ble_eq_true rfl) dL_acts_161 (fun H locs hH => ?_)
      refine lv_if_ne (tgt := 187) hx hb dL_acts_164 (by decide) (fun c404 => ?_) (fun c404 => ?_)
      · rw [if_neg c404] at hf
        exact J187 _ _ _ _ _ _ _ _ _ hf hH (lv_sub hl [2, 1, 0] rfl)
      · rw [if_pos c404] at hf
        refine lv_aload_n hx hb dL_acts_167 rfl (lv_at hl 2 rfl) ?_
        obtain ⟨y405, h_y405, hf⟩ := bnd hf
        refine cl_iV C0 hH hl.1 (As := []) (rest := []) (mX4_isIn l D ca a b h f wr t u hh S h_y405) gL_acts_X4_isIn rfl rfl rfl hd_X4_isIn ⟨Nat.le_of_ble_eq_true rfl, Nat.le_of_ble_eq_true rfl⟩ ⟨Nat.zero_le _, Nat.zero_le _⟩ (vG_X4 C0 hH) rfl (Nat.le_of_ble_eq_true rfl) dL_acts_168 (fun H locs hH => ?_)
        refine lv_if_eq (tgt := 187) hx hb dL_acts_171 (by decide) (fun c406 => ?_) (fun c406 => ?_)
        · rw [if_pos c406] at hf
          exact J187 _ _ _ _ _ _ _ _ _ hf hH (lv_sub hl [2, 1, 0] rfl)
        · rw [if_neg c406] at hf
          refine lv_aload_n hx hb dL_acts_174 rfl (lv_at hl 2 rfl) ?_
          obtain ⟨y407, h_y407, hf⟩ := bnd hf
          refine cl_iV C0 hH hl.1 (As := []) (rest := []) (mX4_charge l D ca a b h f wr t u hh S h_y407) gL_acts_X4_charge rfl rfl rfl hd_X4_charge ⟨Nat.le_of_ble_eq_true rfl, Nat.le_of_ble_eq_true rfl⟩ ⟨Nat.zero_le _, Nat.zero_le _⟩ (vG_X4 C0 hH) rfl (Nat.le_of_ble_eq_true rfl) dL_acts_175 (fun H locs hH => ?_)
          refine lv_bipush (v := 20) hx hb dL_acts_178 (by decide) ?_
          refine lv_icmp_ge (tgt := 187) hx hb dL_acts_180 (by decide) (fun c408 => ?_) (fun c408 => ?_)
          · rw [if_pos c408] at hf
            exact J187 _ _ _ _ _ _ _ _ _ hf hH (lv_sub hl [2, 1, 0] rfl)
          · rw [if_neg c408] at hf
            refine lv_iconst (v := 1) hx hb dL_acts_183 (by decide) ?_
            refine lv_goto (tgt := 188) hx hb dL_acts_184 (by decide) ?_
            exact J188 _ _ _ _ _ _ _ _ _ _ hf hH (lv_sub hl [2, 1, 0] rfl)
  have J264 : ∀ (s0 : Int32) (t : Mem) (u : Mem) (hh : Mem) (S : Nat → Mem) (H : Heap) (locs : List Loc) (ls : Array Slot), pL_acts_264 s0 t u hh S = some (r, (t9, u9, h9, S9)) → HS D A s (gW a b h f ca t u hh S wr) H locs → lv_has ls 26 [] → W p l e rmL_acts s m args below meth c H locs 0 0 Q (F0 m 264 ls [.int s0]) := by
    intro s0 t u hh S H locs ls hf hH hl
    unfold pL_acts_264 at hf
    obtain ⟨hz, hf⟩ := gd hf
    cases hf
    exact hend _ _ _ _ hH (isz_n hz) dL_acts_264
  have J314 : ∀ (s0 : Int32) (t : Mem) (u : Mem) (hh : Mem) (S : Nat → Mem) (H : Heap) (locs : List Loc) (ls : Array Slot), pL_acts_314 s0 t u hh S = some (r, (t9, u9, h9, S9)) → HS D A s (gW a b h f ca t u hh S wr) H locs → lv_has ls 26 [] → W p l e rmL_acts s m args below meth c H locs 0 0 Q (F0 m 314 ls [.int s0]) := by
    intro s0 t u hh S H locs ls hf hH hl
    unfold pL_acts_314 at hf
    obtain ⟨hz, hf⟩ := gd hf
    cases hf
    exact hend _ _ _ _ hH (isz_n hz) dL_acts_314
  have J309 : ∀ (t : Mem) (u : Mem) (hh : Mem) (S : Nat → Mem) (H : Heap) (locs : List Loc) (ls : Array Slot), pL_acts_309 t u hh S = some (r, (t9, u9, h9, S9)) → HS D A s (gW a b h f ca t u hh S wr) H locs → lv_has ls 26 [] → W p l e rmL_acts s m args below meth c H locs 0 0 Q (F0 m 309 ls []) := by
    intro t u hh S H locs ls hf hH hl
    unfold pL_acts_309 at hf
    refine lv_iconst (v := 1) hx hb dL_acts_309 (by decide) ?_
    refine lv_goto (tgt := 314) hx hb dL_acts_310 (by decide) ?_
    exact J314 _ _ _ _ _ _ _ _ hf hH (lv_sub hl [] rfl)
  have J313 : ∀ (t : Mem) (u : Mem) (hh : Mem) (S : Nat → Mem) (H : Heap) (locs : List Loc) (ls : Array Slot), pL_acts_313 t u hh S = some (r, (t9, u9, h9, S9)) → HS D A s (gW a b h f ca t u hh S wr) H locs → lv_has ls 26 [] → W p l e rmL_acts s m args below meth c H locs 0 0 Q (F0 m 313 ls []) := by
    intro t u hh S H locs ls hf hH hl
    unfold pL_acts_313 at hf
    refine lv_iconst (v := 0) hx hb dL_acts_313 (by decide) ?_
    exact J314 _ _ _ _ _ _ _ _ hf hH (lv_sub hl [] rfl)
  have J236 : ∀ (s0 : Int32) (t : Mem) (u : Mem) (hh : Mem) (S : Nat → Mem) (H : Heap) (locs : List Loc) (ls : Array Slot), pL_acts_236 s0 t u hh S = some (r, (t9, u9, h9, S9)) → HS D A s (gW a b h f ca t u hh S wr) H locs → lv_has ls 26 [(0, .ref (h 2))] → W p l e rmL_acts s m args below meth c H locs 0 0 Q (F0 m 236 ls [.int s0]) := by
    intro s0 t u hh S H locs ls hf hH hl
    unfold pL_acts_236 at hf
    refine lv_istore (lv' := [(9, .int s0), (0, .ref (h 2))]) hx hb dL_acts_236 hl (by decide) rfl (fun ls hl => ?_)
    refine lv_aload_n hx hb dL_acts_238 rfl (lv_at hl 1 rfl) ?_
    obtain ⟨y1001, h_y1001, hf⟩ := bnd hf
    refine cl_iV C0 hH hl.1 (As := []) (rest := []) (mX4_used l D ca a b h f wr t u hh S h_y1001) gL_acts_X4_used rfl rfl rfl hd_X4_used ⟨Nat.le_of_ble_eq_true rfl, Nat.le_of_ble_eq_true rfl⟩ ⟨Nat.zero_le _, Nat.zero_le _⟩ (vG_X4 C0 hH) rfl (Nat.le_of_ble_eq_true rfl) dL_acts_239 (fun H locs hH => ?_)
    refine lv_istore (lv' := [(10, .int y1001), (9, .int s0), (0, .ref (h 2))]) hx hb dL_acts_242 hl (by decide) rfl (fun ls hl => ?_)
    refine lv_aload_n hx hb dL_acts_244 rfl (lv_at hl 2 rfl) ?_
    obtain ⟨y1002, h_y1002, hf⟩ := bnd hf
    refine cl_iV C0 hH hl.1 (As := []) (rest := []) (mX4_isOn l D ca a b h f wr t u hh S h_y1002) gL_acts_X4_isOn rfl rfl rfl hd_X4_isOn ⟨Nat.le_of_ble_eq_true rfl, Nat.le_of_ble_eq_true rfl⟩ ⟨Nat.zero_le _, Nat.zero_le _⟩ (vG_X4 C0 hH) rfl (Nat.le_of_ble_eq_true rfl) dL_acts_245 (fun H locs hH => ?_)
    refine lv_if_eq (tgt := 265) hx hb dL_acts_248 (by decide) (fun c1003 => ?_) (fun c1003 => ?_)
    · rw [if_pos c1003] at hf
      refine lv_aload_n hx hb dL_acts_265 rfl (lv_at hl 2 rfl) ?_
      refine lv_iload hx hb dL_acts_266 (lv_at hl 1 rfl) ?_
      obtain ⟨y1004, t1005, u1006, h1007, S1008, h_y1004, hf⟩ := bndG hf
      refine cl_iV C0 hH hl.1 (As := [.int s0]) (rest := []) (mX4_moveStick l D ca a b h f wr t u hh S s0 h_y1004) gL_acts_X4_moveStick rfl rfl rfl hd_X4_moveStick ⟨Nat.le_of_ble_eq_true rfl, Nat.le_of_ble_eq_true rfl⟩ ⟨Nat.zero_le _, Nat.zero_le _⟩ (vG_X4 C0 hH) rfl (Nat.le_of_ble_eq_true rfl) dL_acts_268 (fun H locs hH => ?_)
      refine lv_istore (lv' := [(11, .int y1004), (10, .int y1001), (9, .int s0), (0, .ref (h 2))]) hx hb dL_acts_271 hl (by decide) rfl (fun ls hl => ?_)
      refine lv_iload hx hb dL_acts_273 (lv_at hl 0 rfl) ?_
      refine lv_if_lt (tgt := 313) hx hb dL_acts_275 (by decide) (fun c1009 => ?_) (fun c1009 => ?_)
      · rw [if_pos c1009] at hf
        exact J313 _ _ _ _ _ _ _ hf hH (lv_sub hl [] rfl)
      · rw [if_neg c1009] at hf
        refine lv_aload_n hx hb dL_acts_278 rfl (lv_at hl 3 rfl) ?_
        obtain ⟨y1010, h_y1010, hf⟩ := bnd hf
        refine cl_iV C0 hH hl.1 (As := []) (rest := []) (mX4_isIn l D ca a b h f wr t1005 u1006 h1007 S1008 h_y1010) gL_acts_X4_isIn rfl rfl rfl hd_X4_isIn ⟨Nat.le_of_ble_eq_true rfl, Nat.le_of_ble_eq_true rfl⟩ ⟨Nat.zero_le _, Nat.zero_le _⟩ (vG_X4 C0 hH) rfl (Nat.le_of_ble_eq_true rfl) dL_acts_279 (fun H locs hH => ?_)
        refine lv_iload hx hb dL_acts_282 (lv_at hl 2 rfl) ?_
        refine lv_icmp_ne (tgt := 313) hx hb dL_acts_284 (by decide) (fun c1011 => ?_) (fun c1011 => ?_)
        · rw [if_neg c1011] at hf
          exact J313 _ _ _ _ _ _ _ hf hH (lv_sub hl [] rfl)
        · rw [if_pos c1011] at hf
          refine lv_aload_n hx hb dL_acts_287 rfl (lv_at hl 3 rfl) ?_
          obtain ⟨y1012, h_y1012, hf⟩ := bnd hf
          refine cl_iV C0 hH hl.1 (As := []) (rest := []) (mX4_used l D ca a b h f wr t1005 u1006 h1007 S1008 h_y1012) gL_acts_X4_used rfl rfl rfl hd_X4_used ⟨Nat.le_of_ble_eq_true rfl, Nat.le_of_ble_eq_true rfl⟩ ⟨Nat.zero_le _, Nat.zero_le _⟩ (vG_X4 C0 hH) rfl (Nat.le_of_ble_eq_true rfl) dL_acts_288 (fun H locs hH => ?_)
          refine lv_iload hx hb dL_acts_291 (lv_at hl 1 rfl) ?_
          refine lv_iload hx hb dL_acts_293 (lv_at hl 0 rfl) ?_
          refine lv_isub hx hb dL_acts_295 ?_
          refine lv_icmp_ne (tgt := 313) hx hb dL_acts_296 (by decide) (fun c1013 => ?_) (fun c1013 => ?_)
          · rw [if_neg c1013] at hf
            exact J313 _ _ _ _ _ _ _ hf hH (lv_sub hl [] rfl)
          · rw [if_pos c1013] at hf
            refine lv_iload hx hb dL_acts_299 (lv_at hl 2 rfl) ?_
            refine lv_if_ne (tgt := 309) hx hb dL_acts_301 (by decide) (fun c1014 => ?_) (fun c1014 => ?_)
            · rw [if_neg c1014] at hf
              exact J309 _ _ _ _ _ _ _ hf hH (lv_sub hl [] rfl)
            · rw [if_pos c1014] at hf
              refine lv_iload hx hb dL_acts_304 (lv_at hl 0 rfl) ?_
              refine lv_if_ne (tgt := 313) hx hb dL_acts_306 (by decide) (fun c1015 => ?_) (fun c1015 => ?_)
              · rw [if_neg c1015] at hf
                exact J313 _ _ _ _ _ _ _ hf hH (lv_sub hl [] rfl)
              · rw [if_pos c1015] at hf
                exact J309 _ _ _ _ _ _ _ hf hH (lv_sub hl [] rfl)
    · rw [if_neg c1003] at hf
      refine lv_aload_n hx hb dL_acts_251 rfl (lv_at hl 2 rfl) ?_
      refine lv_iconst (v := 0) hx hb dL_acts_252 (by decide) ?_
      obtain ⟨y1016, t1017, u1018, h1019, S1020, h_y1016, hf⟩ := bndG hf
      refine cl_iV C0 hH hl.1 (As := [.int 0]) (rest := []) (mX4_power l D ca a b h f wr t u hh S 0 h_y1016) gL_acts_X4_power rfl rfl rfl hd_X4_power ⟨Nat.le_of_ble_eq_true rfl, Nat.le_of_ble_eq_true rfl⟩ ⟨Nat.zero_le _, Nat.zero_le _⟩ (vG_X4 C0 hH) rfl (Nat.le_of_ble_eq_true rfl) dL_acts_253 (fun H locs hH => ?_)
      refine lv_if_ne (tgt := 263) hx hb dL_acts_256 (by decide) (fun c1021 => ?_) (fun c1021 => ?_)
      · rw [if_neg c1021] at hf
        refine lv_iconst (v := 0) hx hb dL_acts_263 (by decide) ?_
        exact J264 _ _ _ _ _ _ _ _ hf hH (lv_sub hl [] rfl)
      · rw [if_pos c1021] at hf
        refine lv_iconst (v := 1) hx hb dL_acts_259 (by decide) ?_
        refine lv_goto (tgt := 264) hx hb dL_acts_260 (by decide) ?_
        exact J264 _ _ _ _ _ _ _ _ hf hH (lv_sub hl [] rfl)
  have J504 : ∀ (s0 : Int32) (t : Mem) (u : Mem) (hh : Mem) (S : Nat → Mem) (H : Heap) (locs : List Loc) (ls : Array Slot), pL_acts_504 s0 t u hh S = some (r, (t9, u9, h9, S9)) → HS D A s (gW a b h f ca t u hh S wr) H locs → lv_has ls 26 [] → W p l e rmL_acts s m args below meth c H locs 0 0 Q (F0 m 504 ls [.int s0]) := by
    intro s0 t u hh S H locs ls hf hH hl
    unfold pL_acts_504 at hf
    obtain ⟨hz, hf⟩ := gd hf
    cases hf
    exact hend _ _ _ _ hH (isz_n hz) dL_acts_504
  have J499 : ∀ (t : Mem) (u : Mem) (hh : Mem) (S : Nat → Mem) (H : Heap) (locs : List Loc) (ls : Array Slot), pL_acts_499 t u hh S = some (r, (t9, u9, h9, S9)) → HS D A s (gW a b h f ca t u hh S wr) H locs → lv_has ls 26 [] → W p l e rmL_acts s m args below meth c H locs 0 0 Q (F0 m 499 ls []) := by
    intro t u hh S H locs ls hf hH hl
    unfold pL_acts_499 at hf
    refine lv_iconst (v := 1) hx hb dL_acts_499 (by decide) ?_
    refine lv_goto (tgt := 504) hx hb dL_acts_500 (by decide) ?_
    exact J504 _ _ _ _ _ _ _ _ hf hH (lv_sub hl [] rfl)
  have J503 : ∀ (t : Mem) (u : Mem) (hh : Mem) (S : Nat → Mem) (H : Heap) (locs : List Loc) (ls : Array Slot), pL_acts_503 t u hh S = some (r, (t9, u9, h9, S9)) → HS D A s (gW a b h f ca t u hh S wr) H locs → lv_has ls 26 [] → W p l e rmL_acts s m args below meth c H locs 0 0 Q (F0 m 503 ls []) := by
    intro t u hh S H locs ls hf hH hl
    unfold pL_acts_503 at hf
    refine lv_iconst (v := 0) hx hb dL_acts_503 (by decide) ?_
    exact J504 _ _ _ _ _ _ _ _ hf hH (lv_sub hl [] rfl)
  have J483 : ∀ (x16 : Int32) (s0 : Int32) (s1 : Int32) (s2 : Int32) (t : Mem) (u : Mem) (hh : Mem) (S : Nat → Mem) (H : Heap) (locs : List Loc) (ls : Array Slot), pL_acts_483 x16 s0 s1 s2 t u hh S = some (r, (t9, u9, h9, S9)) → HS D A s (gW a b h f ca t u hh S wr) H locs → lv_has ls 26 [(0, .ref (h 2)), (16, .int x16)] → W p l e rmL_acts s m args below meth c H locs 0 0 Q (F0 m 483 ls [.int s2, .int s1, .int s0]) := by
    intro x16 s0 s1 s2 t u hh S H locs ls hf hH hl
    unfold pL_acts_483 at hf
    refine lv_iadd hx hb dL_acts_483 ?_
    refine lv_icmp_ne (tgt := 503) hx hb dL_acts_484 (by decide) (fun c2001 => ?_) (fun c2001 => ?_)
    · rw [if_neg c2001] at hf
      exact J503 _ _ _ _ _ _ _ hf hH (lv_sub hl [] rfl)
    · rw [if_pos c2001] at hf
      refine lv_iload hx hb dL_acts_487 (lv_at hl 1 rfl) ?_
      refine lv_if_eq (tgt := 499) hx hb dL_acts_489 (by decide) (fun c2002 => ?_) (fun c2002 => ?_)
      · rw [if_pos c2002] at hf
        exact J499 _ _ _ _ _ _ _ hf hH (lv_sub hl [] rfl)
      · rw [if_neg c2002] at hf
        refine lv_aload_n hx hb dL_acts_492 rfl (lv_at hl 0 rfl) ?_
        obtain ⟨y2003, h_y2003, hf⟩ := bnd hf
        refine cl_iV C0 hH hl.1 (As := []) (rest := []) (mX4_used l D ca a b h f wr t u hh S h_y2003) gL_acts_X4_used rfl rfl rfl hd_X4_used ⟨Nat.le_of_ble_eq_true rfl, Nat.le_of_ble_eq_true rfl⟩ ⟨Nat.zero_le _, Nat.zero_le _⟩ (vG_X4 C0 hH) rfl (Nat.le_of_ble_eq_true rfl) dL_acts_493 (fun H locs hH => ?_)
        refine lv_if_ne (tgt := 503) hx hb dL_acts_496 (by decide) (fun c2004 => ?_) (fun c2004 => ?_)
        · rw [if_neg c2004] at hf
          exact J503 _ _ _ _ _ _ _ hf hH (lv_sub hl [] rfl)
        · rw [if_pos c2004] at hf
          exact J499 _ _ _ _ _ _ _ hf hH (lv_sub hl [] rfl)
  have J464 : ∀ (x14 : Int32) (x15 : Int32) (x16 : Int32) (t : Mem) (u : Mem) (hh : Mem) (S : Nat → Mem) (H : Heap) (locs : List Loc) (ls : Array Slot), pL_acts_464 x14 x15 x16 t u hh S = some (r, (t9, u9, h9, S9)) → HS D A s (gW a b h f ca t u hh S wr) H locs → lv_has ls 26 [(0, .ref (h 2)), (14, .int x14), (15, .int x15), (16, .int x16)] → W p l e rmL_acts s m args below meth c H locs 0 0 Q (F0 m 464 ls []) := by
    intro x14 x15 x16 t u hh S H locs ls hf hH hl
    unfold pL_acts_464 at hf
    refine lv_aload_n hx hb dL_acts_464 rfl (lv_at hl 0 rfl) ?_
    refine lv_bipush (v := 6) hx hb dL_acts_465 (by decide) ?_
    obtain ⟨y1901, h_y1901, hf⟩ := bnd hf
    refine cl_iV C0 hH hl.1 (As := [.int 6]) (rest := []) (mX4_count l D ca a b h f wr t u hh S 6 h_y1901) gL_acts_X4_count rfl rfl rfl hd_X4_count ⟨Nat.le_of_ble_eq_true rfl, Nat.le_of_ble_eq_true rfl⟩ ⟨Nat.zero_le _, Nat.zero_le _⟩ (vG_X4 C0 hH) rfl (Nat.le_of_ble_eq_true rfl) dL_acts_467 (fun H locs hH => ?_)
    refine lv_iload hx hb dL_acts_470 (lv_at hl 1 rfl) ?_
    refine lv_iload hx hb dL_acts_472 (lv_at hl 3 rfl) ?_
    refine lv_if_eq (tgt := 482) hx hb dL_acts_474 (by decide) (fun c1902 => ?_) (fun c1902 => ?_)
    · rw [if_pos c1902] at hf
      refine lv_iconst (v := 0) hx hb dL_acts_482 (by decide) ?_
      exact J483 _ _ _ _ _ _ _ _ _ _ _ hf hH (lv_sub hl [0, 3] rfl)
    · rw [if_neg c1902] at hf
      refine lv_iload hx hb dL_acts_477 (lv_at hl 2 rfl) ?_
      refine lv_goto (tgt := 483) hx hb dL_acts_479 (by decide) ?_
      exact J483 _ _ _ _ _ _ _ _ _ _ _ hf hH (lv_sub hl [0, 3] rfl)
  have J461 : ∀ (x14 : Int32) (x15 : Int32) (x16 : Int32) (s0 : Int32) (s1 : Int32) (t : Mem) (u : Mem) (hh : Mem) (S : Nat → Mem) (H : Heap) (locs : List Loc) (ls : Array Slot), pL_acts_461 x14 x15 x16 s0 s1 t u hh S = some (r, (t9, u9, h9, S9)) → HS D A s (gW a b h f ca t u hh S wr) H locs → lv_has ls 26 [(0, .ref (h 2)), (14, .int x14), (15, .int x15), (16, .int x16)] → W p l e rmL_acts s m args below meth c H locs 0 0 Q (F0 m 461 ls [.int s1, .int s0]) := by
    intro x14 x15 x16 s0 s1 t u hh S H locs ls hf hH hl
    unfold pL_acts_461 at hf
    refine lv_icmp_ne (tgt := 503) hx hb dL_acts_461 (by decide) (fun c1801 => ?_) (fun c1801 => ?_)
    · rw [if_neg c1801] at hf
      exact J503 _ _ _ _ _ _ _ hf hH (lv_sub hl [] rfl)
    · rw [if_pos c1801] at hf
      exact J464 _ _ _ _ _ _ _ _ _ _ hf hH (lv_sub hl [0, 1, 2, 3] rfl)
  have J381 : ∀ (x4 : Int32) (x5 : Int32) (x12 : Int32) (x13 : Int32) (x14 : Int32) (x15 : Int32) (s0 : Int32) (t : Mem) (u : Mem) (hh : Mem) (S : Nat → Mem) (H : Heap) (locs : List Loc) (ls : Array Slot), pL_acts_381 x4 x5 x12 x13 x14 x15 s0 t u hh S = some (r, (t9, u9, h9, S9)) → HS D A s (gW a b h f ca t u hh S wr) H locs → lv_has ls 26 [(0, .ref (h 2)), (4, .int x4), (5, .int x5), (12, .int x12), (13, .int x13), (14, .int x14), (15, .int x15)] → W p l e rmL_acts s m args below meth c H locs 0 0 Q (F0 m 381 ls [.int s0]) := by
    intro x4 x5 x12 x13 x14 x15 s0 t u hh S H locs ls hf hH hl
    unfold pL_acts_381 at hf
    refine lv_istore (lv' := [(16, .int s0), (0, .ref (h 2)), (4, .int x4), (5, .int x5), (12, .int x12), (13, .int x13), (14, .int x14), (15, .int x15)]) hx hb dL_acts_381 hl (by decide) rfl (fun ls hl => ?_)
    refine lv_aload_n hx hb dL_acts_383 rfl (lv_at hl 1 rfl) ?_
    refine lv_iload hx hb dL_acts_384 (lv_at hl 5 rfl) ?_
    obtain ⟨y1701, t1702, u1703, h1704, S1705, h_y1701, hf⟩ := bndG hf
    refine cl_iV C0 hH hl.1 (As := [.int x13]) (rest := []) (mX4_pass l D ca a b h f wr t u hh S x13 h_y1701) gL_acts_X4_pass rfl rfl rfl hd_X4_pass ⟨Nat.le_of_ble_eq_true rfl, Nat.le_of_ble_eq_true rfl⟩ ⟨Nat.zero_le _, Nat.zero_le _⟩ (vG_X4 C0 hH) rfl (Nat.le_of_ble_eq_true rfl) dL_acts_386 (fun H locs hH => ?_)
    refine lv_istore (lv' := [(17, .int y1701), (16, .int s0), (0, .ref (h 2)), (4, .int x4), (5, .int x5), (12, .int x12), (13, .int x13), (14, .int x14), (15, .int x15)]) hx hb dL_acts_389 hl (by decide) rfl (fun ls hl => ?_)
    refine lv_aload_n hx hb dL_acts_391 rfl (lv_at hl 2 rfl) ?_
    refine lv_iconst (v := 0) hx hb dL_acts_392 (by decide) ?_
    obtain ⟨y1706, h_y1706, hf⟩ := bnd hf
    refine cl_iV C0 hH hl.1 (As := [.int 0]) (rest := []) (mX4_count l D ca a b h f wr t1702 u1703 h1704 S1705 0 h_y1706) gL_acts_X4_count rfl rfl rfl hd_X4_count ⟨Nat.le_of_ble_eq_true rfl, Nat.le_of_ble_eq_true rfl⟩ ⟨Nat.zero_le _, Nat.zero_le _⟩ (vG_X4 C0 hH) rfl (Nat.le_of_ble_eq_true rfl) dL_acts_393 (fun H locs hH => ?_)
    refine lv_aload_n hx hb dL_acts_396 rfl (lv_at hl 2 rfl) ?_
    refine lv_iconst (v := 1) hx hb dL_acts_397 (by decide) ?_
    obtain ⟨y1707, h_y1707, hf⟩ := bnd hf
    refine cl_iV C0 hH hl.1 (As := [.int 1]) (rest := [.int y1706]) (mX4_count l D ca a b h f wr t1702 u1703 h1704 S1705 1 h_y1707) gL_acts_X4_count rfl rfl rfl hd_X4_count ⟨Nat.le_of_ble_eq_true rfl, Nat.le_of_ble_eq_true rfl⟩ ⟨Nat.zero_le _, Nat.zero_le _⟩ (vG_X4 C0 hH) rfl (Nat.le_of_ble_eq_true rfl) dL_acts_398 (fun H locs hH => ?_)
    refine lv_iadd hx hb dL_acts_401 ?_
    refine lv_iload hx hb dL_acts_402 (lv_at hl 4 rfl) ?_
    refine lv_icmp_ne (tgt := 503) hx hb dL_acts_404 (by decide) (fun c1708 => ?_) (fun c1708 => ?_)
    · rw [if_neg c1708] at hf
      exact J503 _ _ _ _ _ _ _ hf hH (lv_sub hl [] rfl)
    · rw [if_pos c1708] at hf
      refine lv_iload hx hb dL_acts_407 (lv_at hl 0 rfl) ?_
      refine lv_aload_n hx hb dL_acts_409 rfl (lv_at hl 2 rfl) ?_
      obtain ⟨y1709, h_y1709, hf⟩ := bnd hf
      refine cl_iV C0 hH hl.1 (As := []) (rest := [.int y1701]) (mX4_charge l D ca a b h f wr t1702 u1703 h1704 S1705 h_y1709) gL_acts_X4_charge rfl rfl rfl hd_X4_charge ⟨Nat.le_of_ble_eq_true rfl, Nat.le_of_ble_eq_true rfl⟩ ⟨Nat.zero_le _, Nat.zero_le _⟩ (vG_X4 C0 hH) rfl (Nat.le_of_ble_eq_true rfl) dL_acts_410 (fun H locs hH => ?_)
      refine lv_icmp_ne (tgt := 503) hx hb dL_acts_413 (by decide) (fun c1710 => ?_) (fun c1710 => ?_)
      · rw [if_neg c1710] at hf
        exact J503 _ _ _ _ _ _ _ hf hH (lv_sub hl [] rfl)
      · rw [if_pos c1710] at hf
        refine lv_iload hx hb dL_acts_416 (lv_at hl 3 rfl) ?_
        refine lv_if_eq (tgt := 443) hx hb dL_acts_418 (by decide) (fun c1711 => ?_) (fun c1711 => ?_)
        · rw [if_pos c1711] at hf
          refine lv_iload hx hb dL_acts_443 (lv_at hl 0 rfl) ?_
          refine lv_iload hx hb dL_acts_445 (lv_at hl 5 rfl) ?_
          refine lv_iload hx hb dL_acts_447 (lv_at hl 6 rfl) ?_
          refine lv_icmp_le (tgt := 460) hx hb dL_acts_449 (by decide) (fun c1712 => ?_) (fun c1712 => ?_)
          · rw [if_pos c1712] at hf
            refine lv_iconst (v := 0) hx hb dL_acts_460 (by decide) ?_
            exact J461 _ _ _ _ _ _ _ _ _ _ _ _ hf hH (lv_sub hl [2, 7, 8, 1] rfl)
          · rw [if_neg c1712] at hf
            refine lv_iload hx hb dL_acts_452 (lv_at hl 5 rfl) ?_
            refine lv_iload hx hb dL_acts_454 (lv_at hl 6 rfl) ?_
            refine lv_isub hx hb dL_acts_456 ?_
            refine lv_goto (tgt := 461) hx hb dL_acts_457 (by decide) ?_
            exact J461 _ _ _ _ _ _ _ _ _ _ _ _ hf hH (lv_sub hl [2, 7, 8, 1] rfl)
        · rw [if_neg c1711] at hf
          refine lv_iload hx hb dL_acts_421 (lv_at hl 0 rfl) ?_
          refine lv_iload hx hb dL_acts_423 (lv_at hl 5 rfl) ?_
          refine lv_icmp_lt (tgt := 503) hx hb dL_acts_425 (by decide) (fun c1713 => ?_) (fun c1713 => ?_)
          · rw [if_pos c1713] at hf
            exact J503 _ _ _ _ _ _ _ hf hH (lv_sub hl [] rfl)
          · rw [if_neg c1713] at hf
            refine lv_iload hx hb dL_acts_428 (lv_at hl 0 rfl) ?_
            refine lv_iload hx hb dL_acts_430 (lv_at hl 5 rfl) ?_
            refine lv_iconst (v := 2) hx hb dL_acts_432 (by decide) ?_
            refine lv_iload hx hb dL_acts_433 (lv_at hl 6 rfl) ?_
            refine lv_imul hx hb dL_acts_435 ?_
            refine lv_iadd hx hb dL_acts_436 ?_
            refine lv_icmp_gt (tgt := 503) hx hb dL_acts_437 (by decide) (fun c1714 => ?_) (fun c1714 => ?_)
            · rw [if_pos c1714] at hf
              exact J503 _ _ _ _ _ _ _ hf hH (lv_sub hl [] rfl)
            · rw [if_neg c1714] at hf
              refine lv_goto (tgt := 464) hx hb dL_acts_440 (by decide) ?_
              exact J464 _ _ _ _ _ _ _ _ _ _ hf hH (lv_sub hl [2, 7, 8, 1] rfl)
  have J380 : ∀ (x4 : Int32) (x5 : Int32) (x12 : Int32) (x13 : Int32) (x14 : Int32) (x15 : Int32) (t : Mem) (u : Mem) (hh : Mem) (S : Nat → Mem) (H : Heap) (locs : List Loc) (ls : Array Slot), pL_acts_380 x4 x5 x12 x13 x14 x15 t u hh S = some (r, (t9, u9, h9, S9)) → HS D A s (gW a b h f ca t u hh S wr) H locs → lv_has ls 26 [(0, .ref (h 2)), (4, .int x4), (5, .int x5), (12, .int x12), (13, .int x13), (14, .int x14), (15, .int x15)] → W p l e rmL_acts s m args below meth c H locs 0 0 Q (F0 m 380 ls []) := by
    intro x4 x5 x12 x13 x14 x15 t u hh S H locs ls hf hH hl
    unfold pL_acts_380 at hf
    refine lv_iconst (v := 0) hx hb dL_acts_380 (by decide) ?_
    exact J381 _ _ _ _ _ _ _ _ _ _ _ _ _ _ hf hH (lv_sub hl [0, 1, 2, 3, 4, 5, 6] rfl)
  have J339 : ∀ (x4 : Int32) (x5 : Int32) (x12 : Int32) (s0 : Int32) (s1 : Int32) (s2 : Int32) (t : Mem) (u : Mem) (hh : Mem) (S : Nat → Mem) (H : Heap) (locs : List Loc) (ls : Array Slot), pL_acts_339 x4 x5 x12 s0 s1 s2 t u hh S = some (r, (t9, u9, h9, S9)) → HS D A s (gW a b h f ca t u hh S wr) H locs → lv_has ls 26 [(0, .ref (h 2)), (4, .int x4), (5, .int x5), (12, .int x12)] → W p l e rmL_acts s m args below meth c H locs 0 0 Q (F0 m 339 ls [.int s2, .int s1, .int s0]) := by
    intro x4 x5 x12 s0 s1 s2 t u hh S H locs ls hf hH hl
    unfold pL_acts_339 at hf
    obtain ⟨y1501, h_y1501, hf⟩ := bnd hf
    refine cl_iS C0 hH hl.1 (As := [.int s1, .int s2]) (rest := [.int s0]) (mL_up l D ca _ s1 s2 h_y1501) gL_acts_L_up rfl rfl rfl hd_L_up ⟨Nat.le_of_ble_eq_true rfl, Nat.le_of_ble_eq_true rfl⟩ ⟨Nat.zero_le _, Nat.zero_le _⟩ rfl (Nat.le_of_ble_eq_true rfl) dL_acts_339 (fun H locs hH => ?_)
    refine lv_iadd hx hb dL_acts_342 ?_
    refine lv_istore (lv' := [(13, .int (s0 + y1501)), (0, .ref (h 2)), (4, .int x4), (5, .int x5), (12, .int x12)]) hx hb dL_acts_343 hl (by decide) rfl (fun ls hl => ?_)
    refine lv_aload_n hx hb dL_acts_345 rfl (lv_at hl 1 rfl) ?_
    refine lv_bipush (v := 6) hx hb dL_acts_346 (by decide) ?_
    obtain ⟨y1502, h_y1502, hf⟩ := bnd hf
    refine cl_iV C0 hH hl.1 (As := [.int 6]) (rest := []) (mX4_count l D ca a b h f wr t u hh S 6 h_y1502) gL_acts_X4_count rfl rfl rfl hd_X4_count ⟨Nat.le_of_ble_eq_true rfl, Nat.le_of_ble_eq_true rfl⟩ ⟨Nat.zero_le _, Nat.zero_le _⟩ (vG_X4 C0 hH) rfl (Nat.le_of_ble_eq_true rfl) dL_acts_348 (fun H locs hH => ?_)
    refine lv_istore (lv' := [(14, .int y1502), (13, .int (s0 + y1501)), (0, .ref (h 2)), (4, .int x4), (5, .int x5), (12, .int x12)]) hx hb dL_acts_351 hl (by decide) rfl (fun ls hl => ?_)
    refine lv_aload_n hx hb dL_acts_353 rfl (lv_at hl 2 rfl) ?_
    obtain ⟨y1503, h_y1503, hf⟩ := bnd hf
    refine cl_iV C0 hH hl.1 (As := []) (rest := []) (mX4_dirty l D ca a b h f wr t u hh S h_y1503) gL_acts_X4_dirty rfl rfl rfl hd_X4_dirty ⟨Nat.le_of_ble_eq_true rfl, Nat.le_of_ble_eq_true rfl⟩ ⟨Nat.zero_le _, Nat.zero_le _⟩ (vG_X4 C0 hH) rfl (Nat.le_of_ble_eq_true rfl) dL_acts_354 (fun H locs hH => ?_)
    refine lv_istore (lv' := [(15, .int y1503), (14, .int y1502), (13, .int (s0 + y1501)), (0, .ref (h 2)), (4, .int x4), (5, .int x5), (12, .int x12)]) hx hb dL_acts_357 hl (by decide) rfl (fun ls hl => ?_)
    refine lv_iload hx hb dL_acts_359 (lv_at hl 4 rfl) ?_
    refine lv_if_ne (tgt := 380) hx hb dL_acts_361 (by decide) (fun c1504 => ?_) (fun c1504 => ?_)
    · rw [if_neg c1504] at hf
      exact J380 _ _ _ _ _ _ _ _ _ _ _ _ _ hf hH (lv_sub hl [3, 4, 5, 6, 2, 1, 0] rfl)
    · rw [if_pos c1504] at hf
      refine lv_iload hx hb dL_acts_364 (lv_at hl 6 rfl) ?_
      refine lv_if_le (tgt := 380) hx hb dL_acts_366 (by decide) (fun c1505 => ?_) (fun c1505 => ?_)
      · rw [if_pos c1505] at hf
        exact J380 _ _ _ _ _ _ _ _ _ _ _ _ _ hf hH (lv_sub hl [3, 4, 5, 6, 2, 1, 0] rfl)
      · rw [if_neg c1505] at hf
        refine lv_iload hx hb dL_acts_369 (lv_at hl 2 rfl) ?_
        refine lv_iload hx hb dL_acts_371 (lv_at hl 6 rfl) ?_
        refine lv_icmp_lt (tgt := 380) hx hb dL_acts_373 (by decide) (fun c1506 => ?_) (fun c1506 => ?_)
        · rw [if_pos c1506] at hf
          exact J380 _ _ _ _ _ _ _ _ _ _ _ _ _ hf hH (lv_sub hl [3, 4, 5, 6, 2, 1, 0] rfl)
        · rw [if_neg c1506] at hf
          refine lv_iconst (v := 1) hx hb dL_acts_376 (by decide) ?_
          refine lv_goto (tgt := 381) hx hb dL_acts_377 (by decide) ?_
          exact J381 _ _ _ _ _ _ _ _ _ _ _ _ _ _ hf hH (lv_sub hl [3, 4, 5, 6, 2, 1, 0] rfl)
  have J549 : ∀ (s0 : Int32) (t : Mem) (u : Mem) (hh : Mem) (S : Nat → Mem) (H : Heap) (locs : List Loc) (ls : Array Slot), pL_acts_549 s0 t u hh S = some (r, (t9, u9, h9, S9)) → HS D A s (gW a b h f ca t u hh S wr) H locs → lv_has ls 26 [] → W p l e rmL_acts s m args below meth c H locs 0 0 Q (F0 m 549 ls [.int s0]) := by
    intro s0 t u hh S H locs ls hf hH hl
    unfold pL_acts_549 at hf
    obtain ⟨hz, hf⟩ := gd hf
    cases hf
    exact hend _ _ _ _ hH (isz_n hz) dL_acts_549
  have J541 : ∀ (s0 : Int32) (s1 : Int32) (t : Mem) (u : Mem) (hh : Mem) (S : Nat → Mem) (H : Heap) (locs : List Loc) (ls : Array Slot), pL_acts_541 s0 s1 t u hh S = some (r, (t9, u9, h9, S9)) → HS D A s (gW a b h f ca t u hh S wr) H locs → lv_has ls 26 [] → W p l e rmL_acts s m args below meth c H locs 0 0 Q (F0 m 541 ls [.int s1, .int s0]) := by
    intro s0 s1 t u hh S H locs ls hf hH hl
    unfold pL_acts_541 at hf
    refine lv_icmp_ne (tgt := 548) hx hb dL_acts_541 (by decide) (fun c2401 => ?_) (fun c2401 => ?_)
    · rw [if_neg c2401] at hf
      refine lv_iconst (v := 0) hx hb dL_acts_548 (by decide) ?_
      exact J549 _ _ _ _ _ _ _ _ hf hH (lv_sub hl [] rfl)
    · rw [if_pos c2401] at hf
      refine lv_iconst (v := 1) hx hb dL_acts_544 (by decide) ?_
      refine lv_goto (tgt := 549) hx hb dL_acts_545 (by decide) ?_
      exact J549 _ _ _ _ _ _ _ _ hf hH (lv_sub hl [] rfl)
  have J576 : ∀ (s0 : Int32) (t : Mem) (u : Mem) (hh : Mem) (S : Nat → Mem) (H : Heap) (locs : List Loc) (ls : Array Slot), pL_acts_576 s0 t u hh S = some (r, (t9, u9, h9, S9)) → HS D A s (gW a b h f ca t u hh S wr) H locs → lv_has ls 26 [] → W p l e rmL_acts s m args below meth c H locs 0 0 Q (F0 m 576 ls [.int s0]) := by
    intro s0 t u hh S H locs ls hf hH hl
    unfold pL_acts_576 at hf
    obtain ⟨hz, hf⟩ := gd hf
    cases hf
    exact hend _ _ _ _ hH (isz_n hz) dL_acts_576
  have J575 : ∀ (t : Mem) (u : Mem) (hh : Mem) (S : Nat → Mem) (H : Heap) (locs : List Loc) (ls : Array Slot), pL_acts_575 t u hh S = some (r, (t9, u9, h9, S9)) → HS D A s (gW a b h f ca t u hh S wr) H locs → lv_has ls 26 [] → W p l e rmL_acts s m args below meth c H locs 0 0 Q (F0 m 575 ls []) := by
    intro t u hh S H locs ls hf hH hl
    unfold pL_acts_575 at hf
    refine lv_iconst (v := 0) hx hb dL_acts_575 (by decide) ?_
    exact J576 _ _ _ _ _ _ _ _ hf hH (lv_sub hl [] rfl)
  have J629 : ∀ (s0 : Int32) (t : Mem) (u : Mem) (hh : Mem) (S : Nat → Mem) (H : Heap) (locs : List Loc) (ls : Array Slot), pL_acts_629 s0 t u hh S = some (r, (t9, u9, h9, S9)) → HS D A s (gW a b h f ca t u hh S wr) H locs → lv_has ls 26 [] → W p l e rmL_acts s m args below meth c H locs 0 0 Q (F0 m 629 ls [.int s0]) := by
    intro s0 t u hh S H locs ls hf hH hl
    unfold pL_acts_629 at hf
    obtain ⟨hz, hf⟩ := gd hf
    cases hf
    exact hend _ _ _ _ hH (isz_n hz) dL_acts_629
  have J628 : ∀ (t : Mem) (u : Mem) (hh : Mem) (S : Nat → Mem) (H : Heap) (locs : List Loc) (ls : Array Slot), pL_acts_628 t u hh S = some (r, (t9, u9, h9, S9)) → HS D A s (gW a b h f ca t u hh S wr) H locs → lv_has ls 26 [] → W p l e rmL_acts s m args below meth c H locs 0 0 Q (F0 m 628 ls []) := by
    intro t u hh S H locs ls hf hH hl
    unfold pL_acts_628 at hf
    refine lv_iconst (v := 0) hx hb dL_acts_628 (by decide) ?_
    exact J629 _ _ _ _ _ _ _ _ hf hH (lv_sub hl [] rfl)
  have J689 : ∀ (s0 : Int32) (t : Mem) (u : Mem) (hh : Mem) (S : Nat → Mem) (H : Heap) (locs : List Loc) (ls : Array Slot), pL_acts_689 s0 t u hh S = some (r, (t9, u9, h9, S9)) → HS D A s (gW a b h f ca t u hh S wr) H locs → lv_has ls 26 [] → W p l e rmL_acts s m args below meth c H locs 0 0 Q (F0 m 689 ls [.int s0]) := by
    intro s0 t u hh S H locs ls hf hH hl
    unfold pL_acts_689 at hf
    obtain ⟨hz, hf⟩ := gd hf
    cases hf
    exact hend _ _ _ _ hH (isz_n hz) dL_acts_689
  have J672 : ∀ (t : Mem) (u : Mem) (hh : Mem) (S : Nat → Mem) (H : Heap) (locs : List Loc) (ls : Array Slot), pL_acts_672 t u hh S = some (r, (t9, u9, h9, S9)) → HS D A s (gW a b h f ca t u hh S wr) H locs → lv_has ls 26 [] → W p l e rmL_acts s m args below meth c H locs 0 0 Q (F0 m 672 ls []) := by
    intro t u hh S H locs ls hf hH hl
    unfold pL_acts_672 at hf
    refine lv_iconst (v := 0) hx hb dL_acts_672 (by decide) ?_
    refine lv_goto (tgt := 689) hx hb dL_acts_673 (by decide) ?_
    exact J689 _ _ _ _ _ _ _ _ hf hH (lv_sub hl [] rfl)
  have J801 : ∀ (s0 : Int32) (t : Mem) (u : Mem) (hh : Mem) (S : Nat → Mem) (H : Heap) (locs : List Loc) (ls : Array Slot), pL_acts_801 s0 t u hh S = some (r, (t9, u9, h9, S9)) → HS D A s (gW a b h f ca t u hh S wr) H locs → lv_has ls 26 [] → W p l e rmL_acts s m args below meth c H locs 0 0 Q (F0 m 801 ls [.int s0]) := by
    intro s0 t u hh S H locs ls hf hH hl
    unfold pL_acts_801 at hf
    obtain ⟨hz, hf⟩ := gd hf
    cases hf
    exact hend _ _ _ _ hH (isz_n hz) dL_acts_801
  have J784 : ∀ (t : Mem) (u : Mem) (hh : Mem) (S : Nat → Mem) (H : Heap) (locs : List Loc) (ls : Array Slot), pL_acts_784 t u hh S = some (r, (t9, u9, h9, S9)) → HS D A s (gW a b h f ca t u hh S wr) H locs → lv_has ls 26 [] → W p l e rmL_acts s m args below meth c H locs 0 0 Q (F0 m 784 ls []) := by
    intro t u hh S H locs ls hf hH hl
    unfold pL_acts_784 at hf
    refine lv_iconst (v := 0) hx hb dL_acts_784 (by decide) ?_
    refine lv_goto (tgt := 801) hx hb dL_acts_785 (by decide) ?_
    exact J801 _ _ _ _ _ _ _ _ hf hH (lv_sub hl [] rfl)
  have J776 : ∀ (s0 : Int32) (s1 : Int32) (s2 : Int32) (t : Mem) (u : Mem) (hh : Mem) (S : Nat → Mem) (H : Heap) (locs : List Loc) (ls : Array Slot), pL_acts_776 s0 s1 s2 t u hh S = some (r, (t9, u9, h9, S9)) → HS D A s (gW a b h f ca t u hh S wr) H locs → lv_has ls 26 [] → W p l e rmL_acts s m args below meth c H locs 0 0 Q (F0 m 776 ls [.int s2, .int s1, .int s0]) := by
    intro s0 s1 s2 t u hh S H locs ls hf hH hl
    unfold pL_acts_776 at hf
    refine lv_iadd hx hb dL_acts_776 ?_
    refine lv_icmp_ne (tgt := 784) hx hb dL_acts_777 (by decide) (fun c3401 => ?_) (fun c3401 => ?_)
    · rw [if_neg c3401] at hf
      exact J784 _ _ _ _ _ _ _ hf hH (lv_sub hl [] rfl)
    · rw [if_pos c3401] at hf
      refine lv_iconst (v := 1) hx hb dL_acts_780 (by decide) ?_
      refine lv_goto (tgt := 801) hx hb dL_acts_781 (by decide) ?_
      exact J801 _ _ _ _ _ _ _ _ hf hH (lv_sub hl [] rfl)
  have J734 : ∀ (x3 : Int32) (x5 : Int32) (x24 : Int32) (s0 : Int32) (t : Mem) (u : Mem) (hh : Mem) (S : Nat → Mem) (H : Heap) (locs : List Loc) (ls : Array Slot), pL_acts_734 x3 x5 x24 s0 t u hh S = some (r, (t9, u9, h9, S9)) → HS D A s (gW a b h f ca t u hh S wr) H locs → lv_has ls 26 [(0, .ref (h 2)), (3, .int x3), (5, .int x5), (24, .int x24)] → W p l e rmL_acts s m args below meth c H locs 0 0 Q (F0 m 734 ls [.int s0]) := by
    intro x3 x5 x24 s0 t u hh S H locs ls hf hH hl
    unfold pL_acts_734 at hf
    refine lv_istore (lv' := [(25, .int s0), (0, .ref (h 2)), (3, .int x3), (5, .int x5), (24, .int x24)]) hx hb dL_acts_734 hl (by decide) rfl (fun ls hl => ?_)
    refine lv_aload_n hx hb dL_acts_736 rfl (lv_at hl 1 rfl) ?_
    obtain ⟨y3301, h_y3301, hf⟩ := bnd hf
    refine cl_iV C0 hH hl.1 (As := []) (rest := []) (mX4_isOn l D ca a b h f wr t u hh S h_y3301) gL_acts_X4_isOn rfl rfl rfl hd_X4_isOn ⟨Nat.le_of_ble_eq_true rfl, Nat.le_of_ble_eq_true rfl⟩ ⟨Nat.zero_le _, Nat.zero_le _⟩ (vG_X4 C0 hH) rfl (Nat.le_of_ble_eq_true rfl) dL_acts_737 (fun H locs hH => ?_)
    refine lv_if_eq (tgt := 788) hx hb dL_acts_740 (by decide) (fun c3302 => ?_) (fun c3302 => ?_)
    · rw [if_pos c3302] at hf
      refine lv_aload_n hx hb dL_acts_788 rfl (lv_at hl 1 rfl) ?_
      refine lv_iconst (v := 1) hx hb dL_acts_789 (by decide) ?_
      obtain ⟨y3303, t3304, u3305, h3306, S3307, h_y3303, hf⟩ := bndG hf
      refine cl_iV C0 hH hl.1 (As := [.int 1]) (rest := []) (mX4_power l D ca a b h f wr t u hh S 1 h_y3303) gL_acts_X4_power rfl rfl rfl hd_X4_power ⟨Nat.le_of_ble_eq_true rfl, Nat.le_of_ble_eq_true rfl⟩ ⟨Nat.zero_le _, Nat.zero_le _⟩ (vG_X4 C0 hH) rfl (Nat.le_of_ble_eq_true rfl) dL_acts_790 (fun H locs hH => ?_)
      refine lv_if_lt (tgt := 800) hx hb dL_acts_793 (by decide) (fun c3308 => ?_) (fun c3308 => ?_)
      · rw [if_pos c3308] at hf
        refine lv_iconst (v := 0) hx hb dL_acts_800 (by decide) ?_
        exact J801 _ _ _ _ _ _ _ _ hf hH (lv_sub hl [] rfl)
      · rw [if_neg c3308] at hf
        refine lv_iconst (v := 1) hx hb dL_acts_796 (by decide) ?_
        refine lv_goto (tgt := 801) hx hb dL_acts_797 (by decide) ?_
        exact J801 _ _ _ _ _ _ _ _ hf hH (lv_sub hl [] rfl)
    · rw [if_neg c3302] at hf
      refine lv_aload_n hx hb dL_acts_743 rfl (lv_at hl 1 rfl) ?_
      refine lv_iload_n hx hb dL_acts_744 rfl (lv_at hl 2 rfl) ?_
      obtain ⟨y3309, t3310, u3311, h3312, S3313, h_y3309, hf⟩ := bndG hf
      refine cl_iV C0 hH hl.1 (As := [.int x3]) (rest := []) (mX4_read l D ca a b h f wr t u hh S x3 h_y3309) gL_acts_X4_read rfl rfl rfl hd_X4_read ⟨Nat.le_of_ble_eq_true rfl, Nat.le_of_ble_eq_true rfl⟩ ⟨Nat.zero_le _, Nat.zero_le _⟩ (vG_X4 C0 hH) rfl (Nat.le_of_ble_eq_true rfl) dL_acts_745 (fun H locs hH => ?_)
      refine lv_iload hx hb dL_acts_748 (lv_at hl 0 rfl) ?_
      refine lv_icmp_ne (tgt := 784) hx hb dL_acts_750 (by decide) (fun c3314 => ?_) (fun c3314 => ?_)
      · rw [if_neg c3314] at hf
        exact J784 _ _ _ _ _ _ _ hf hH (lv_sub hl [] rfl)
      · rw [if_pos c3314] at hf
        refine lv_aload_n hx hb dL_acts_753 rfl (lv_at hl 1 rfl) ?_
        refine lv_iconst (v := 0) hx hb dL_acts_754 (by decide) ?_
        obtain ⟨y3315, h_y3315, hf⟩ := bnd hf
        refine cl_iV C0 hH hl.1 (As := [.int 0]) (rest := []) (mX4_count l D ca a b h f wr t3310 u3311 h3312 S3313 0 h_y3315) gL_acts_X4_count rfl rfl rfl hd_X4_count ⟨Nat.le_of_ble_eq_true rfl, Nat.le_of_ble_eq_true rfl⟩ ⟨Nat.zero_le _, Nat.zero_le _⟩ (vG_X4 C0 hH) rfl (Nat.le_of_ble_eq_true rfl) dL_acts_755 (fun H locs hH => ?_)
        refine lv_aload_n hx hb dL_acts_758 rfl (lv_at hl 1 rfl) ?_
        refine lv_iconst (v := 1) hx hb dL_acts_759 (by decide) ?_
        obtain ⟨y3316, h_y3316, hf⟩ := bnd hf
        refine cl_iV C0 hH hl.1 (As := [.int 1]) (rest := [.int y3315]) (mX4_count l D ca a b h f wr t3310 u3311 h3312 S3313 1 h_y3316) gL_acts_X4_count rfl rfl rfl hd_X4_count ⟨Nat.le_of_ble_eq_true rfl, Nat.le_of_ble_eq_true rfl⟩ ⟨Nat.zero_le _, Nat.zero_le _⟩ (vG_X4 C0 hH) rfl (Nat.le_of_ble_eq_true rfl) dL_acts_760 (fun H locs hH => ?_)
        refine lv_iadd hx hb dL_acts_763 ?_
        refine lv_iload hx hb dL_acts_764 (lv_at hl 3 rfl) ?_
        refine lv_iload hx hb dL_acts_766 (lv_at hl 4 rfl) ?_
        refine lv_if_lt (tgt := 775) hx hb dL_acts_768 (by decide) (fun c3317 => ?_) (fun c3317 => ?_)
        · rw [if_pos c3317] at hf
          refine lv_iconst (v := 1) hx hb dL_acts_775 (by decide) ?_
          exact J776 _ _ _ _ _ _ _ _ _ _ hf hH (lv_sub hl [] rfl)
        · rw [if_neg c3317] at hf
          refine lv_iconst (v := 0) hx hb dL_acts_771 (by decide) ?_
          refine lv_goto (tgt := 776) hx hb dL_acts_772 (by decide) ?_
          exact J776 _ _ _ _ _ _ _ _ _ _ hf hH (lv_sub hl [] rfl)
  have J706 : ∀ (x3 : Int32) (x5 : Int32) (s0 : Int32) (t : Mem) (u : Mem) (hh : Mem) (S : Nat → Mem) (H : Heap) (locs : List Loc) (ls : Array Slot), pL_acts_706 x3 x5 s0 t u hh S = some (r, (t9, u9, h9, S9)) → HS D A s (gW a b h f ca t u hh S wr) H locs → lv_has ls 26 [(0, .ref (h 2)), (3, .int x3), (5, .int x5)] → W p l e rmL_acts s m args below meth c H locs 0 0 Q (F0 m 706 ls [.int s0]) := by
    intro x3 x5 s0 t u hh S H locs ls hf hH hl
    unfold pL_acts_706 at hf
    refine lv_istore (lv' := [(24, .int s0), (0, .ref (h 2)), (3, .int x3), (5, .int x5)]) hx hb dL_acts_706 hl (by decide) rfl (fun ls hl => ?_)
    refine lv_iload hx hb dL_acts_708 (lv_at hl 0 rfl) ?_
    refine lv_if_lt (tgt := 729) hx hb dL_acts_710 (by decide) (fun c3201 => ?_) (fun c3201 => ?_)
    · rw [if_pos c3201] at hf
      refine lv_aload_n hx hb dL_acts_729 rfl (lv_at hl 1 rfl) ?_
      refine lv_iload_n hx hb dL_acts_730 rfl (lv_at hl 2 rfl) ?_
      obtain ⟨y3202, h_y3202, hf⟩ := bnd hf
      refine cl_iV C0 hH hl.1 (As := [.int x3]) (rest := []) (mX4_onDisk l D ca a b h f wr t u hh S x3 h_y3202) gL_acts_X4_onDisk rfl rfl rfl hd_X4_onDisk ⟨Nat.le_of_ble_eq_true rfl, Nat.le_of_ble_eq_true rfl⟩ ⟨Nat.zero_le _, Nat.zero_le _⟩ (vG_X4 C0 hH) rfl (Nat.le_of_ble_eq_true rfl) dL_acts_731 (fun H locs hH => ?_)
      exact J734 _ _ _ _ _ _ _ _ _ _ _ hf hH (lv_sub hl [1, 2, 3, 0] rfl)
    · rw [if_neg c3201] at hf
      refine lv_aload_n hx hb dL_acts_713 rfl (lv_at hl 1 rfl) ?_
      refine lv_iload hx hb dL_acts_714 (lv_at hl 0 rfl) ?_
      refine lv_iconst (v := 3) hx hb dL_acts_716 (by decide) ?_
      refine lv_idiv hx hb dL_acts_717 (by decide) ?_
      refine lv_iload hx hb dL_acts_718 (lv_at hl 0 rfl) ?_
      refine lv_iconst (v := 3) hx hb dL_acts_720 (by decide) ?_
      refine lv_irem hx hb dL_acts_721 (by decide) ?_
      refine lv_iconst (v := 1) hx hb dL_acts_722 (by decide) ?_
      obtain ⟨y3203, h_y3203, hf⟩ := bnd hf
      refine cl_iV C0 hH hl.1 (As := [.int (s0 / 3), .int (s0 - s0 / 3 * 3), .int 1]) (rest := []) (mX4_line l D ca a b h f wr t u hh S (s0 / 3) (s0 - s0 / 3 * 3) 1 h_y3203) gL_acts_X4_line rfl rfl rfl hd_X4_line ⟨Nat.le_of_ble_eq_true rfl, Nat.le_of_ble_eq_true rfl⟩ ⟨Nat.zero_le _, Nat.zero_le _⟩ (vG_X4 C0 hH) rfl (Nat.le_of_ble_eq_true rfl) dL_acts_723 (fun H locs hH => ?_)
      refine lv_goto (tgt := 734) hx hb dL_acts_726 (by decide) ?_
      exact J734 _ _ _ _ _ _ _ _ _ _ _ hf hH (lv_sub hl [1, 2, 3, 0] rfl)
  have J840 : ∀ (s0 : Int32) (t : Mem) (u : Mem) (hh : Mem) (S : Nat → Mem) (H : Heap) (locs : List Loc) (ls : Array Slot), pL_acts_840 s0 t u hh S = some (r, (t9, u9, h9, S9)) → HS D A s (gW a b h f ca t u hh S wr) H locs → lv_has ls 26 [] → W p l e rmL_acts s m args below meth c H locs 0 0 Q (F0 m 840 ls [.int s0]) := by
    intro s0 t u hh S H locs ls hf hH hl
    unfold pL_acts_840 at hf
    obtain ⟨hz, hf⟩ := gd hf
    cases hf
    exact hend _ _ _ _ hH (isz_n hz) dL_acts_840
  have J55 : ∀ (x1 : Int32) (x2 : Int32) (x3 : Int32) (s0 : Int32) (t : Mem) (u : Mem) (hh : Mem) (S : Nat → Mem) (H : Heap) (locs : List Loc) (ls : Array Slot), pL_acts_55 x1 x2 x3 s0 t u hh S = some (r, (t9, u9, h9, S9)) → HS D A s (gW a b h f ca t u hh S wr) H locs → lv_has ls 26 [(0, .ref (h 2)), (1, .int x1), (2, .int x2), (3, .int x3)] → W p l e rmL_acts s m args below meth c H locs 0 0 Q (F0 m 55 ls [.int s0]) := by
    intro x1 x2 x3 s0 t u hh S H locs ls hf hH hl
    unfold pL_acts_55 at hf
    refine lv_istore (lv' := [(4, .int s0), (0, .ref (h 2)), (1, .int x1), (2, .int x2), (3, .int x3)]) hx hb dL_acts_55 hl (by decide) rfl (fun ls hl => ?_)
    refine lv_aload_n hx hb dL_acts_57 rfl (lv_at hl 1 rfl) ?_
    refine lv_iconst (v := 0) hx hb dL_acts_58 (by decide) ?_
    obtain ⟨y301, h_y301, hf⟩ := bnd hf
    refine cl_iV C0 hH hl.1 (As := [.int 0]) (rest := []) (mX4_count l D ca a b h f wr t u hh S 0 h_y301) gL_acts_X4_count rfl rfl rfl hd_X4_count ⟨Nat.le_of_ble_eq_true rfl, Nat.le_of_ble_eq_true rfl⟩ ⟨Nat.zero_le _, Nat.zero_le _⟩ (vG_X4 C0 hH) rfl (Nat.le_of_ble_eq_true rfl) dL_acts_59 (fun H locs hH => ?_)
    refine lv_aload_n hx hb dL_acts_62 rfl (lv_at hl 1 rfl) ?_
    refine lv_iconst (v := 1) hx hb dL_acts_63 (by decide) ?_
    obtain ⟨y302, h_y302, hf⟩ := bnd hf
    refine cl_iV C0 hH hl.1 (As := [.int 1]) (rest := [.int y301]) (mX4_count l D ca a b h f wr t u hh S 1 h_y302) gL_acts_X4_count rfl rfl rfl hd_X4_count ⟨Nat.le_of_ble_eq_true rfl, Nat.le_of_ble_eq_true rfl⟩ ⟨Nat.zero_le _, Nat.zero_le _⟩ (vG_X4 C0 hH) rfl (Nat.le_of_ble_eq_true rfl) dL_acts_64 (fun H locs hH => ?_)
    refine lv_iadd hx hb dL_acts_67 ?_
    refine lv_istore (lv' := [(5, .int (y301 + y302)), (4, .int s0), (0, .ref (h 2)), (1, .int x1), (2, .int x2), (3, .int x3)]) hx hb dL_acts_68 hl (by decide) rfl (fun ls hl => ?_)
    refine lv_iload_n hx hb dL_acts_70 rfl (lv_at hl 3 rfl) ?_
    refine lv_bipush (v := 20) hx hb dL_acts_71 (by decide) ?_
    obtain ⟨y303, h_y303, hf⟩ := bnd hf
    refine cl_iS C0 hH hl.1 (As := [.int x1, .int 20]) (rest := []) (mL_up l D ca _ x1 20 h_y303) gL_acts_L_up rfl rfl rfl hd_L_up ⟨Nat.le_of_ble_eq_true rfl, Nat.le_of_ble_eq_true rfl⟩ ⟨Nat.zero_le _, Nat.zero_le _⟩ rfl (Nat.le_of_ble_eq_true rfl) dL_acts_73 (fun H locs hH => ?_)
    by_cases c380_0 : y303 = 0
    · rw [if_pos c380_0] at hf
      refine sw_in hx hb (v := 0) (tgt := 136) c380_0 dL_acts_76 (by decide) (by decide) rfl (by decide) ?_
      refine lv_iload_n hx hb dL_acts_136 rfl (lv_at hl 4 rfl) ?_
      refine lv_iconst (v := 3) hx hb dL_acts_137 (by decide) ?_
      refine lv_iand hx hb dL_acts_138 ?_
      refine lv_if_le (tgt := 146) hx hb dL_acts_139 (by decide) (fun c304 => ?_) (fun c304 => ?_)
      · rw [if_pos c304] at hf
        refine lv_iconst (v := 0) hx hb dL_acts_146 (by decide) ?_
        exact J147 _ _ _ _ _ _ _ _ hf hH (lv_sub hl [2] rfl)
      · rw [if_neg c304] at hf
        refine lv_iconst (v := 1) hx hb dL_acts_142 (by decide) ?_
        refine lv_goto (tgt := 147) hx hb dL_acts_143 (by decide) ?_
        exact J147 _ _ _ _ _ _ _ _ hf hH (lv_sub hl [2] rfl)
    rw [if_neg c380_0] at hf
    by_cases c380_1 : y303 = 1
    · rw [if_pos c380_1] at hf
      refine sw_in hx hb (v := 1) (tgt := 225) c380_1 dL_acts_76 (by decide) (by decide) rfl (by decide) ?_
      refine lv_iload_n hx hb dL_acts_225 rfl (lv_at hl 4 rfl) ?_
      refine lv_iconst (v := 1) hx hb dL_acts_226 (by decide) ?_
      refine lv_iand hx hb dL_acts_227 ?_
      refine lv_if_ne (tgt := 235) hx hb dL_acts_228 (by decide) (fun c305 => ?_) (fun c305 => ?_)
      · rw [if_neg c305] at hf
        refine lv_iconst (v := 0) hx hb dL_acts_235 (by decide) ?_
        exact J236 _ _ _ _ _ _ _ _ hf hH (lv_sub hl [2] rfl)
      · rw [if_pos c305] at hf
        refine lv_iconst (v := 1) hx hb dL_acts_231 (by decide) ?_
        refine lv_goto (tgt := 236) hx hb dL_acts_232 (by decide) ?_
        exact J236 _ _ _ _ _ _ _ _ hf hH (lv_sub hl [2] rfl)
    rw [if_neg c380_1] at hf
    by_cases c380_2 : y303 = 2
    · rw [if_pos c380_2] at hf
      refine sw_in hx hb (v := 2) (tgt := 225) c380_2 dL_acts_76 (by decide) (by decide) rfl (by decide) ?_
      refine lv_iload_n hx hb dL_acts_225 rfl (lv_at hl 4 rfl) ?_
      refine lv_iconst (v := 1) hx hb dL_acts_226 (by decide) ?_
      refine lv_iand hx hb dL_acts_227 ?_
      refine lv_if_ne (tgt := 235) hx hb dL_acts_228 (by decide) (fun c306 => ?_) (fun c306 => ?_)
      · rw [if_neg c306] at hf
        refine lv_iconst (v := 0) hx hb dL_acts_235 (by decide) ?_
        exact J236 _ _ _ _ _ _ _ _ hf hH (lv_sub hl [2] rfl)
      · rw [if_pos c306] at hf
        refine lv_iconst (v := 1) hx hb dL_acts_231 (by decide) ?_
        refine lv_goto (tgt := 236) hx hb dL_acts_232 (by decide) ?_
        exact J236 _ _ _ _ _ _ _ _ hf hH (lv_sub hl [2] rfl)
    rw [if_neg c380_2] at hf
    by_cases c380_3 : y303 = 3
    · rw [if_pos c380_3] at hf
      refine sw_in hx hb (v := 3) (tgt := 315) c380_3 dL_acts_76 (by decide) (by decide) rfl (by decide) ?_
      refine lv_aload_n hx hb dL_acts_315 rfl (lv_at hl 2 rfl) ?_
      obtain ⟨y307, h_y307, hf⟩ := bnd hf
      refine cl_iV C0 hH hl.1 (As := []) (rest := []) (mX4_charge l D ca a b h f wr t u hh S h_y307) gL_acts_X4_charge rfl rfl rfl hd_X4_charge ⟨Nat.le_of_ble_eq_true rfl, Nat.le_of_ble_eq_true rfl⟩ ⟨Nat.zero_le _, Nat.zero_le _⟩ (vG_X4 C0 hH) rfl (Nat.le_of_ble_eq_true rfl) dL_acts_316 (fun H locs hH => ?_)
      refine lv_istore (lv' := [(12, .int y307), (5, .int (y301 + y302)), (4, .int s0), (0, .ref (h 2)), (1, .int x1), (2, .int x2), (3, .int x3)]) hx hb dL_acts_319 hl (by decide) rfl (fun ls hl => ?_)
      refine lv_iconst (v := 1) hx hb dL_acts_321 (by decide) ?_
      refine lv_iload_n hx hb dL_acts_322 rfl (lv_at hl 5 rfl) ?_
      refine lv_iload_n hx hb dL_acts_323 rfl (lv_at hl 5 rfl) ?_
      refine lv_bipush (v := 8) hx hb dL_acts_324 (by decide) ?_
      refine lv_ishr hx hb dL_acts_326 ?_
      refine lv_iconst (v := 3) hx hb dL_acts_327 (by decide) ?_
      refine lv_iand hx hb dL_acts_328 ?_
      refine lv_if_ne (tgt := 337) hx hb dL_acts_329 (by decide) (fun c308 => ?_) (fun c308 => ?_)
      · rw [if_neg c308] at hf
        refine lv_bipush (v := 30) hx hb dL_acts_337 (by decide) ?_
        exact J339 _ _ _ _ _ _ _ _ _ _ _ _ _ hf hH (lv_sub hl [3, 2, 1, 0] rfl)
      · rw [if_pos c308] at hf
        refine lv_bipush (v := 99) hx hb dL_acts_332 (by decide) ?_
        refine lv_goto (tgt := 339) hx hb dL_acts_334 (by decide) ?_
        exact J339 _ _ _ _ _ _ _ _ _ _ _ _ _ hf hH (lv_sub hl [3, 2, 1, 0] rfl)
    rw [if_neg c380_3] at hf
    by_cases c380_4 : y303 = 4
    · rw [if_pos c380_4] at hf
      refine sw_in hx hb (v := 4) (tgt := 315) c380_4 dL_acts_76 (by decide) (by decide) rfl (by decide) ?_
      refine lv_aload_n hx hb dL_acts_315 rfl (lv_at hl 2 rfl) ?_
      obtain ⟨y309, h_y309, hf⟩ := bnd hf
      refine cl_iV C0 hH hl.1 (As := []) (rest := []) (mX4_charge l D ca a b h f wr t u hh S h_y309) gL_acts_X4_charge rfl rfl rfl hd_X4_charge ⟨Nat.le_of_ble_eq_true rfl, Nat.le_of_ble_eq_true rfl⟩ ⟨Nat.zero_le _, Nat.zero_le _⟩ (vG_X4 C0 hH) rfl (Nat.le_of_ble_eq_true rfl) dL_acts_316 (fun H locs hH => ?_)
      refine lv_istore (lv' := [(12, .int y309), (5, .int (y301 + y302)), (4, .int s0), (0, .ref (h 2)), (1, .int x1), (2, .int x2), (3, .int x3)]) hx hb dL_acts_319 hl (by decide) rfl (fun ls hl => ?_)
      refine lv_iconst (v := 1) hx hb dL_acts_321 (by decide) ?_
      refine lv_iload_n hx hb dL_acts_322 rfl (lv_at hl 5 rfl) ?_
      refine lv_iload_n hx hb dL_acts_323 rfl (lv_at hl 5 rfl) ?_
      refine lv_bipush (v := 8) hx hb dL_acts_324 (by decide) ?_
      refine lv_ishr hx hb dL_acts_326 ?_
      refine lv_iconst (v := 3) hx hb dL_acts_327 (by decide) ?_
      refine lv_iand hx hb dL_acts_328 ?_
      refine lv_if_ne (tgt := 337) hx hb dL_acts_329 (by decide) (fun c310 => ?_) (fun c310 => ?_)
      · rw [if_neg c310] at hf
        refine lv_bipush (v := 30) hx hb dL_acts_337 (by decide) ?_
        exact J339 _ _ _ _ _ _ _ _ _ _ _ _ _ hf hH (lv_sub hl [3, 2, 1, 0] rfl)
      · rw [if_pos c310] at hf
        refine lv_bipush (v := 99) hx hb dL_acts_332 (by decide) ?_
        refine lv_goto (tgt := 339) hx hb dL_acts_334 (by decide) ?_
        exact J339 _ _ _ _ _ _ _ _ _ _ _ _ _ hf hH (lv_sub hl [3, 2, 1, 0] rfl)
    rw [if_neg c380_4] at hf
    by_cases c380_5 : y303 = 5
    · rw [if_pos c380_5] at hf
      refine sw_in hx hb (v := 5) (tgt := 505) c380_5 dL_acts_76 (by decide) (by decide) rfl (by decide) ?_
      refine lv_iconst (v := 1) hx hb dL_acts_505 (by decide) ?_
      refine lv_iload_n hx hb dL_acts_506 rfl (lv_at hl 4 rfl) ?_
      refine lv_bipush (v := 100) hx hb dL_acts_507 (by decide) ?_
      obtain ⟨y311, h_y311, hf⟩ := bnd hf
      refine cl_iS C0 hH hl.1 (As := [.int x2, .int 100]) (rest := [.int 1]) (mL_up l D ca _ x2 100 h_y311) gL_acts_L_up rfl rfl rfl hd_L_up ⟨Nat.le_of_ble_eq_true rfl, Nat.le_of_ble_eq_true rfl⟩ ⟨Nat.zero_le _, Nat.zero_le _⟩ rfl (Nat.le_of_ble_eq_true rfl) dL_acts_509 (fun H locs hH => ?_)
      refine lv_iadd hx hb dL_acts_512 ?_
      refine lv_istore (lv' := [(18, .int (1 + y311)), (5, .int (y301 + y302)), (4, .int s0), (0, .ref (h 2)), (1, .int x1), (2, .int x2), (3, .int x3)]) hx hb dL_acts_513 hl (by decide) rfl (fun ls hl => ?_)
      refine lv_aload_n hx hb dL_acts_515 rfl (lv_at hl 3 rfl) ?_
      obtain ⟨y312, h_y312, hf⟩ := bnd hf
      refine cl_iV C0 hH hl.1 (As := []) (rest := []) (mX4_charge l D ca a b h f wr t u hh S h_y312) gL_acts_X4_charge rfl rfl rfl hd_X4_charge ⟨Nat.le_of_ble_eq_true rfl, Nat.le_of_ble_eq_true rfl⟩ ⟨Nat.zero_le _, Nat.zero_le _⟩ (vG_X4 C0 hH) rfl (Nat.le_of_ble_eq_true rfl) dL_acts_516 (fun H locs hH => ?_)
      refine lv_istore (lv' := [(19, .int y312), (18, .int (1 + y311)), (5, .int (y301 + y302)), (4, .int s0), (0, .ref (h 2)), (1, .int x1), (2, .int x2), (3, .int x3)]) hx hb dL_acts_519 hl (by decide) rfl (fun ls hl => ?_)
      refine lv_aload_n hx hb dL_acts_521 rfl (lv_at hl 4 rfl) ?_
      refine lv_iload hx hb dL_acts_522 (lv_at hl 1 rfl) ?_
      obtain ⟨y313, t314, u315, h316, S317, h_y313, hf⟩ := bndG hf
      refine cl_iV C0 hH hl.1 (As := [.int (1 + y311)]) (rest := []) (mX4_setLimit l D ca a b h f wr t u hh S (1 + y311) h_y313) gL_acts_X4_setLimit rfl rfl rfl hd_X4_setLimit ⟨Nat.le_of_ble_eq_true rfl, Nat.le_of_ble_eq_true rfl⟩ ⟨Nat.zero_le _, Nat.zero_le _⟩ (vG_X4 C0 hH) rfl (Nat.le_of_ble_eq_true rfl) dL_acts_524 (fun H locs hH => ?_)
      refine lv_iload hx hb dL_acts_527 (lv_at hl 0 rfl) ?_
      refine lv_iload hx hb dL_acts_529 (lv_at hl 1 rfl) ?_
      refine lv_icmp_ge (tgt := 539) hx hb dL_acts_531 (by decide) (fun c318 => ?_) (fun c318 => ?_)
      · rw [if_pos c318] at hf
        refine lv_iload hx hb dL_acts_539 (lv_at hl 1 rfl) ?_
        exact J541 _ _ _ _ _ _ _ _ _ hf hH (lv_sub hl [] rfl)
      · rw [if_neg c318] at hf
        refine lv_iload hx hb dL_acts_534 (lv_at hl 0 rfl) ?_
        refine lv_goto (tgt := 541) hx hb dL_acts_536 (by decide) ?_
        exact J541 _ _ _ _ _ _ _ _ _ hf hH (lv_sub hl [] rfl)
    rw [if_neg c380_5] at hf
    by_cases c380_6 : y303 = 6
    · rw [if_pos c380_6] at hf
      refine sw_in hx hb (v := 6) (tgt := 550) c380_6 dL_acts_76 (by decide) (by decide) rfl (by decide) ?_
      refine lv_iload hx hb dL_acts_550 (lv_at hl 1 rfl) ?_
      refine lv_if_ne (tgt := 577) hx hb dL_acts_552 (by decide) (fun c319 => ?_) (fun c319 => ?_)
      · rw [if_neg c319] at hf
        refine lv_aload_n hx hb dL_acts_577 rfl (lv_at hl 2 rfl) ?_
        obtain ⟨y320, h_y320, hf⟩ := bnd hf
        refine cl_iV C0 hH hl.1 (As := []) (rest := []) (mX4_ifDestaged l D ca a b h f wr t u hh S h_y320) gL_acts_X4_ifDestaged rfl rfl rfl hd_X4_ifDestaged ⟨Nat.le_of_ble_eq_true rfl, Nat.le_of_ble_eq_true rfl⟩ ⟨Nat.zero_le _, Nat.zero_le _⟩ (vG_X4 C0 hH) rfl (Nat.le_of_ble_eq_true rfl) dL_acts_578 (fun H locs hH => ?_)
        refine lv_istore (lv' := [(20, .int y320), (5, .int (y301 + y302)), (4, .int s0), (0, .ref (h 2)), (1, .int x1), (2, .int x2), (3, .int x3)]) hx hb dL_acts_581 hl (by decide) rfl (fun ls hl => ?_)
        refine lv_aload_n hx hb dL_acts_583 rfl (lv_at hl 3 rfl) ?_
        obtain ⟨y321, h_y321, hf⟩ := bnd hf
        refine cl_iV C0 hH hl.1 (As := []) (rest := []) (mX4_dirty l D ca a b h f wr t u hh S h_y321) gL_acts_X4_dirty rfl rfl rfl hd_X4_dirty ⟨Nat.le_of_ble_eq_true rfl, Nat.le_of_ble_eq_true rfl⟩ ⟨Nat.zero_le _, Nat.zero_le _⟩ (vG_X4 C0 hH) rfl (Nat.le_of_ble_eq_true rfl) dL_acts_584 (fun H locs hH => ?_)
        refine lv_istore (lv' := [(21, .int y321), (20, .int y320), (5, .int (y301 + y302)), (4, .int s0), (0, .ref (h 2)), (1, .int x1), (2, .int x2), (3, .int x3)]) hx hb dL_acts_587 hl (by decide) rfl (fun ls hl => ?_)
        refine lv_aload_n hx hb dL_acts_589 rfl (lv_at hl 4 rfl) ?_
        obtain ⟨y322, t323, u324, h325, S326, h_y322, hf⟩ := bndG hf
        refine cl_iV C0 hH hl.1 (As := []) (rest := []) (mX4_destageAll l D ca a b h f wr t u hh S h_y322) gL_acts_X4_destageAll rfl rfl rfl hd_X4_destageAll ⟨Nat.le_of_ble_eq_true rfl, Nat.le_of_ble_eq_true rfl⟩ ⟨Nat.zero_le _, Nat.zero_le _⟩ (vG_X4 C0 hH) rfl (Nat.le_of_ble_eq_true rfl) dL_acts_590 (fun H locs hH => ?_)
        refine lv_iload hx hb dL_acts_593 (lv_at hl 0 rfl) ?_
        refine lv_icmp_ne (tgt := 628) hx hb dL_acts_595 (by decide) (fun c327 => ?_) (fun c327 => ?_)
        · rw [if_neg c327] at hf
          exact J628 _ _ _ _ _ _ _ hf hH (lv_sub hl [] rfl)
        · rw [if_pos c327] at hf
          refine lv_aload_n hx hb dL_acts_598 rfl (lv_at hl 4 rfl) ?_
          obtain ⟨y328, h_y328, hf⟩ := bnd hf
          refine cl_iV C0 hH hl.1 (As := []) (rest := []) (mX4_dirty l D ca a b h f wr t323 u324 h325 S326 h_y328) gL_acts_X4_dirty rfl rfl rfl hd_X4_dirty ⟨Nat.le_of_ble_eq_true rfl, Nat.le_of_ble_eq_true rfl⟩ ⟨Nat.zero_le _, Nat.zero_le _⟩ (vG_X4 C0 hH) rfl (Nat.le_of_ble_eq_true rfl) dL_acts_599 (fun H locs hH => ?_)
          refine lv_if_ne (tgt := 628) hx hb dL_acts_602 (by decide) (fun c329 => ?_) (fun c329 => ?_)
          · rw [if_neg c329] at hf
            exact J628 _ _ _ _ _ _ _ hf hH (lv_sub hl [] rfl)
          · rw [if_pos c329] at hf
            refine lv_aload_n hx hb dL_acts_605 rfl (lv_at hl 4 rfl) ?_
            refine lv_iconst (v := 0) hx hb dL_acts_606 (by decide) ?_
            obtain ⟨y330, h_y330, hf⟩ := bnd hf
            refine cl_iV C0 hH hl.1 (As := [.int 0]) (rest := []) (mX4_count l D ca a b h f wr t323 u324 h325 S326 0 h_y330) gL_acts_X4_count rfl rfl rfl hd_X4_count ⟨Nat.le_of_ble_eq_true rfl, Nat.le_of_ble_eq_true rfl⟩ ⟨Nat.zero_le _, Nat.zero_le _⟩ (vG_X4 C0 hH) rfl (Nat.le_of_ble_eq_true rfl) dL_acts_607 (fun H locs hH => ?_)
            refine lv_aload_n hx hb dL_acts_610 rfl (lv_at hl 4 rfl) ?_
            refine lv_iconst (v := 1) hx hb dL_acts_611 (by decide) ?_
            obtain ⟨y331, h_y331, hf⟩ := bnd hf
            refine cl_iV C0 hH hl.1 (As := [.int 1]) (rest := [.int y330]) (mX4_count l D ca a b h f wr t323 u324 h325 S326 1 h_y331) gL_acts_X4_count rfl rfl rfl hd_X4_count ⟨Nat.le_of_ble_eq_true rfl, Nat.le_of_ble_eq_true rfl⟩ ⟨Nat.zero_le _, Nat.zero_le _⟩ (vG_X4 C0 hH) rfl (Nat.le_of_ble_eq_true rfl) dL_acts_612 (fun H locs hH => ?_)
            refine lv_iadd hx hb dL_acts_615 ?_
            refine lv_iload hx hb dL_acts_616 (lv_at hl 2 rfl) ?_
            refine lv_iload hx hb dL_acts_618 (lv_at hl 1 rfl) ?_
            refine lv_iadd hx hb dL_acts_620 ?_
            refine lv_icmp_ne (tgt := 628) hx hb dL_acts_621 (by decide) (fun c332 => ?_) (fun c332 => ?_)
            · rw [if_neg c332] at hf
              exact J628 _ _ _ _ _ _ _ hf hH (lv_sub hl [] rfl)
            · rw [if_pos c332] at hf
              refine lv_iconst (v := 1) hx hb dL_acts_624 (by decide) ?_
              refine lv_goto (tgt := 629) hx hb dL_acts_625 (by decide) ?_
              exact J629 _ _ _ _ _ _ _ _ hf hH (lv_sub hl [] rfl)
      · rw [if_pos c319] at hf
        refine lv_aload_n hx hb dL_acts_555 rfl (lv_at hl 2 rfl) ?_
        obtain ⟨y333, h_y333, hf⟩ := bnd hf
        refine cl_iV C0 hH hl.1 (As := []) (rest := []) (mX4_ifDestaged l D ca a b h f wr t u hh S h_y333) gL_acts_X4_ifDestaged rfl rfl rfl hd_X4_ifDestaged ⟨Nat.le_of_ble_eq_true rfl, Nat.le_of_ble_eq_true rfl⟩ ⟨Nat.zero_le _, Nat.zero_le _⟩ (vG_X4 C0 hH) rfl (Nat.le_of_ble_eq_true rfl) dL_acts_556 (fun H locs hH => ?_)
        refine lv_iconst (v := (-1)) hx hb dL_acts_559 (by decide) ?_
        refine lv_icmp_ne (tgt := 575) hx hb dL_acts_560 (by decide) (fun c334 => ?_) (fun c334 => ?_)
        · rw [if_neg c334] at hf
          exact J575 _ _ _ _ _ _ _ hf hH (lv_sub hl [] rfl)
        · rw [if_pos c334] at hf
          refine lv_aload_n hx hb dL_acts_563 rfl (lv_at hl 2 rfl) ?_
          refine lv_iconst (v := 1) hx hb dL_acts_564 (by decide) ?_
          obtain ⟨y335, t336, u337, h338, S339, h_y335, hf⟩ := bndG hf
          refine cl_iV C0 hH hl.1 (As := [.int 1]) (rest := []) (mX4_pass l D ca a b h f wr t u hh S 1 h_y335) gL_acts_X4_pass rfl rfl rfl hd_X4_pass ⟨Nat.le_of_ble_eq_true rfl, Nat.le_of_ble_eq_true rfl⟩ ⟨Nat.zero_le _, Nat.zero_le _⟩ (vG_X4 C0 hH) rfl (Nat.le_of_ble_eq_true rfl) dL_acts_565 (fun H locs hH => ?_)
          refine lv_if_lt (tgt := 575) hx hb dL_acts_568 (by decide) (fun c340 => ?_) (fun c340 => ?_)
          · rw [if_pos c340] at hf
            exact J575 _ _ _ _ _ _ _ hf hH (lv_sub hl [] rfl)
          · rw [if_neg c340] at hf
            refine lv_iconst (v := 1) hx hb dL_acts_571 (by decide) ?_
            refine lv_goto (tgt := 576) hx hb dL_acts_572 (by decide) ?_
            exact J576 _ _ _ _ _ _ _ _ hf hH (lv_sub hl [] rfl)
    rw [if_neg c380_6] at hf
    by_cases c380_7 : y303 = 7
    · rw [if_pos c380_7] at hf
      refine sw_in hx hb (v := 7) (tgt := 630) c380_7 dL_acts_76 (by decide) (by decide) rfl (by decide) ?_
      refine lv_iload_n hx hb dL_acts_630 rfl (lv_at hl 5 rfl) ?_
      refine lv_iconst (v := 4) hx hb dL_acts_631 (by decide) ?_
      refine lv_idiv hx hb dL_acts_632 (by decide) ?_
      refine lv_istore (lv' := [(22, .int (x3 / 4)), (5, .int (y301 + y302)), (4, .int s0), (0, .ref (h 2)), (1, .int x1), (2, .int x2), (3, .int x3)]) hx hb dL_acts_633 hl (by decide) rfl (fun ls hl => ?_)
      refine lv_aload_n hx hb dL_acts_635 rfl (lv_at hl 3 rfl) ?_
      refine lv_iload hx hb dL_acts_636 (lv_at hl 0 rfl) ?_
      obtain ⟨y341, h_y341, hf⟩ := bnd hf
      refine cl_iV C0 hH hl.1 (As := [.int (x3 / 4)]) (rest := []) (mX4_dirtyOf l D ca a b h f wr t u hh S (x3 / 4) h_y341) gL_acts_X4_dirtyOf rfl rfl rfl hd_X4_dirtyOf ⟨Nat.le_of_ble_eq_true rfl, Nat.le_of_ble_eq_true rfl⟩ ⟨Nat.zero_le _, Nat.zero_le _⟩ (vG_X4 C0 hH) rfl (Nat.le_of_ble_eq_true rfl) dL_acts_638 (fun H locs hH => ?_)
      refine lv_istore (lv' := [(23, .int y341), (22, .int (x3 / 4)), (5, .int (y301 + y302)), (4, .int s0), (0, .ref (h 2)), (1, .int x1), (2, .int x2), (3, .int x3)]) hx hb dL_acts_641 hl (by decide) rfl (fun ls hl => ?_)
      refine lv_iload hx hb dL_acts_643 (lv_at hl 3 rfl) ?_
      refine lv_if_eq (tgt := 676) hx hb dL_acts_645 (by decide) (fun c342 => ?_) (fun c342 => ?_)
      · rw [if_pos c342] at hf
        refine lv_aload_n hx hb dL_acts_676 rfl (lv_at hl 4 rfl) ?_
        refine lv_iconst (v := 1) hx hb dL_acts_677 (by decide) ?_
        obtain ⟨y343, t344, u345, h346, S347, h_y343, hf⟩ := bndG hf
        refine cl_iV C0 hH hl.1 (As := [.int 1]) (rest := []) (mX4_power l D ca a b h f wr t u hh S 1 h_y343) gL_acts_X4_power rfl rfl rfl hd_X4_power ⟨Nat.le_of_ble_eq_true rfl, Nat.le_of_ble_eq_true rfl⟩ ⟨Nat.zero_le _, Nat.zero_le _⟩ (vG_X4 C0 hH) rfl (Nat.le_of_ble_eq_true rfl) dL_acts_678 (fun H locs hH => ?_)
        refine lv_if_lt (tgt := 688) hx hb dL_acts_681 (by decide) (fun c348 => ?_) (fun c348 => ?_)
        · rw [if_pos c348] at hf
          refine lv_iconst (v := 0) hx hb dL_acts_688 (by decide) ?_
          exact J689 _ _ _ _ _ _ _ _ hf hH (lv_sub hl [] rfl)
        · rw [if_neg c348] at hf
          refine lv_iconst (v := 1) hx hb dL_acts_684 (by decide) ?_
          refine lv_goto (tgt := 689) hx hb dL_acts_685 (by decide) ?_
          exact J689 _ _ _ _ _ _ _ _ hf hH (lv_sub hl [] rfl)
      · rw [if_neg c342] at hf
        refine lv_aload_n hx hb dL_acts_648 rfl (lv_at hl 4 rfl) ?_
        refine lv_iload hx hb dL_acts_649 (lv_at hl 1 rfl) ?_
        obtain ⟨y349, t350, u351, h352, S353, h_y349, hf⟩ := bndG hf
        refine cl_iV C0 hH hl.1 (As := [.int (x3 / 4)]) (rest := []) (mX4_destage l D ca a b h f wr t u hh S (x3 / 4) h_y349) gL_acts_X4_destage rfl rfl rfl hd_X4_destage ⟨Nat.le_of_ble_eq_true rfl, Nat.le_of_ble_eq_true rfl⟩ ⟨Nat.zero_le _, Nat.zero_le _⟩ (vG_X4 C0 hH) rfl (Nat.le_of_ble_eq_true rfl) dL_acts_651 (fun H locs hH => ?_)
        refine lv_iload hx hb dL_acts_654 (lv_at hl 0 rfl) ?_
        refine lv_icmp_ne (tgt := 672) hx hb dL_acts_656 (by decide) (fun c354 => ?_) (fun c354 => ?_)
        · rw [if_neg c354] at hf
          exact J672 _ _ _ _ _ _ _ hf hH (lv_sub hl [] rfl)
        · rw [if_pos c354] at hf
          refine lv_aload_n hx hb dL_acts_659 rfl (lv_at hl 4 rfl) ?_
          refine lv_iload hx hb dL_acts_660 (lv_at hl 1 rfl) ?_
          obtain ⟨y355, h_y355, hf⟩ := bnd hf
          refine cl_iV C0 hH hl.1 (As := [.int (x3 / 4)]) (rest := []) (mX4_dirtyOf l D ca a b h f wr t350 u351 h352 S353 (x3 / 4) h_y355) gL_acts_X4_dirtyOf rfl rfl rfl hd_X4_dirtyOf ⟨Nat.le_of_ble_eq_true rfl, Nat.le_of_ble_eq_true rfl⟩ ⟨Nat.zero_le _, Nat.zero_le _⟩ (vG_X4 C0 hH) rfl (Nat.le_of_ble_eq_true rfl) dL_acts_662 (fun H locs hH => ?_)
          refine lv_if_ne (tgt := 672) hx hb dL_acts_665 (by decide) (fun c356 => ?_) (fun c356 => ?_)
          · rw [if_neg c356] at hf
            exact J672 _ _ _ _ _ _ _ hf hH (lv_sub hl [] rfl)
          · rw [if_pos c356] at hf
            refine lv_iconst (v := 1) hx hb dL_acts_668 (by decide) ?_
            refine lv_goto (tgt := 689) hx hb dL_acts_669 (by decide) ?_
            exact J689 _ _ _ _ _ _ _ _ hf hH (lv_sub hl [] rfl)
    rw [if_neg c380_7] at hf
    by_cases c380_8 : y303 = 8
    · rw [if_pos c380_8] at hf
      refine sw_in hx hb (v := 8) (tgt := 690) c380_8 dL_acts_76 (by decide) (by decide) rfl (by decide) ?_
      refine lv_aload_n hx hb dL_acts_690 rfl (lv_at hl 2 rfl) ?_
      obtain ⟨y357, h_y357, hf⟩ := bnd hf
      refine cl_iV C0 hH hl.1 (As := []) (rest := []) (mX4_isIn l D ca a b h f wr t u hh S h_y357) gL_acts_X4_isIn rfl rfl rfl hd_X4_isIn ⟨Nat.le_of_ble_eq_true rfl, Nat.le_of_ble_eq_true rfl⟩ ⟨Nat.zero_le _, Nat.zero_le _⟩ (vG_X4 C0 hH) rfl (Nat.le_of_ble_eq_true rfl) dL_acts_691 (fun H locs hH => ?_)
      refine lv_if_eq (tgt := 705) hx hb dL_acts_694 (by decide) (fun c358 => ?_) (fun c358 => ?_)
      · rw [if_pos c358] at hf
        refine lv_iconst (v := (-1)) hx hb dL_acts_705 (by decide) ?_
        exact J706 _ _ _ _ _ _ _ _ _ _ hf hH (lv_sub hl [2, 5, 0] rfl)
      · rw [if_neg c358] at hf
        refine lv_aload_n hx hb dL_acts_697 rfl (lv_at hl 2 rfl) ?_
        refine lv_iload_n hx hb dL_acts_698 rfl (lv_at hl 5 rfl) ?_
        obtain ⟨y359, h_y359, hf⟩ := bnd hf
        refine cl_iS C0 hH hl.1 (As := [.ref (h 2), .int x3]) (rest := []) (mL_lineOf l D ca a b h f wr t u hh S x3 h_y359) gL_acts_L_lineOf rfl rfl rfl hd_L_lineOf ⟨Nat.le_of_ble_eq_true rfl, Nat.le_of_ble_eq_true rfl⟩ ⟨Nat.zero_le _, Nat.zero_le _⟩ rfl (Nat.le_of_ble_eq_true rfl) dL_acts_699 (fun H locs hH => ?_)
        refine lv_goto (tgt := 706) hx hb dL_acts_702 (by decide) ?_
        exact J706 _ _ _ _ _ _ _ _ _ _ hf hH (lv_sub hl [2, 5, 0] rfl)
    rw [if_neg c380_8] at hf
    by_cases c380_9 : y303 = 9
    · rw [if_pos c380_9] at hf
      refine sw_in hx hb (v := 9) (tgt := 690) c380_9 dL_acts_76 (by decide) (by decide) rfl (by decide) ?_
      refine lv_aload_n hx hb dL_acts_690 rfl (lv_at hl 2 rfl) ?_
      obtain ⟨y360, h_y360, hf⟩ := bnd hf
      refine cl_iV C0 hH hl.1 (As := []) (rest := []) (mX4_isIn l D ca a b h f wr t u hh S h_y360) gL_acts_X4_isIn rfl rfl rfl hd_X4_isIn ⟨Nat.le_of_ble_eq_true rfl, Nat.le_of_ble_eq_true rfl⟩ ⟨Nat.zero_le _, Nat.zero_le _⟩ (vG_X4 C0 hH) rfl (Nat.le_of_ble_eq_true rfl) dL_acts_691 (fun H locs hH => ?_)
      refine lv_if_eq (tgt := 705) hx hb dL_acts_694 (by decide) (fun c361 => ?_) (fun c361 => ?_)
      · rw [if_pos c361] at hf
        refine lv_iconst (v := (-1)) hx hb dL_acts_705 (by decide) ?_
        exact J706 _ _ _ _ _ _ _ _ _ _ hf hH (lv_sub hl [2, 5, 0] rfl)
      · rw [if_neg c361] at hf
        refine lv_aload_n hx hb dL_acts_697 rfl (lv_at hl 2 rfl) ?_
        refine lv_iload_n hx hb dL_acts_698 rfl (lv_at hl 5 rfl) ?_
        obtain ⟨y362, h_y362, hf⟩ := bnd hf
        refine cl_iS C0 hH hl.1 (As := [.ref (h 2), .int x3]) (rest := []) (mL_lineOf l D ca a b h f wr t u hh S x3 h_y362) gL_acts_L_lineOf rfl rfl rfl hd_L_lineOf ⟨Nat.le_of_ble_eq_true rfl, Nat.le_of_ble_eq_true rfl⟩ ⟨Nat.zero_le _, Nat.zero_le _⟩ rfl (Nat.le_of_ble_eq_true rfl) dL_acts_699 (fun H locs hH => ?_)
        refine lv_goto (tgt := 706) hx hb dL_acts_702 (by decide) ?_
        exact J706 _ _ _ _ _ _ _ _ _ _ hf hH (lv_sub hl [2, 5, 0] rfl)
    rw [if_neg c380_9] at hf
    by_cases c380_10 : y303 = 10
    · rw [if_pos c380_10] at hf
      refine sw_in hx hb (v := 10) (tgt := 690) c380_10 dL_acts_76 (by decide) (by decide) rfl (by decide) ?_
      refine lv_aload_n hx hb dL_acts_690 rfl (lv_at hl 2 rfl) ?_
      obtain ⟨y363, h_y363, hf⟩ := bnd hf
      refine cl_iV C0 hH hl.1 (As := []) (rest := []) (mX4_isIn l D ca a b h f wr t u hh S h_y363) gL_acts_X4_isIn rfl rfl rfl hd_X4_isIn ⟨Nat.le_of_ble_eq_true rfl, Nat.le_of_ble_eq_true rfl⟩ ⟨Nat.zero_le _, Nat.zero_le _⟩ (vG_X4 C0 hH) rfl (Nat.le_of_ble_eq_true rfl) dL_acts_691 (fun H locs hH => ?_)
      refine lv_if_eq (tgt := 705) hx hb dL_acts_694 (by decide) (fun c364 => ?_) (fun c364 => ?_)
      · rw [if_pos c364] at hf
        refine lv_iconst (v := (-1)) hx hb dL_acts_705 (by decide) ?_
        exact J706 _ _ _ _ _ _ _ _ _ _ hf hH (lv_sub hl [2, 5, 0] rfl)
      · rw [if_neg c364] at hf
        refine lv_aload_n hx hb dL_acts_697 rfl (lv_at hl 2 rfl) ?_
        refine lv_iload_n hx hb dL_acts_698 rfl (lv_at hl 5 rfl) ?_
        obtain ⟨y365, h_y365, hf⟩ := bnd hf
        refine cl_iS C0 hH hl.1 (As := [.ref (h 2), .int x3]) (rest := []) (mL_lineOf l D ca a b h f wr t u hh S x3 h_y365) gL_acts_L_lineOf rfl rfl rfl hd_L_lineOf ⟨Nat.le_of_ble_eq_true rfl, Nat.le_of_ble_eq_true rfl⟩ ⟨Nat.zero_le _, Nat.zero_le _⟩ rfl (Nat.le_of_ble_eq_true rfl) dL_acts_699 (fun H locs hH => ?_)
        refine lv_goto (tgt := 706) hx hb dL_acts_702 (by decide) ?_
        exact J706 _ _ _ _ _ _ _ _ _ _ hf hH (lv_sub hl [2, 5, 0] rfl)
    rw [if_neg c380_10] at hf
    refine sw_out hx hb (tgt := 802) (sw_ne (vs := [0, 1, 2, 3, 4, 5, 6, 7, 8, 9, 10]) ⟨c380_0, c380_1, c380_2, c380_3, c380_4, c380_5, c380_6, c380_7, c380_8, c380_9, c380_10, trivial⟩) dL_acts_76 (by decide) (by decide) ?_
    refine lv_aload_n hx hb dL_acts_802 rfl (lv_at hl 2 rfl) ?_
    obtain ⟨y366, h_y366, hf⟩ := bnd hf
    refine cl_iV C0 hH hl.1 (As := []) (rest := []) (mX4_isOn l D ca a b h f wr t u hh S h_y366) gL_acts_X4_isOn rfl rfl rfl hd_X4_isOn ⟨Nat.le_of_ble_eq_true rfl, Nat.le_of_ble_eq_true rfl⟩ ⟨Nat.zero_le _, Nat.zero_le _⟩ (vG_X4 C0 hH) rfl (Nat.le_of_ble_eq_true rfl) dL_acts_803 (fun H locs hH => ?_)
    refine lv_if_eq (tgt := 827) hx hb dL_acts_806 (by decide) (fun c367 => ?_) (fun c367 => ?_)
    · rw [if_pos c367] at hf
      refine lv_aload_n hx hb dL_acts_827 rfl (lv_at hl 2 rfl) ?_
      refine lv_iconst (v := 1) hx hb dL_acts_828 (by decide) ?_
      obtain ⟨y368, t369, u370, h371, S372, h_y368, hf⟩ := bndG hf
      refine cl_iV C0 hH hl.1 (As := [.int 1]) (rest := []) (mX4_power l D ca a b h f wr t u hh S 1 h_y368) gL_acts_X4_power rfl rfl rfl hd_X4_power ⟨Nat.le_of_ble_eq_true rfl, Nat.le_of_ble_eq_true rfl⟩ ⟨Nat.zero_le _, Nat.zero_le _⟩ (vG_X4 C0 hH) rfl (Nat.le_of_ble_eq_true rfl) dL_acts_829 (fun H locs hH => ?_)
      refine lv_if_lt (tgt := 839) hx hb dL_acts_832 (by decide) (fun c373 => ?_) (fun c373 => ?_)
      · rw [if_pos c373] at hf
        refine lv_iconst (v := 0) hx hb dL_acts_839 (by decide) ?_
        exact J840 _ _ _ _ _ _ _ _ hf hH (lv_sub hl [] rfl)
      · rw [if_neg c373] at hf
        refine lv_iconst (v := 1) hx hb dL_acts_835 (by decide) ?_
        refine lv_goto (tgt := 840) hx hb dL_acts_836 (by decide) ?_
        exact J840 _ _ _ _ _ _ _ _ hf hH (lv_sub hl [] rfl)
    · rw [if_neg c367] at hf
      refine lv_aload_n hx hb dL_acts_809 rfl (lv_at hl 2 rfl) ?_
      refine lv_iload_n hx hb dL_acts_810 rfl (lv_at hl 5 rfl) ?_
      refine lv_iload_n hx hb dL_acts_811 rfl (lv_at hl 4 rfl) ?_
      refine lv_bipush (v := 9) hx hb dL_acts_812 (by decide) ?_
      refine lv_ishr hx hb dL_acts_814 ?_
      refine lv_sipush (v := 1000) hx hb dL_acts_815 (by decide) ?_
      obtain ⟨y374, h_y374, hf⟩ := bnd hf
      refine cl_iS C0 hH hl.1 (As := [.int (x2 >>> (9 &&& 31)), .int 1000]) (rest := [.int x3, .ref (h 2)]) (mL_up l D ca _ (x2 >>> (9 &&& 31)) 1000 h_y374) gL_acts_L_up rfl rfl rfl hd_L_up ⟨Nat.le_of_ble_eq_true rfl, Nat.le_of_ble_eq_true rfl⟩ ⟨Nat.zero_le _, Nat.zero_le _⟩ rfl (Nat.le_of_ble_eq_true rfl) dL_acts_818 (fun H locs hH => ?_)
      obtain ⟨y375, t376, u377, h378, S379, h_y375, hf⟩ := bndG hf
      refine cl_iS C0 hH hl.1 (As := [.ref (h 2), .int x3, .int y374]) (rest := []) (mL_writes l D ca a b h f wr t u hh S x3 y374 h_y375) gL_acts_L_writes rfl rfl rfl hd_L_writes ⟨Nat.le_of_ble_eq_true rfl, Nat.le_of_ble_eq_true rfl⟩ ⟨Nat.zero_le _, Nat.zero_le _⟩ rfl (Nat.le_of_ble_eq_true rfl) dL_acts_821 (fun H locs hH => ?_)
      refine lv_goto (tgt := 840) hx hb dL_acts_824 (by decide) ?_
      exact J840 _ _ _ _ _ _ _ _ hf hH (lv_sub hl [] rfl)
  have J54 : ∀ (x1 : Int32) (x2 : Int32) (x3 : Int32) (t : Mem) (u : Mem) (hh : Mem) (S : Nat → Mem) (H : Heap) (locs : List Loc) (ls : Array Slot), pL_acts_54 x1 x2 x3 t u hh S = some (r, (t9, u9, h9, S9)) → HS D A s (gW a b h f ca t u hh S wr) H locs → lv_has ls 26 [(0, .ref (h 2)), (1, .int x1), (2, .int x2), (3, .int x3)] → W p l e rmL_acts s m args below meth c H locs 0 0 Q (F0 m 54 ls []) := by
    intro x1 x2 x3 t u hh S H locs ls hf hH hl
    unfold pL_acts_54 at hf
    refine lv_iconst (v := 0) hx hb dL_acts_54 (by decide) ?_
    exact J55 _ _ _ _ _ _ _ _ _ _ _ hf hH (lv_sub hl [0, 1, 2, 3] rfl)
  have J35 : ∀ (x1 : Int32) (x2 : Int32) (s0 : Int32) (t : Mem) (u : Mem) (hh : Mem) (S : Nat → Mem) (H : Heap) (locs : List Loc) (ls : Array Slot), pL_acts_35 x1 x2 s0 t u hh S = some (r, (t9, u9, h9, S9)) → HS D A s (gW a b h f ca t u hh S wr) H locs → lv_has ls 26 [(0, .ref (h 2)), (1, .int x1), (2, .int x2)] → W p l e rmL_acts s m args below meth c H locs 0 0 Q (F0 m 35 ls [.int s0]) := by
    intro x1 x2 s0 t u hh S H locs ls hf hH hl
    unfold pL_acts_35 at hf
    refine lv_istore_n (lv' := [(3, .int s0), (0, .ref (h 2)), (1, .int x1), (2, .int x2)]) hx hb dL_acts_35 rfl hl (by decide) rfl (fun ls hl => ?_)
    refine lv_aload_n hx hb dL_acts_36 rfl (lv_at hl 1 rfl) ?_
    obtain ⟨y101, h_y101, hf⟩ := bnd hf
    refine cl_iV C0 hH hl.1 (As := []) (rest := []) (mX4_isOn l D ca a b h f wr t u hh S h_y101) gL_acts_X4_isOn rfl rfl rfl hd_X4_isOn ⟨Nat.le_of_ble_eq_true rfl, Nat.le_of_ble_eq_true rfl⟩ ⟨Nat.zero_le _, Nat.zero_le _⟩ (vG_X4 C0 hH) rfl (Nat.le_of_ble_eq_true rfl) dL_acts_37 (fun H locs hH => ?_)
    refine lv_if_eq (tgt := 54) hx hb dL_acts_40 (by decide) (fun c102 => ?_) (fun c102 => ?_)
    · rw [if_pos c102] at hf
      exact J54 _ _ _ _ _ _ _ _ _ _ hf hH (lv_sub hl [1, 2, 3, 0] rfl)
    · rw [if_neg c102] at hf
      refine lv_aload_n hx hb dL_acts_43 rfl (lv_at hl 1 rfl) ?_
      obtain ⟨y103, h_y103, hf⟩ := bnd hf
      refine cl_iV C0 hH hl.1 (As := []) (rest := []) (mX4_isIn l D ca a b h f wr t u hh S h_y103) gL_acts_X4_isIn rfl rfl rfl hd_X4_isIn ⟨Nat.le_of_ble_eq_true rfl, Nat.le_of_ble_eq_true rfl⟩ ⟨Nat.zero_le _, Nat.zero_le _⟩ (vG_X4 C0 hH) rfl (Nat.le_of_ble_eq_true rfl) dL_acts_44 (fun H locs hH => ?_)
      refine lv_if_eq (tgt := 54) hx hb dL_acts_47 (by decide) (fun c104 => ?_) (fun c104 => ?_)
      · rw [if_pos c104] at hf
        exact J54 _ _ _ _ _ _ _ _ _ _ hf hH (lv_sub hl [1, 2, 3, 0] rfl)
      · rw [if_neg c104] at hf
        refine lv_iconst (v := 1) hx hb dL_acts_50 (by decide) ?_
        refine lv_goto (tgt := 55) hx hb dL_acts_51 (by decide) ?_
        exact J55 _ _ _ _ _ _ _ _ _ _ _ hf hH (lv_sub hl [1, 2, 3, 0] rfl)
  unfold pL_acts at hf
  refine lv_iload_n hx hb dL_acts_0 rfl (lv_at hl 2 rfl) ?_
  refine lv_iconst (v := 3) hx hb dL_acts_1 (by decide) ?_
  refine lv_iand hx hb dL_acts_2 ?_
  refine lv_if_ne (tgt := 17) hx hb dL_acts_3 (by decide) (fun c1 => ?_) (fun c1 => ?_)
  · rw [if_neg c1] at hf
    refine lv_bipush (v := 16) hx hb dL_acts_17 (by decide) ?_
    refine lv_iload_n hx hb dL_acts_19 rfl (lv_at hl 2 rfl) ?_
    refine lv_iconst (v := 2) hx hb dL_acts_20 (by decide) ?_
    refine lv_ishr hx hb dL_acts_21 ?_
    refine lv_iconst (v := 4) hx hb dL_acts_22 (by decide) ?_
    obtain ⟨y2, h_y2, hf⟩ := bnd hf
    refine cl_iS C0 hH hl.1 (As := [.int (x2 >>> (2 &&& 31)), .int 4]) (rest := [.int 16]) (mL_up l D ca _ (x2 >>> (2 &&& 31)) 4 h_y2) gL_acts_L_up rfl rfl rfl hd_L_up ⟨Nat.le_of_ble_eq_true rfl, Nat.le_of_ble_eq_true rfl⟩ ⟨Nat.zero_le _, Nat.zero_le _⟩ rfl (Nat.le_of_ble_eq_true rfl) dL_acts_23 (fun H locs hH => ?_)
    refine lv_imul hx hb dL_acts_26 ?_
    refine lv_iload_n hx hb dL_acts_27 rfl (lv_at hl 2 rfl) ?_
    refine lv_iconst (v := 4) hx hb dL_acts_28 (by decide) ?_
    refine lv_ishr hx hb dL_acts_29 ?_
    refine lv_iconst (v := 5) hx hb dL_acts_30 (by decide) ?_
    obtain ⟨y3, h_y3, hf⟩ := bnd hf
    refine cl_iS C0 hH hl.1 (As := [.int (x2 >>> (4 &&& 31)), .int 5]) (rest := [.int (16 * y2)]) (mL_up l D ca _ (x2 >>> (4 &&& 31)) 5 h_y3) gL_acts_L_up rfl rfl rfl hd_L_up ⟨Nat.le_of_ble_eq_true rfl, Nat.le_of_ble_eq_true rfl⟩ ⟨Nat.zero_le _, Nat.zero_le _⟩ rfl (Nat.le_of_ble_eq_true rfl) dL_acts_31 (fun H locs hH => ?_)
    refine lv_iadd hx hb dL_acts_34 ?_
    exact J35 _ _ _ _ _ _ _ _ _ _ hf hH (lv_sub hl [0, 1, 2] rfl)
  · rw [if_pos c1] at hf
    refine lv_iload_n hx hb dL_acts_6 rfl (lv_at hl 2 rfl) ?_
    refine lv_iconst (v := 2) hx hb dL_acts_7 (by decide) ?_
    refine lv_ishr hx hb dL_acts_8 ?_
    refine lv_bipush (v := 64) hx hb dL_acts_9 (by decide) ?_
    obtain ⟨y4, h_y4, hf⟩ := bnd hf
    refine cl_iS C0 hH hl.1 (As := [.int (x2 >>> (2 &&& 31)), .int 64]) (rest := []) (mL_up l D ca _ (x2 >>> (2 &&& 31)) 64 h_y4) gL_acts_L_up rfl rfl rfl hd_L_up ⟨Nat.le_of_ble_eq_true rfl, Nat.le_of_ble_eq_true rfl⟩ ⟨Nat.zero_le _, Nat.zero_le _⟩ rfl (Nat.le_of_ble_eq_true rfl) dL_acts_11 (fun H locs hH => ?_)
    refine lv_goto (tgt := 35) hx hb dL_acts_14 (by decide) ?_
    exact J35 _ _ _ _ _ _ _ _ _ _ hf hH (lv_sub hl [0, 1, 2] rfl)
def pL_told_119b (t : Mem) (u : Mem) (hh : Mem) (S : Nat → Mem) (k : Int64 → Int32 → Option Int64) (x1 : Int64) (x3 : Int32) : Option Int64 :=
  if 64 ≤ x3 then
    some x1
  else
    (pX4_onDisk t u hh S x3).bind fun y302 =>
    (pX4_isFound t u hh S x3).bind fun y303 =>
    if y303 = 0 then
      k ((31 * ((31 * x1) + y302.toInt64)) + (0 : Int32).toInt64) (x3 + 1)
    else
      k ((31 * ((31 * x1) + y302.toInt64)) + (1 : Int32).toInt64) (x3 + 1)
def pL_told_119 (t : Mem) (u : Mem) (hh : Mem) (S : Nat → Mem) : Nat → Int64 → Int32 → Option Int64
  | 0, _, _ => none
  | n + 1, x1, x3 => pL_told_119b t u hh S (pL_told_119 t u hh S n) x1 x3
def pL_told_81b (t : Mem) (u : Mem) (hh : Mem) (S : Nat → Mem) (k : Int64 → Int32 → Option Int64) (x1 : Int64) (x3 : Int32) : Option Int64 :=
  if 60 ≤ x3 then
    pL_told_119 t u hh S FU x1 0
  else
    (pX4_line t u hh S (x3 / 15) ((x3 / 5) - (x3 / 5) / 3 * 3) (x3 - x3 / 5 * 5)).bind fun y202 =>
    k ((31 * x1) + y202.toInt64) (x3 + 1)
def pL_told_81 (t : Mem) (u : Mem) (hh : Mem) (S : Nat → Mem) : Nat → Int64 → Int32 → Option Int64
  | 0, _, _ => none
  | n + 1, x1, x3 => pL_told_81b t u hh S (pL_told_81 t u hh S n) x1 x3
def pL_told_54b (t : Mem) (u : Mem) (hh : Mem) (S : Nat → Mem) (k : Int64 → Int32 → Option Int64) (x1 : Int64) (x3 : Int32) : Option Int64 :=
  if 8 ≤ x3 then
    pL_told_81 t u hh S FU x1 0
  else
    (pX4_count t u hh S x3).bind fun y102 =>
    k ((31 * x1) + y102.toInt64) (x3 + 1)
def pL_told_54 (t : Mem) (u : Mem) (hh : Mem) (S : Nat → Mem) : Nat → Int64 → Int32 → Option Int64
  | 0, _, _ => none
  | n + 1, x1, x3 => pL_told_54b t u hh S (pL_told_54 t u hh S n) x1 x3
def pL_told (t : Mem) (u : Mem) (hh : Mem) (S : Nat → Mem) : Option Int64 :=
  (pX4_charge t u hh S).bind fun y1 =>
  (pX4_isOn t u hh S).bind fun y2 =>
  if y2 = 0 then
    (pX4_isIn t u hh S).bind fun y4 =>
    if y4 = 0 then
      (pX4_missing t u hh S).bind fun y6 =>
      pL_told_54 t u hh S FU ((31 * ((31 * ((31 * y1.toInt64) + (0 : Int32).toInt64)) + (0 : Int32).toInt64)) + y6.toInt64) 0
    else
      (pX4_missing t u hh S).bind fun y7 =>
      pL_told_54 t u hh S FU ((31 * ((31 * ((31 * y1.toInt64) + (0 : Int32).toInt64)) + (1 : Int32).toInt64)) + y7.toInt64) 0
  else
    (pX4_isIn t u hh S).bind fun y8 =>
    if y8 = 0 then
      (pX4_missing t u hh S).bind fun y10 =>
      pL_told_54 t u hh S FU ((31 * ((31 * ((31 * y1.toInt64) + (1 : Int32).toInt64)) + (0 : Int32).toInt64)) + y10.toInt64) 0
    else
      (pX4_missing t u hh S).bind fun y11 =>
      pL_told_54 t u hh S FU ((31 * ((31 * ((31 * y1.toInt64) + (1 : Int32).toInt64)) + (1 : Int32).toInt64)) + y11.toInt64) 0
def rmL_told : Room := { frames := 4, cells := 0, slots := 0, locals := 87 }
theorem hd_L_told : yL_told.cls ≠ "java/lang/invoke/MethodHandle" ∧ yL_told.cls ≠ "java/lang/invoke/VarHandle" ∧ (parseMethodDescriptor yL_told.desc).map (fun d => d.parameters.length) = some 1 := by decide +kernel
set_option maxHeartbeats 4000000 in
set_option maxRecDepth 100000 in
theorem mL_told (l : Launch) (D : va_G) (ca : Gp) (a b h : Nat → Nat) (f : Nat → Nat → Nat) (wr : va_W) (t u hh : Mem) (S : Nat → Mem) {r : Int64} (hf : pL_told t u hh S = some r) : Ml l yL_told wsL_told rmL_told D ca [.ref (h 2)] (gW a b h f ca t u hh S wr) (gW a b h f ca t u hh S wr) r := by
  refine Ml_of (own := RL) (cc := cL_told) (nL := 4) (by decide) rfl rfl rfl rfl (Nat.le_of_ble_eq_true rfl) ?_
  intro p e s m args below meth c Q A ls C0 hH hl hend
  obtain ⟨hx, hb, hml, hown, hts⟩ := id C0.1
  have hl : lv_has ls 4 [(0, .ref (h 2))] := hl
  have J119 : ∀ (n : Nat) (x1 : Int64) (x3 : Int32) (H : Heap) (locs : List Loc) (ls : Array Slot), pL_told_119 t u hh S n x1 x3 = some r → HS D A s (gW a b h f ca t u hh S wr) H locs → lv_has ls 4 [(0, .ref (h 2)), (1, .long x1), (3, .int x3)] → W p l e rmL_told s m args below meth c H locs 0 0 Q (F0 m 119 ls []) := by
    intro n
    induction n with
    | zero => intro x1 x3 H locs ls hf; cases hf
    | succ n ih =>
      intro x1 x3 H locs ls hf hH hl
      have hf : pL_told_119b t u hh S (pL_told_119 t u hh S n) x1 x3 = some r := hf
      unfold pL_told_119b at hf
      refine lv_iload_n hx hb dL_told_119 rfl (lv_at hl 2 rfl) ?_
      refine lv_bipush (v := 64) hx hb dL_told_120 (by decide) ?_
      refine lv_icmp_ge (tgt := 163) hx hb dL_told_122 (by decide) (fun c301 => ?_) (fun c301 => ?_)
      · rw [if_pos c301] at hf
        refine lv_lload_n hx hb dL_told_163 rfl (lv_at hl 1 rfl) ?_
        cases hf
        exact hend _ _ _ _ hH dL_told_164
      · rw [if_neg c301] at hf
        refine lv_ldc2 (own := RL) (v := 31) hx hb hown (hts (.constantLong RL 9 (31)) (by decide +kernel)) dL_told_125 ?_
        refine lv_ldc2 (own := RL) (v := 31) hx hb hown (hts (.constantLong RL 9 (31)) (by decide +kernel)) dL_told_128 ?_
        refine lv_lload_n hx hb dL_told_131 rfl (lv_at hl 1 rfl) ?_
        refine lv_lmul hx hb dL_told_132 ?_
        refine lv_aload_n hx hb dL_told_133 rfl (lv_at hl 0 rfl) ?_
        refine lv_iload_n hx hb dL_told_134 rfl (lv_at hl 2 rfl) ?_
        obtain ⟨y302, h_y302, hf⟩ := bnd hf
        refine cl_iV C0 hH hl.1 (As := [.int x3]) (rest := [.long (31 * x1), .long 31]) (mX4_onDisk l D ca a b h f wr t u hh S x3 h_y302) gL_told_X4_onDisk rfl rfl rfl hd_X4_onDisk ⟨Nat.le_of_ble_eq_true rfl, Nat.le_of_ble_eq_true rfl⟩ ⟨Nat.zero_le _, Nat.zero_le _⟩ (vG_X4 C0 hH) rfl (Nat.le_of_ble_eq_true rfl) dL_told_135 (fun H locs hH => ?_)
        refine lv_i2l (v := y302.toInt64) hx hb dL_told_138 rfl ?_
        refine lv_ladd hx hb dL_told_139 ?_
        refine lv_lmul hx hb dL_told_140 ?_
        refine lv_aload_n hx hb dL_told_141 rfl (lv_at hl 0 rfl) ?_
        refine lv_iload_n hx hb dL_told_142 rfl (lv_at hl 2 rfl) ?_
        obtain ⟨y303, h_y303, hf⟩ := bnd hf
        refine cl_iV C0 hH hl.1 (As := [.int x3]) (rest := [.long (31 * ((31 * x1) + y302.toInt64))]) (mX4_isFound l D ca a b h f wr t u hh S x3 h_y303) gL_told_X4_isFound rfl rfl rfl hd_X4_isFound ⟨Nat.le_of_ble_eq_true rfl, Nat.le_of_ble_eq_true rfl⟩ ⟨Nat.zero_le _, Nat.zero_le _⟩ (vG_X4 C0 hH) rfl (Nat.le_of_ble_eq_true rfl) dL_told_143 (fun H locs hH => ?_)
        refine lv_if_eq (tgt := 153) hx hb dL_told_146 (by decide) (fun c304 => ?_) (fun c304 => ?_)
        · rw [if_pos c304] at hf
          refine lv_iconst (v := 0) hx hb dL_told_153 (by decide) ?_
          refine lv_i2l (v := (0 : Int32).toInt64) hx hb dL_told_154 rfl ?_
          refine lv_ladd hx hb dL_told_155 ?_
          refine lv_lstore_n (lv' := [(1, .long ((31 * ((31 * x1) + y302.toInt64)) + (0 : Int32).toInt64)), (0, .ref (h 2)), (3, .int x3)]) hx hb dL_told_156 rfl hl (by decide) rfl (fun ls hl => ?_)
          refine lv_iinc (v := (x3 + 1)) (lv' := [(3, .int (x3 + 1)), (1, .long ((31 * ((31 * x1) + y302.toInt64)) + (0 : Int32).toInt64)), (0, .ref (h 2))]) hx hb dL_told_157 hl (k := 2) rfl rfl (by decide) rfl (fun ls hl => ?_)
          refine lv_goto (tgt := 119) hx hb dL_told_160 (by decide) ?_
          exact ih _ _ _ _ _ hf hH (lv_sub hl [2, 1, 0] rfl)
        · rw [if_neg c304] at hf
          refine lv_iconst (v := 1) hx hb dL_told_149 (by decide) ?_
          refine lv_goto (tgt := 154) hx hb dL_told_150 (by decide) ?_
          refine lv_i2l (v := (1 : Int32).toInt64) hx hb dL_told_154 rfl ?_
          refine lv_ladd hx hb dL_told_155 ?_
          refine lv_lstore_n (lv' := [(1, .long ((31 * ((31 * x1) + y302.toInt64)) + (1 : Int32).toInt64)), (0, .ref (h 2)), (3, .int x3)]) hx hb dL_told_156 rfl hl (by decide) rfl (fun ls hl => ?_)
          refine lv_iinc (v := (x3 + 1)) (lv' := [(3, .int (x3 + 1)), (1, .long ((31 * ((31 * x1) + y302.toInt64)) + (1 : Int32).toInt64)), (0, .ref (h 2))]) hx hb dL_told_157 hl (k := 2) rfl rfl (by decide) rfl (fun ls hl => ?_)
          refine lv_goto (tgt := 119) hx hb dL_told_160 (by decide) ?_
          exact ih _ _ _ _ _ hf hH (lv_sub hl [2, 1, 0] rfl)
  have J81 : ∀ (n : Nat) (x1 : Int64) (x3 : Int32) (H : Heap) (locs : List Loc) (ls : Array Slot), pL_told_81 t u hh S n x1 x3 = some r → HS D A s (gW a b h f ca t u hh S wr) H locs → lv_has ls 4 [(0, .ref (h 2)), (1, .long x1), (3, .int x3)] → W p l e rmL_told s m args below meth c H locs 0 0 Q (F0 m 81 ls []) := by
    intro n
    induction n with
    | zero => intro x1 x3 H locs ls hf; cases hf
    | succ n ih =>
      intro x1 x3 H locs ls hf hH hl
      have hf : pL_told_81b t u hh S (pL_told_81 t u hh S n) x1 x3 = some r := hf
      unfold pL_told_81b at hf
      refine lv_iload_n hx hb dL_told_81 rfl (lv_at hl 2 rfl) ?_
      refine lv_bipush (v := 60) hx hb dL_told_82 (by decide) ?_
      refine lv_icmp_ge (tgt := 117) hx hb dL_told_84 (by decide) (fun c201 => ?_) (fun c201 => ?_)
      · rw [if_pos c201] at hf
        refine lv_iconst (v := 0) hx hb dL_told_117 (by decide) ?_
        refine lv_istore_n (lv' := [(3, .int 0), (0, .ref (h 2)), (1, .long x1)]) hx hb dL_told_118 rfl hl (by decide) rfl (fun ls hl => ?_)
        exact J119 FU _ _ _ _ _ hf hH (lv_sub hl [1, 2, 0] rfl)
      · rw [if_neg c201] at hf
        refine lv_ldc2 (own := RL) (v := 31) hx hb hown (hts (.constantLong RL 9 (31)) (by decide +kernel)) dL_told_87 ?_
        refine lv_lload_n hx hb dL_told_90 rfl (lv_at hl 1 rfl) ?_
        refine lv_lmul hx hb dL_told_91 ?_
        refine lv_aload_n hx hb dL_told_92 rfl (lv_at hl 0 rfl) ?_
        refine lv_iload_n hx hb dL_told_93 rfl (lv_at hl 2 rfl) ?_
        refine lv_bipush (v := 15) hx hb dL_told_94 (by decide) ?_
        refine lv_idiv hx hb dL_told_96 (by decide) ?_
        refine lv_iload_n hx hb dL_told_97 rfl (lv_at hl 2 rfl) ?_
        refine lv_iconst (v := 5) hx hb dL_told_98 (by decide) ?_
        refine lv_idiv hx hb dL_told_99 (by decide) ?_
        refine lv_iconst (v := 3) hx hb dL_told_100 (by decide) ?_
        refine lv_irem hx hb dL_told_101 (by decide) ?_
        refine lv_iload_n hx hb dL_told_102 rfl (lv_at hl 2 rfl) ?_
        refine lv_iconst (v := 5) hx hb dL_told_103 (by decide) ?_
        refine lv_irem hx hb dL_told_104 (by decide) ?_
        obtain ⟨y202, h_y202, hf⟩ := bnd hf
        refine cl_iV C0 hH hl.1 (As := [.int (x3 / 15), .int ((x3 / 5) - (x3 / 5) / 3 * 3), .int (x3 - x3 / 5 * 5)]) (rest := [.long (31 * x1)]) (mX4_line l D ca a b h f wr t u hh S (x3 / 15) ((x3 / 5) - (x3 / 5) / 3 * 3) (x3 - x3 / 5 * 5) h_y202) gL_told_X4_line rfl rfl rfl hd_X4_line ⟨Nat.le_of_ble_eq_true rfl, Nat.le_of_ble_eq_true rfl⟩ ⟨Nat.zero_le _, Nat.zero_le _⟩ (vG_X4 C0 hH) rfl (Nat.le_of_ble_eq_true rfl) dL_told_105 (fun H locs hH => ?_)
        refine lv_i2l (v := y202.toInt64) hx hb dL_told_108 rfl ?_
        refine lv_ladd hx hb dL_told_109 ?_
        refine lv_lstore_n (lv' := [(1, .long ((31 * x1) + y202.toInt64)), (0, .ref (h 2)), (3, .int x3)]) hx hb dL_told_110 rfl hl (by decide) rfl (fun ls hl => ?_)
        refine lv_iinc (v := (x3 + 1)) (lv' := [(3, .int (x3 + 1)), (1, .long ((31 * x1) + y202.toInt64)), (0, .ref (h 2))]) hx hb dL_told_111 hl (k := 2) rfl rfl (by decide) rfl (fun ls hl => ?_)
        refine lv_goto (tgt := 81) hx hb dL_told_114 (by decide) ?_
        exact ih _ _ _ _ _ hf hH (lv_sub hl [2, 1, 0] rfl)
  have J54 : ∀ (n : Nat) (x1 : Int64) (x3 : Int32) (H : Heap) (locs : List Loc) (ls : Array Slot), pL_told_54 t u hh S n x1 x3 = some r → HS D A s (gW a b h f ca t u hh S wr) H locs → lv_has ls 4 [(0, .ref (h 2)), (1, .long x1), (3, .int x3)] → W p l e rmL_told s m args below meth c H locs 0 0 Q (F0 m 54 ls []) := by
    intro n
    induction n with
    | zero => intro x1 x3 H locs ls hf; cases hf
    | succ n ih =>
      intro x1 x3 H locs ls hf hH hl
      have hf : pL_told_54b t u hh S (pL_told_54 t u hh S n) x1 x3 = some r := hf
      unfold pL_told_54b at hf
      refine lv_iload_n hx hb dL_told_54 rfl (lv_at hl 2 rfl) ?_
      refine lv_bipush (v := 8) hx hb dL_told_55 (by decide) ?_
      refine lv_icmp_ge (tgt := 79) hx hb dL_told_57 (by decide) (fun c101 => ?_) (fun c101 => ?_)
      · rw [if_pos c101] at hf
        refine lv_iconst (v := 0) hx hb dL_told_79 (by decide) ?_
        refine lv_istore_n (lv' := [(3, .int 0), (0, .ref (h 2)), (1, .long x1)]) hx hb dL_told_80 rfl hl (by decide) rfl (fun ls hl => ?_)
        exact J81 FU _ _ _ _ _ hf hH (lv_sub hl [1, 2, 0] rfl)
      · rw [if_neg c101] at hf
        refine lv_ldc2 (own := RL) (v := 31) hx hb hown (hts (.constantLong RL 9 (31)) (by decide +kernel)) dL_told_60 ?_
        refine lv_lload_n hx hb dL_told_63 rfl (lv_at hl 1 rfl) ?_
        refine lv_lmul hx hb dL_told_64 ?_
        refine lv_aload_n hx hb dL_told_65 rfl (lv_at hl 0 rfl) ?_
        refine lv_iload_n hx hb dL_told_66 rfl (lv_at hl 2 rfl) ?_
        obtain ⟨y102, h_y102, hf⟩ := bnd hf
        refine cl_iV C0 hH hl.1 (As := [.int x3]) (rest := [.long (31 * x1)]) (mX4_count l D ca a b h f wr t u hh S x3 h_y102) gL_told_X4_count rfl rfl rfl hd_X4_count ⟨Nat.le_of_ble_eq_true rfl, Nat.le_of_ble_eq_true rfl⟩ ⟨Nat.zero_le _, Nat.zero_le _⟩ (vG_X4 C0 hH) rfl (Nat.le_of_ble_eq_true rfl) dL_told_67 (fun H locs hH => ?_)
        refine lv_i2l (v := y102.toInt64) hx hb dL_told_70 rfl ?_
        refine lv_ladd hx hb dL_told_71 ?_
        refine lv_lstore_n (lv' := [(1, .long ((31 * x1) + y102.toInt64)), (0, .ref (h 2)), (3, .int x3)]) hx hb dL_told_72 rfl hl (by decide) rfl (fun ls hl => ?_)
        refine lv_iinc (v := (x3 + 1)) (lv' := [(3, .int (x3 + 1)), (1, .long ((31 * x1) + y102.toInt64)), (0, .ref (h 2))]) hx hb dL_told_73 hl (k := 2) rfl rfl (by decide) rfl (fun ls hl => ?_)
        refine lv_goto (tgt := 54) hx hb dL_told_76 (by decide) ?_
        exact ih _ _ _ _ _ hf hH (lv_sub hl [2, 1, 0] rfl)
  unfold pL_told at hf
  refine lv_ldc2 (own := RL) (v := 31) hx hb hown (hts (.constantLong RL 9 (31)) (by decide +kernel)) dL_told_0 ?_
  refine lv_ldc2 (own := RL) (v := 31) hx hb hown (hts (.constantLong RL 9 (31)) (by decide +kernel)) dL_told_3 ?_
  refine lv_ldc2 (own := RL) (v := 31) hx hb hown (hts (.constantLong RL 9 (31)) (by decide +kernel)) dL_told_6 ?_
  refine lv_aload_n hx hb dL_told_9 rfl (lv_at hl 0 rfl) ?_
  obtain ⟨y1, h_y1, hf⟩ := bnd hf
  refine cl_iV C0 hH hl.1 (As := []) (rest := [.long 31, .long 31, .long 31]) (mX4_charge l D ca a b h f wr t u hh S h_y1) gL_told_X4_charge rfl rfl rfl hd_X4_charge ⟨Nat.le_of_ble_eq_true rfl, Nat.le_of_ble_eq_true rfl⟩ ⟨Nat.zero_le _, Nat.zero_le _⟩ (vG_X4 C0 hH) rfl (Nat.le_of_ble_eq_true rfl) dL_told_10 (fun H locs hH => ?_)
  refine lv_i2l (v := y1.toInt64) hx hb dL_told_13 rfl ?_
  refine lv_lmul hx hb dL_told_14 ?_
  refine lv_aload_n hx hb dL_told_15 rfl (lv_at hl 0 rfl) ?_
  obtain ⟨y2, h_y2, hf⟩ := bnd hf
  refine cl_iV C0 hH hl.1 (As := []) (rest := [.long (31 * y1.toInt64), .long 31, .long 31]) (mX4_isOn l D ca a b h f wr t u hh S h_y2) gL_told_X4_isOn rfl rfl rfl hd_X4_isOn ⟨Nat.le_of_ble_eq_true rfl, Nat.le_of_ble_eq_true rfl⟩ ⟨Nat.zero_le _, Nat.zero_le _⟩ (vG_X4 C0 hH) rfl (Nat.le_of_ble_eq_true rfl) dL_told_16 (fun H locs hH => ?_)
  refine lv_if_eq (tgt := 26) hx hb dL_told_19 (by decide) (fun c3 => ?_) (fun c3 => ?_)
  · rw [if_pos c3] at hf
    refine lv_iconst (v := 0) hx hb dL_told_26 (by decide) ?_
    refine lv_i2l (v := (0 : Int32).toInt64) hx hb dL_told_27 rfl ?_
    refine lv_ladd hx hb dL_told_28 ?_
    refine lv_lmul hx hb dL_told_29 ?_
    refine lv_aload_n hx hb dL_told_30 rfl (lv_at hl 0 rfl) ?_
    obtain ⟨y4, h_y4, hf⟩ := bnd hf
    refine cl_iV C0 hH hl.1 (As := []) (rest := [.long (31 * ((31 * y1.toInt64) + (0 : Int32).toInt64)), .long 31]) (mX4_isIn l D ca a b h f wr t u hh S h_y4) gL_told_X4_isIn rfl rfl rfl hd_X4_isIn ⟨Nat.le_of_ble_eq_true rfl, Nat.le_of_ble_eq_true rfl⟩ ⟨Nat.zero_le _, Nat.zero_le _⟩ (vG_X4 C0 hH) rfl (Nat.le_of_ble_eq_true rfl) dL_told_31 (fun H locs hH => ?_)
    refine lv_if_eq (tgt := 41) hx hb dL_told_34 (by decide) (fun c5 => ?_) (fun c5 => ?_)
    · rw [if_pos c5] at hf
      refine lv_iconst (v := 0) hx hb dL_told_41 (by decide) ?_
      refine lv_i2l (v := (0 : Int32).toInt64) hx hb dL_told_42 rfl ?_
      refine lv_ladd hx hb dL_told_43 ?_
      refine lv_lmul hx hb dL_told_44 ?_
      refine lv_aload_n hx hb dL_told_45 rfl (lv_at hl 0 rfl) ?_
      obtain ⟨y6, h_y6, hf⟩ := bnd hf
      refine cl_iV C0 hH hl.1 (As := []) (rest := [.long (31 * ((31 * ((31 * y1.toInt64) + (0 : Int32).toInt64)) + (0 : Int32).toInt64))]) (mX4_missing l D ca a b h f wr t u hh S h_y6) gL_told_X4_missing rfl rfl rfl hd_X4_missing ⟨Nat.le_of_ble_eq_true rfl, Nat.le_of_ble_eq_true rfl⟩ ⟨Nat.zero_le _, Nat.zero_le _⟩ (vG_X4 C0 hH) rfl (Nat.le_of_ble_eq_true rfl) dL_told_46 (fun H locs hH => ?_)
      refine lv_i2l (v := y6.toInt64) hx hb dL_told_49 rfl ?_
      refine lv_ladd hx hb dL_told_50 ?_
      refine lv_lstore_n (lv' := [(1, .long ((31 * ((31 * ((31 * y1.toInt64) + (0 : Int32).toInt64)) + (0 : Int32).toInt64)) + y6.toInt64)), (0, .ref (h 2))]) hx hb dL_told_51 rfl hl (by decide) rfl (fun ls hl => ?_)
      refine lv_iconst (v := 0) hx hb dL_told_52 (by decide) ?_
      refine lv_istore_n (lv' := [(3, .int 0), (1, .long ((31 * ((31 * ((31 * y1.toInt64) + (0 : Int32).toInt64)) + (0 : Int32).toInt64)) + y6.toInt64)), (0, .ref (h 2))]) hx hb dL_told_53 rfl hl (by decide) rfl (fun ls hl => ?_)
      exact J54 FU _ _ _ _ _ hf hH (lv_sub hl [2, 1, 0] rfl)
    · rw [if_neg c5] at hf
      refine lv_iconst (v := 1) hx hb dL_told_37 (by decide) ?_
      refine lv_goto (tgt := 42) hx hb dL_told_38 (by decide) ?_
      refine lv_i2l (v := (1 : Int32).toInt64) hx hb dL_told_42 rfl ?_
      refine lv_ladd hx hb dL_told_43 ?_
      refine lv_lmul hx hb dL_told_44 ?_
      refine lv_aload_n hx hb dL_told_45 rfl (lv_at hl 0 rfl) ?_
      obtain ⟨y7, h_y7, hf⟩ := bnd hf
      refine cl_iV C0 hH hl.1 (As := []) (rest := [.long (31 * ((31 * ((31 * y1.toInt64) + (0 : Int32).toInt64)) + (1 : Int32).toInt64))]) (mX4_missing l D ca a b h f wr t u hh S h_y7) gL_told_X4_missing rfl rfl rfl hd_X4_missing ⟨Nat.le_of_ble_eq_true rfl, Nat.le_of_ble_eq_true rfl⟩ ⟨Nat.zero_le _, Nat.zero_le _⟩ (vG_X4 C0 hH) rfl (Nat.le_of_ble_eq_true rfl) dL_told_46 (fun H locs hH => ?_)
      refine lv_i2l (v := y7.toInt64) hx hb dL_told_49 rfl ?_
      refine lv_ladd hx hb dL_told_50 ?_
      refine lv_lstore_n (lv' := [(1, .long ((31 * ((31 * ((31 * y1.toInt64) + (0 : Int32).toInt64)) + (1 : Int32).toInt64)) + y7.toInt64)), (0, .ref (h 2))]) hx hb dL_told_51 rfl hl (by decide) rfl (fun ls hl => ?_)
      refine lv_iconst (v := 0) hx hb dL_told_52 (by decide) ?_
      refine lv_istore_n (lv' := [(3, .int 0), (1, .long ((31 * ((31 * ((31 * y1.toInt64) + (0 : Int32).toInt64)) + (1 : Int32).toInt64)) + y7.toInt64)), (0, .ref (h 2))]) hx hb dL_told_53 rfl hl (by decide) rfl (fun ls hl => ?_)
      exact J54 FU _ _ _ _ _ hf hH (lv_sub hl [2, 1, 0] rfl)
  · rw [if_neg c3] at hf
    refine lv_iconst (v := 1) hx hb dL_told_22 (by decide) ?_
    refine lv_goto (tgt := 27) hx hb dL_told_23 (by decide) ?_
    refine lv_i2l (v := (1 : Int32).toInt64) hx hb dL_told_27 rfl ?_
    refine lv_ladd hx hb dL_told_28 ?_
    refine lv_lmul hx hb dL_told_29 ?_
    refine lv_aload_n hx hb dL_told_30 rfl (lv_at hl 0 rfl) ?_
    obtain ⟨y8, h_y8, hf⟩ := bnd hf
    refine cl_iV C0 hH hl.1 (As := []) (rest := [.long (31 * ((31 * y1.toInt64) + (1 : Int32).toInt64)), .long 31]) (mX4_isIn l D ca a b h f wr t u hh S h_y8) gL_told_X4_isIn rfl rfl rfl hd_X4_isIn ⟨Nat.le_of_ble_eq_true rfl, Nat.le_of_ble_eq_true rfl⟩ ⟨Nat.zero_le _, Nat.zero_le _⟩ (vG_X4 C0 hH) rfl (Nat.le_of_ble_eq_true rfl) dL_told_31 (fun H locs hH => ?_)
    refine lv_if_eq (tgt := 41) hx hb dL_told_34 (by decide) (fun c9 => ?_) (fun c9 => ?_)
    · rw [if_pos c9] at hf
      refine lv_iconst (v := 0) hx hb dL_told_41 (by decide) ?_
      refine lv_i2l (v := (0 : Int32).toInt64) hx hb dL_told_42 rfl ?_
      refine lv_ladd hx hb dL_told_43 ?_
      refine lv_lmul hx hb dL_told_44 ?_
      refine lv_aload_n hx hb dL_told_45 rfl (lv_at hl 0 rfl) ?_
      obtain ⟨y10, h_y10, hf⟩ := bnd hf
      refine cl_iV C0 hH hl.1 (As := []) (rest := [.long (31 * ((31 * ((31 * y1.toInt64) + (1 : Int32).toInt64)) + (0 : Int32).toInt64))]) (mX4_missing l D ca a b h f wr t u hh S h_y10) gL_told_X4_missing rfl rfl rfl hd_X4_missing ⟨Nat.le_of_ble_eq_true rfl, Nat.le_of_ble_eq_true rfl⟩ ⟨Nat.zero_le _, Nat.zero_le _⟩ (vG_X4 C0 hH) rfl (Nat.le_of_ble_eq_true rfl) dL_told_46 (fun H locs hH => ?_)
      refine lv_i2l (v := y10.toInt64) hx hb dL_told_49 rfl ?_
      refine lv_ladd hx hb dL_told_50 ?_
      refine lv_lstore_n (lv' := [(1, .long ((31 * ((31 * ((31 * y1.toInt64) + (1 : Int32).toInt64)) + (0 : Int32).toInt64)) + y10.toInt64)), (0, .ref (h 2))]) hx hb dL_told_51 rfl hl (by decide) rfl (fun ls hl => ?_)
      refine lv_iconst (v := 0) hx hb dL_told_52 (by decide) ?_
      refine lv_istore_n (lv' := [(3, .int 0), (1, .long ((31 * ((31 * ((31 * y1.toInt64) + (1 : Int32).toInt64)) + (0 : Int32).toInt64)) + y10.toInt64)), (0, .ref (h 2))]) hx hb dL_told_53 rfl hl (by decide) rfl (fun ls hl => ?_)
      exact J54 FU _ _ _ _ _ hf hH (lv_sub hl [2, 1, 0] rfl)
    · rw [if_neg c9] at hf
      refine lv_iconst (v := 1) hx hb dL_told_37 (by decide) ?_
      refine lv_goto (tgt := 42) hx hb dL_told_38 (by decide) ?_
      refine lv_i2l (v := (1 : Int32).toInt64) hx hb dL_told_42 rfl ?_
      refine lv_ladd hx hb dL_told_43 ?_
      refine lv_lmul hx hb dL_told_44 ?_
      refine lv_aload_n hx hb dL_told_45 rfl (lv_at hl 0 rfl) ?_
      obtain ⟨y11, h_y11, hf⟩ := bnd hf
      refine cl_iV C0 hH hl.1 (As := []) (rest := [.long (31 * ((31 * ((31 * y1.toInt64) + (1 : Int32).toInt64)) + (1 : Int32).toInt64))]) (mX4_missing l D ca a b h f wr t u hh S h_y11) gL_told_X4_missing rfl rfl rfl hd_X4_missing ⟨Nat.le_of_ble_eq_true rfl, Nat.le_of_ble_eq_true rfl⟩ ⟨Nat.zero_le _, Nat.zero_le _⟩ (vG_X4 C0 hH) rfl (Nat.le_of_ble_eq_true rfl) dL_told_46 (fun H locs hH => ?_)
      refine lv_i2l (v := y11.toInt64) hx hb dL_told_49 rfl ?_
      refine lv_ladd hx hb dL_told_50 ?_
      refine lv_lstore_n (lv' := [(1, .long ((31 * ((31 * ((31 * y1.toInt64) + (1 : Int32).toInt64)) + (1 : Int32).toInt64)) + y11.toInt64)), (0, .ref (h 2))]) hx hb dL_told_51 rfl hl (by decide) rfl (fun ls hl => ?_)
      refine lv_iconst (v := 0) hx hb dL_told_52 (by decide) ?_
      refine lv_istore_n (lv' := [(3, .int 0), (1, .long ((31 * ((31 * ((31 * y1.toInt64) + (1 : Int32).toInt64)) + (1 : Int32).toInt64)) + y11.toInt64)), (0, .ref (h 2))]) hx hb dL_told_53 rfl hl (by decide) rfl (fun ls hl => ?_)
      exact J54 FU _ _ _ _ _ hf hH (lv_sub hl [2, 1, 0] rfl)
