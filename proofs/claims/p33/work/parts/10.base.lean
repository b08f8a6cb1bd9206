/-! THE WORDS OF THIS PROOF. A memory is a function (which thing, which place) -> number; a world is the cells that hold it. -/
abbrev Mem : Type := Nat → Nat → Int32
def mset (u : Mem) (k i : Nat) (v : Int32) : Mem := fun k' => bif Nat.beq k' k then upd (u k) i v else u k'
def inB (i : Int32) (n : Nat) : Bool := !(decide (i < 0) || decide (n ≤ i.toNatClampNeg))
def isz (v : Int32) : Bool := decide (v = 0) || decide (v = 1)
def isch (v : Int32) : Bool := decide (0 ≤ v) && decide (v ≤ 65535)
/-- reading, writing a row's place; writing a field; a field that is a truth value -/
def ld (u : Mem) (k n : Nat) (i : Int32) : Option Int32 := if inB i n = true then some (u k i.toNatClampNeg) else none
def st (u : Mem) (k n : Nat) (i v : Int32) : Option Mem := if inB i n = true then some (mset u k i.toNatClampNeg v) else none
def pf (u : Mem) (k i : Nat) (v : Int32) : Option Mem := some (mset u k i v)
def pz (u : Mem) (k i : Nat) (v : Int32) : Option Mem := if isz v = true then some (mset u k i v) else none
def bd2 {α : Type} (o : Option (Int32 × Mem)) (f : Int32 → Mem → Option α) : Option α := match o with
  | none => none
  | some q => f q.1 q.2
theorem inB_in {i : Int32} {n : Nat} (h : inB i n = true) : vp_in i n := by
  unfold inB at h
  unfold vp_in
  simp only [Bool.not_eq_true', Bool.or_eq_false_iff, decide_eq_false_iff_not] at h
  exact fun q => q.elim h.1 h.2
theorem in_inB {i : Int32} {n : Nat} (h : vp_in i n) : inB i n = true := by
  unfold inB
  unfold vp_in at h
  simp only [Bool.not_eq_true', Bool.or_eq_false_iff, decide_eq_false_iff_not]
  exact ⟨fun q => h (Or.inl q), fun q => h (Or.inr q)⟩
theorem ld_s {u : Mem} {k n : Nat} {i x : Int32} (h : ld u k n i = some x) : vp_in i n ∧ x = u k i.toNatClampNeg := by
  unfold ld at h
  by_cases c : inB i n = true
  · rw [if_pos c] at h
    exact ⟨inB_in c, (Option.some.inj h).symm⟩
  · rw [if_neg c] at h; cases h
theorem st_s {u u' : Mem} {k n : Nat} {i x : Int32} (h : st u k n i x = some u') : vp_in i n ∧ u' = mset u k i.toNatClampNeg x := by
  unfold st at h
  by_cases c : inB i n = true
  · rw [if_pos c] at h
    exact ⟨inB_in c, (Option.some.inj h).symm⟩
  · rw [if_neg c] at h; cases h
theorem pf_s {u u' : Mem} {k i : Nat} {x : Int32} (h : pf u k i x = some u') : u' = mset u k i x := (Option.some.inj h).symm
theorem pz_s {u u' : Mem} {k i : Nat} {x : Int32} (h : pz u k i x = some u') : isz x = true ∧ u' = mset u k i x := by
  unfold pz at h
  by_cases c : isz x = true
  · rw [if_pos c] at h
    exact ⟨c, (Option.some.inj h).symm⟩
  · rw [if_neg c] at h; cases h
theorem bnd {α β : Type} {o : Option α} {f : α → Option β} {z : β} (h : o.bind f = some z) : ∃ a, o = some a ∧ f a = some z := by
  cases o with
  | none => cases h
  | some a => exact ⟨a, rfl, h⟩
theorem bnd2 {α : Type} {o : Option (Int32 × Mem)} {f : Int32 → Mem → Option α} {z : α} (h : bd2 o f = some z) : ∃ x u, o = some (x, u) ∧ f x u = some z := by
  cases o with
  | none => cases h
  | some q => exact ⟨q.1, q.2, rfl, h⟩
theorem gd {α : Type} {b : Bool} {o : Option α} {z : α} (h : (if b = true then o else none) = some z) : b = true ∧ o = some z := by
  by_cases c : b = true
  · rw [if_pos c] at h; exact ⟨c, h⟩
  · rw [if_neg c] at h; cases h
theorem isz_n {v : Int32} (h : isz v = true) : narrow .boolean (.int v) = .int v := by
  unfold isz at h
  simp only [Bool.or_eq_true, decide_eq_true_eq] at h
  rcases h with rfl | rfl <;> rfl
theorem isz_f {v : Int32} (h : isz v = true) : fits .boolean (.int v) = true := by
  unfold isz at h
  simp only [Bool.or_eq_true, decide_eq_true_eq] at h
  rcases h with rfl | rfl <;> rfl
theorem isch_of {v : Int32} (h : isch v = true) : ∃ q : Nat, q < 65536 ∧ v = nI q := by
  unfold isch at h
  simp only [Bool.and_eq_true, decide_eq_true_eq] at h
  obtain ⟨h0, h1⟩ := h
  obtain ⟨j, hj, e⟩ := nI_of2 (x := v) (M := 65535) (n := 65535) (by decide) (Int32.not_lt.mpr h0) h1
  exact ⟨j, by omega, e⟩
theorem isch_n {v : Int32} (h : isch v = true) : narrow .char (.int v) = .int v := by
  obtain ⟨q, hq, rfl⟩ := isch_of h
  exact (pk_charN hq).1
theorem isch_v {v : Int32} (h : isch v = true) : vp_nar .char v = v := by
  unfold vp_nar
  rw [isch_n h]
theorem isz_v {v : Int32} (h : isz v = true) : vp_nar .boolean v = v := by
  unfold vp_nar
  rw [isz_n h]
theorem isz_nb {v : Int32} (h : isz v = true) : narrow .byte (.int v) = .int v := by
  unfold isz at h
  simp only [Bool.or_eq_true, decide_eq_true_eq] at h
  rcases h with rfl | rfl <;> rfl
/-- rows of truth values and of signs: what is written must fit -/
def stz (u : Mem) (k n : Nat) (i v : Int32) : Option Mem := if isz v = true then st u k n i v else none
def stc (u : Mem) (k n : Nat) (i v : Int32) : Option Mem := if isch v = true then st u k n i v else none
def nzr (y : Int32) : Option Unit := if y = 0 then none else some ()
theorem nzr_s {y : Int32} {q : Unit} (h : nzr y = some q) : ¬ y = 0 := by
  intro e
  unfold nzr at h
  rw [if_pos e] at h
  cases h
def FU : Nat := 1000
-- the kinds of arrays, by number: int, boolean, char, State
-- ca: the numbers of these kinds; where the written texts and their signs lie
abbrev Gp : Type := (Nat → ClassId) × (Nat → Nat) × (Nat → Nat)
abbrev tysA (ca : Gp) : List (ClassId × FieldType) := [(ca.1 0, .int), (ca.1 1, .boolean), (ca.1 2, .char), (ca.1 3, .object "GatheringCache$State")]
-- what the tables and the old heap say beside a method's own words
def nestL : List (String × Nat × MethodName × String) := [
  (RX4, 9, yX1_init, "GatheringCache"), (RX0, 17, yX1_init, "GatheringCache"), (RX4, 25, yX3_init, "GatheringCache"),
  (RX2, 63, yX4_stripeOf, "GatheringCache"), (RX1, 55, yX4_isBlock, "GatheringCache"), (RX1, 59, yX4_readsToWrite, "GatheringCache"),
  (RX1, 63, yX4_writesToWrite, "GatheringCache"), (RX1, 83, yX4_isLine, "GatheringCache"), (RX1, 152, yX4_operationsToWrite, "GatheringCache"),
  (RX1, 77, yX4_stripeOf, "GatheringCache"), (RX2, 55, yX4_isLine, "GatheringCache")]
def EV (_ca : Gp) (_A : Nat → Prop) (U : State) : Prop :=
  (∀ q ∈ nestL, va_Nw (.methodLinkNest q.1 q.2.1 q.2.2.1 q.2.2.2) U) ∧ (True ∧ True ∧ True ∧ va_AO "GatheringCache$State" U) ∧ True
theorem EV.call {ca : Gp} {A B : Nat → Prop} {s U : State} {H : Heap} {locs : List Loc} (h : EV ca A s) (_hS : va_S A s.heap H locs) (_hAB : ∀ q, B q → A q) (hU : U.heap = H) (hW : s.WarmedH U.vm) : EV ca B U := by
  obtain ⟨h1, h2, h3⟩ := h
  subst hU
  exact ⟨fun q hq => (h1 q hq).warmM hW, ⟨trivial, trivial, trivial, h2.2.2.2.moved hW.alike⟩, trivial⟩
theorem EV.blind {ca : Gp} {A : Nat → Prop} {U : State} (h : EV ca A U) (g : JFrame) (mk : MethodId) (a : Array Value) : EV ca A (U.calling g mk a) := by
  obtain ⟨h1, h2, h3⟩ := h
  exact ⟨fun q hq => va_Nw.same (u := U) (U := U.calling g mk a) rfl rfl (h1 q hq), ⟨trivial, trivial, trivial, va_AO.moved (u := U) (U := U.calling g mk a) (Vm.Alike.refl U.vm) h2.2.2.2⟩, trivial⟩
theorem EV.drawn {ca : Gp} {A : Nat → Prop} {U : State} (h : EV ca A U) (dr : Drawn) : EV ca A (U.setDrawn dr) := by
  obtain ⟨h1, h2, h3⟩ := h
  exact ⟨fun q hq => va_Nw.same (u := U) (U := U.setDrawn dr) rfl rfl (h1 q hq), ⟨trivial, trivial, trivial, va_AO.moved (u := U) (U := U.setDrawn dr) (Vm.Alike.refl U.vm) h2.2.2.2⟩, trivial⟩
/-- what stays while a method runs: the machine, its code, its words, the kinds, the addresses that may change, the surroundings -/
def Cx (p : Program) (s : State) (m : MethodId) (args : Array Value) (c : Code) (cc : ByteArray) (nL : Nat) (Ts : List Cond) (own : String) (D : va_G) (ca : Gp) (A : Nat → Prop) : Prop := CallFix p m c cc nL s args Ts own ∧ va_K D vwCl (tysA ca) s ∧ (∀ q, s.heap.size ≤ q → A q) ∧ EV ca A s
/-- the heap holds a world -/
def HS (D : va_G) (A : Nat → Prop) (s : State) (w : va_W) (H : Heap) (locs : List Loc) : Prop := va_P D vwCl w H ∧ va_D A w ∧ va_S A s.heap H locs
abbrev PcM (D : va_G) (ca : Gp) (w : va_W) (sz : Nat) : State → Prop := fun U => U.heap.size = sz ∧ va_P D vwCl w U.heap ∧ va_K D vwCl (tysA ca) U ∧ va_D (fun _ => True) w ∧ EV ca (va_A w sz) U
abbrev QcM (D : va_G) (w w' : va_W) (sz : Nat) : State → Prop := fun t => va_P D vwCl w' t.heap ∧ va_D (va_A w sz) w'
/-- a method that makes nothing, from the world w to the world w'; its answer -/
def Mi (l : Launch) (y : MethodName) (ws : List Cond) (rm : Room) (D : va_G) (ca : Gp) (av : List Value) (w w' : va_W) (r : Int32) : Prop := ∀ sz : Nat, Met l y ws rm (va_Pc av (PcM D ca w sz)) (va_Qi (fun (r' : Int32) (_ : Unit) => r' = r) (fun _ t => QcM D w w' sz t) (va_A w sz)) 0 0 (va_A w sz)
def Mv (l : Launch) (y : MethodName) (ws : List Cond) (rm : Room) (D : va_G) (ca : Gp) (av : List Value) (w w' : va_W) : Prop := ∀ sz : Nat, Met l y ws rm (va_Pc av (PcM D ca w sz)) (va_Qv (fun (_ : Unit) => True) (fun _ t => QcM D w w' sz t) (va_A w sz)) 0 0 (va_A w sz)
theorem PcM_blind {D : va_G} {ca : Gp} {w : va_W} {sz : Nat} {av : List Value} : FrameBlind (va_Pc av (PcM D ca w sz)) := by
  intro a U g mk h
  obtain ⟨q0, q1, qP, qK, qD, qE⟩ := h
  exact ⟨q0, q1, qP, va_K.moved (u := U) (U := U.calling g mk a) (Vm.Alike.refl U.vm) qK, qD, qE.blind g mk a⟩
section BASE
variable {p : Program} {l : Launch} {e : Env} {R : Room} {s : State} {m : MethodId} {args : Array Value} {below : List Frame} {meth : Method} {c : Code} {H : Heap} {locs : List Loc} {cells slots : Nat} {Q : State → Prop} {cc : ByteArray} {pc nL : Nat} {ls : Array Slot} {rest st0 : List Value} {D : va_G} {ca : Gp} {A : Nat → Prop} {Ts : List Cond} {own : String} {w w' : va_W}
theorem HS.free (C0 : Cx p s m args c cc nL Ts own D ca A) (h : HS D A s w H locs) : ∀ q, va_A w H.size q → A q := by
  intro q hq
  rcases hq with ⟨k, e, hk⟩ | hq
  · exact h.2.1.2 k (q, e) hk
  · exact C0.2.2.1 q (Nat.le_trans h.2.2.1 hq)
theorem PcM_at (C0 : Cx p s m args c cc nL Ts own D ca A) (hH : HS D A s w H locs) (U : State) (hU : U.heap = H) (hW : s.WarmedH U.vm) : PcM D ca w H.size U :=
  ⟨by rw [hU], by rw [hU]; exact hH.1, va_K.moved hW.alike C0.2.1, hH.2.1.weaken (fun _ _ _ _ => trivial), C0.2.2.2.call hH.2.2 (hH.free C0) hU hW⟩
theorem HS.back (C0 : Cx p s m args c cc nL Ts own D ca A) (hH : HS D A s w H locs) {t : State} {H1 : Heap} {locs1 : List Loc} (ht : t.heap = H1) (hB : QcM D w w' H.size t) (hS : va_S A s.heap H1 locs1) : HS D A s w' H1 locs1 := by
  subst ht
  exact ⟨hB.1, hB.2.weaken (fun _ _ _ hq => hH.free C0 _ hq), hS⟩
/-- calls of methods that make nothing: virtual, static, static of a nest mate -/
theorem cl_iV {y : MethodName} {bytes : ByteArray} {maxL index : Nat} {ret : Option FieldType} {ws ws' : List Cond} {rm : Room} {C : String} {b : Addr} {As : List Value} {r : Int32}
    (C0 : Cx p s m args c cc nL Ts own D ca A) (hH : HS D A s w H locs) (hl : ls.size = nL) (hM : Mi l y ws rm D ca (.ref b :: As) w w' r)
    (hG : GoodIn Ts (wsV own index C y ws)) (hw : ws = Cond.code y bytes maxL ret :: ws') (hrc : rm.cells = 0) (hrs : rm.slots = 0)
    (hd : y.cls = C ∧ y.cls ≠ "java/lang/invoke/MethodHandle" ∧ y.cls ≠ "java/lang/invoke/VarHandle" ∧ (parseMethodDescriptor y.desc).map (fun d => d.parameters.length) = some As.length) (hR : rm.frames + 1 ≤ R.frames ∧ 8 + (maxL + 11) + rm.locals ≤ R.locals) (hf : cells ≤ R.cells ∧ slots ≤ R.slots)
    (hv : ∃ cell : Cell, H[b]? = some cell ∧ cell.vm.isStatics = false ∧ s.vm.findClass C = some cell.cls)
    (hst : st0 = As.reverse ++ .ref b :: rest) (hcat : (rest.map fun v => v.category).sum ≤ 8) (hdg : decode cc pc = .ok (.invokevirtual index, 3))
    (kk : ∀ (H1 : Heap) (locs1 : List Loc), HS D A s w' H1 locs1 → W p l e R s m args below meth c H1 locs1 cells slots Q (F0 m (pc + 3) ls (.int r :: rest))) : W p l e R s m args below meth c H locs cells slots Q (F0 m pc ls st0) := by
  obtain ⟨hx, hb, hml, hown, hts⟩ := C0.1
  refine va_calli (va_runV (As := As) (rest := rest) ⟨hx, hb, hml, hown, hts⟩ (hM H.size) (cwV As.length hts hG hw hrc hrs hd hR) ⟨PcM_blind, hv, fun U hU hW => ⟨rfl, PcM_at C0 hH U hU hW⟩⟩ rfl rfl hl hst (lv_room hcat) hdg ⟨hf.1, hf.2⟩) hH.2.2 (fun q _ h => hH.free C0 q h) (hH.free C0) (fun r1 u t H1 locs1 ht hvm hw hB hz1 hk1 hS => ?_)
  subst hw
  exact kk H1 locs1 (hH.back C0 ht hB hS)
theorem cl_vV {y : MethodName} {bytes : ByteArray} {maxL index : Nat} {ret : Option FieldType} {ws ws' : List Cond} {rm : Room} {C : String} {b : Addr} {As : List Value}
    (C0 : Cx p s m args c cc nL Ts own D ca A) (hH : HS D A s w H locs) (hl : ls.size = nL) (hM : Mv l y ws rm D ca (.ref b :: As) w w')
    (hG : GoodIn Ts (wsV own index C y ws)) (hw : ws = Cond.code y bytes maxL ret :: ws') (hrc : rm.cells = 0) (hrs : rm.slots = 0)
    (hd : y.cls = C ∧ y.cls ≠ "java/lang/invoke/MethodHandle" ∧ y.cls ≠ "java/lang/invoke/VarHandle" ∧ (parseMethodDescriptor y.desc).map (fun d => d.parameters.length) = some As.length) (hR : rm.frames + 1 ≤ R.frames ∧ 8 + (maxL + 11) + rm.locals ≤ R.locals) (hf : cells ≤ R.cells ∧ slots ≤ R.slots)
    (hv : ∃ cell : Cell, H[b]? = some cell ∧ cell.vm.isStatics = false ∧ s.vm.findClass C = some cell.cls)
    (hst : st0 = As.reverse ++ .ref b :: rest) (hcat : (rest.map fun v => v.category).sum ≤ 8) (hdg : decode cc pc = .ok (.invokevirtual index, 3))
    (kk : ∀ (H1 : Heap) (locs1 : List Loc), HS D A s w' H1 locs1 → W p l e R s m args below meth c H1 locs1 cells slots Q (F0 m (pc + 3) ls rest)) : W p l e R s m args below meth c H locs cells slots Q (F0 m pc ls st0) := by
  obtain ⟨hx, hb, hml, hown, hts⟩ := C0.1
  refine va_callv (va_runV (As := As) (rest := rest) ⟨hx, hb, hml, hown, hts⟩ (hM H.size) (cwV As.length hts hG hw hrc hrs hd hR) ⟨PcM_blind, hv, fun U hU hW => ⟨rfl, PcM_at C0 hH U hU hW⟩⟩ rfl rfl hl hst (lv_room hcat) hdg ⟨hf.1, hf.2⟩) hH.2.2 (fun q _ h => hH.free C0 q h) (hH.free C0) (fun u t H1 locs1 ht hvm hw hB hz1 hk1 hS => ?_)
  exact kk H1 locs1 (hH.back C0 ht hB hS)
theorem cl_iS {y : MethodName} {bytes : ByteArray} {maxL index : Nat} {ret : Option FieldType} {ws ws' : List Cond} {rm : Room} {As : List Value} {r : Int32}
    (C0 : Cx p s m args c cc nL Ts own D ca A) (hH : HS D A s w H locs) (hl : ls.size = nL) (hM : Mi l y ws rm D ca As w w' r)
    (hG : GoodIn Ts (va_wsS own index y ws)) (hw : ws = Cond.code y bytes maxL ret :: ws') (hrc : rm.cells = 0) (hrs : rm.slots = 0)
    (hd : y.cls ≠ "java/lang/invoke/MethodHandle" ∧ y.cls ≠ "java/lang/invoke/VarHandle" ∧ (parseMethodDescriptor y.desc).map (fun d => d.parameters.length) = some As.length) (hR : rm.frames + 1 ≤ R.frames ∧ 8 + (maxL + 11) + rm.locals ≤ R.locals) (hf : cells ≤ R.cells ∧ slots ≤ R.slots)
    (hst : st0 = As.reverse ++ rest) (hcat : (rest.map fun v => v.category).sum ≤ 8) (hdg : decode cc pc = .ok (.invokestatic index, 3))
    (kk : ∀ (H1 : Heap) (locs1 : List Loc), HS D A s w' H1 locs1 → W p l e R s m args below meth c H1 locs1 cells slots Q (F0 m (pc + 3) ls (.int r :: rest))) : W p l e R s m args below meth c H locs cells slots Q (F0 m pc ls st0) := by
  obtain ⟨hx, hb, hml, hown, hts⟩ := C0.1
  refine va_calli (va_runS (As := As) (rest := rest) ⟨hx, hb, hml, hown, hts⟩ (hM H.size) (va_cwS As.length hts hG hw hrc hrs hd hR) ⟨PcM_blind, fun U hU hW => ⟨rfl, PcM_at C0 hH U hU hW⟩⟩ rfl rfl hl hst (lv_room hcat) hdg ⟨hf.1, hf.2⟩) hH.2.2 (fun q _ h => hH.free C0 q h) (hH.free C0) (fun r1 u t H1 locs1 ht hvm hw hB hz1 hk1 hS => ?_)
  subst hw
  exact kk H1 locs1 (hH.back C0 ht hB hS)
theorem cl_vS {y : MethodName} {bytes : ByteArray} {maxL index : Nat} {ret : Option FieldType} {ws ws' : List Cond} {rm : Room} {As : List Value}
    (C0 : Cx p s m args c cc nL Ts own D ca A) (hH : HS D A s w H locs) (hl : ls.size = nL) (hM : Mv l y ws rm D ca As w w')
    (hG : GoodIn Ts (va_wsS own index y ws)) (hw : ws = Cond.code y bytes maxL ret :: ws') (hrc : rm.cells = 0) (hrs : rm.slots = 0)
    (hd : y.cls ≠ "java/lang/invoke/MethodHandle" ∧ y.cls ≠ "java/lang/invoke/VarHandle" ∧ (parseMethodDescriptor y.desc).map (fun d => d.parameters.length) = some As.length) (hR : rm.frames + 1 ≤ R.frames ∧ 8 + (maxL + 11) + rm.locals ≤ R.locals) (hf : cells ≤ R.cells ∧ slots ≤ R.slots)
    (hst : st0 = As.reverse ++ rest) (hcat : (rest.map fun v => v.category).sum ≤ 8) (hdg : decode cc pc = .ok (.invokestatic index, 3))
    (kk : ∀ (H1 : Heap) (locs1 : List Loc), HS D A s w' H1 locs1 → W p l e R s m args below meth c H1 locs1 cells slots Q (F0 m (pc + 3) ls rest)) : W p l e R s m args below meth c H locs cells slots Q (F0 m pc ls st0) := by
  obtain ⟨hx, hb, hml, hown, hts⟩ := C0.1
  refine va_callv (va_runS (As := As) (rest := rest) ⟨hx, hb, hml, hown, hts⟩ (hM H.size) (va_cwS As.length hts hG hw hrc hrs hd hR) ⟨PcM_blind, fun U hU hW => ⟨rfl, PcM_at C0 hH U hU hW⟩⟩ rfl rfl hl hst (lv_room hcat) hdg ⟨hf.1, hf.2⟩) hH.2.2 (fun q _ h => hH.free C0 q h) (hH.free C0) (fun u t H1 locs1 ht hvm hw hB hz1 hk1 hS => ?_)
  exact kk H1 locs1 (hH.back C0 ht hB hS)
theorem cl_iN {y : MethodName} {bytes : ByteArray} {maxL index : Nat} {ret : Option FieldType} {ws ws' : List Cond} {rm : Room} {As : List Value} {r : Int32}
    (C0 : Cx p s m args c cc nL Ts own D ca A) (hH : HS D A s w H locs) (hl : ls.size = nL) (hM : Mi l y ws rm D ca As w w' r)
    (hG : GoodIn Ts ws) (hn : (own, index, y, "GatheringCache") ∈ nestL) (hw : ws = Cond.code y bytes maxL ret :: ws') (hrc : rm.cells = 0) (hrs : rm.slots = 0) (hini : Cond.initialized y.cls ∈ Ts) (hstat : Cond.static y ∈ Ts)
    (hd : y.cls ≠ "java/lang/invoke/MethodHandle" ∧ y.cls ≠ "java/lang/invoke/VarHandle" ∧ (parseMethodDescriptor y.desc).map (fun d => d.parameters.length) = some As.length) (hR : rm.frames + 1 ≤ R.frames ∧ 8 + (maxL + 11) + rm.locals ≤ R.locals) (hf : cells ≤ R.cells ∧ slots ≤ R.slots)
    (hst : st0 = As.reverse ++ rest) (hcat : (rest.map fun v => v.category).sum ≤ 8) (hdg : decode cc pc = .ok (.invokestatic index, 3))
    (kk : ∀ (H1 : Heap) (locs1 : List Loc), HS D A s w' H1 locs1 → W p l e R s m args below meth c H1 locs1 cells slots Q (F0 m (pc + 3) ls (.int r :: rest))) : W p l e R s m args below meth c H locs cells slots Q (F0 m pc ls st0) := by
  obtain ⟨hx, hb, hml, hown, hts⟩ := C0.1
  refine va_calli (va_runSN (As := As) (rest := rest) ⟨hx, hb, hml, hown, hts⟩ (hM H.size) ⟨va_cnB As.length hts hG hw hrc hrs (C0.2.2.2.1 _ hn) (hts _ hini) hd hR, hts _ hstat, trivial⟩ ⟨PcM_blind, fun U hU hW => ⟨rfl, PcM_at C0 hH U hU hW⟩⟩ rfl rfl hl hst (lv_room hcat) hdg ⟨hf.1, hf.2⟩) hH.2.2 (fun q _ h => hH.free C0 q h) (hH.free C0) (fun r1 u t H1 locs1 ht hvm hw hB hz1 hk1 hS => ?_)
  subst hw
  exact kk H1 locs1 (hH.back C0 ht hB hS)
end BASE
section SW
variable {p : Program} {l : Launch} {e : Env} {R : Room} {s : State} {m : MethodId} {args : Array Value} {below : List Frame} {meth : Method} {c : Code} {H : Heap} {locs : List Loc} {cells slots : Nat} {Q : State → Prop} {cc : ByteArray} {pc : Nat} {ls : Array Slot} {rest : List Value}
def neAll (x : Int32) : List Int32 → Prop
  | [] => True
  | v :: vs => ¬ x = v ∧ neAll x vs
theorem sw_ne {x : Int32} {vs : List Int32} (h : neAll x vs) : ∀ v ∈ vs, ¬ x = v := by
  induction vs with
  | nil => intro v hv; cases hv
  | cons a vs ih =>
    intro v hv
    rcases List.mem_cons.mp hv with rfl | hv
    · exact h.1
    · exact ih h.2 v hv
theorem sw_in {x v : Int32} (hx : p.tables.exec = Jvm.exec) (hb : c.code = cc) {dflt lo hi : Int} {offs : Array Int} {len : Nat} {off : Int} {tgt : Nat} (hv : x = v) (hdg : decode cc pc = .ok (.tableswitch dflt lo hi offs, len)) (h1 : ¬ v.toInt < lo) (h2 : ¬ hi < v.toInt) (ho : offs[(v.toInt - lo).toNat]? = some off) (ht : (pc : Int) + off = (tgt : Int))
    (k : W p l e R s m args below meth c H locs cells slots Q (F0 m tgt ls rest)) : W p l e R s m args below meth c H locs cells slots Q (F0 m pc ls (.int x :: rest)) := by
  subst hv
  exact lv_tableIn hx hb hdg h1 h2 ho ht k
theorem sw_out {x : Int32} {vs : List Int32} (hx : p.tables.exec = Jvm.exec) (hb : c.code = cc) {dflt lo hi : Int} {offs : Array Int} {len : Nat} {tgt : Nat} (hv : ∀ v ∈ vs, ¬ x = v) (hdg : decode cc pc = .ok (.tableswitch dflt lo hi offs, len)) (hc : (List.range (hi + 1 - lo).toNat).all (fun i => vs.any (fun v => decide (v.toInt = lo + (i : Int)))) = true) (ht : (pc : Int) + dflt = (tgt : Int))
    (k : W p l e R s m args below meth c H locs cells slots Q (F0 m tgt ls rest)) : W p l e R s m args below meth c H locs cells slots Q (F0 m pc ls (.int x :: rest)) := by
  refine lv_tableOut hx hb hdg ?_ ht k
  by_cases a : x.toInt < lo
  · exact Or.inl a
  · refine Or.inr ?_
    refine Int.not_le.mp fun b => ?_
    have h1 := List.all_eq_true.mp hc (x.toInt - lo).toNat (List.mem_range.mpr (by omega))
    obtain ⟨v, hv1, hv2⟩ := List.any_eq_true.mp h1
    have hv3 := of_decide_eq_true hv2
    refine hv v hv1 (Int32.toInt_inj.mp ?_)
    omega
theorem sw_lk {x v : Int32} (hx : p.tables.exec = Jvm.exec) (hb : c.code = cc) {dflt : Int} {ps : Array (Int × Int)} {len : Nat} {off : Int} {tgt : Nat} (hv : x = v) (hdg : decode cc pc = .ok (.lookupswitch dflt ps, len)) (hp : (ps.toList.zip (ps.toList.drop 1)).all (fun (a, next) => a.1 < next.1) = true) (ho : Op.lookupswitch.offset ps.toList dflt v.toInt = off) (ht : (pc : Int) + off = (tgt : Int))
    (k : W p l e R s m args below meth c H locs cells slots Q (F0 m tgt ls rest)) : W p l e R s m args below meth c H locs cells slots Q (F0 m pc ls (.int x :: rest)) := by
  subst hv
  exact lv_lookup hx hb hdg hp ho ht k
theorem sw_off (d z : Int) : ∀ (l : List (Int × Int)), (∀ q ∈ l, ¬ q.1 = z) → Op.lookupswitch.offset l d z = d := by
  intro l
  induction l with
  | nil => intro _; rfl
  | cons a l ih =>
    intro h
    obtain ⟨a1, a2⟩ := a
    rw [Op.lookupswitch.offset_cons, if_neg (h (a1, a2) List.mem_cons_self)]
    exact ih (fun q hq => h q (List.mem_cons_of_mem _ hq))
theorem sw_lkd {x : Int32} {vs : List Int32} (hx : p.tables.exec = Jvm.exec) (hb : c.code = cc) {dflt : Int} {ps : Array (Int × Int)} {len : Nat} {tgt : Nat} (hv : ∀ v ∈ vs, ¬ x = v) (hdg : decode cc pc = .ok (.lookupswitch dflt ps, len)) (hp : (ps.toList.zip (ps.toList.drop 1)).all (fun (a, next) => a.1 < next.1) = true) (hc : ps.toList.all (fun q => vs.any (fun v => decide (v.toInt = q.1))) = true) (ht : (pc : Int) + dflt = (tgt : Int))
    (k : W p l e R s m args below meth c H locs cells slots Q (F0 m tgt ls rest)) : W p l e R s m args below meth c H locs cells slots Q (F0 m pc ls (.int x :: rest)) := by
  refine lv_lookup hx hb hdg hp (sw_off dflt x.toInt _ fun q hq e => ?_) ht k
  have h1 := List.all_eq_true.mp hc q hq
  obtain ⟨v, hv1, hv2⟩ := List.any_eq_true.mp h1
  exact hv v hv1 (Int32.toInt_inj.mp (e.symm.trans (of_decide_eq_true hv2).symm))
end SW
/-- a method's walk, from its entry to its ends, gives its contract -/
theorem Mi_of {l : Launch} {y : MethodName} {ws ws' : List Cond} {rm : Room} {D : va_G} {ca : Gp} {av : List Value} {w w' : va_W} {r : Int32} {cc : ByteArray} {nL : Nat} {ty : FieldType}
    {own : String} (hy : plainName y.cls = true) (ho : y.cls = own) (hw : ws = Cond.code y cc nL (some ty) :: ws') (hrc : rm.cells = 0) (hrs : rm.slots = 0) (hlen : (lg_sl av).length ≤ nL)
    (body : ∀ (p : Program) (e : Env) (s : State) (m : MethodId) (args : Array Value) (below : List Frame) (meth : Method) (c : Code) (Q : State → Prop) (A : Nat → Prop) (ls : Array Slot), Cx p s m args c cc nL ws own D ca A → HS D A s w s.heap [] → lv_has ls nL (lv_args 0 av) →
      (∀ (H : Heap) (locs : List Loc) (pc : Nat) (ls : Array Slot), HS D A s w' H locs → narrow ty (.int r) = .int r → decode cc pc = .ok (.ireturn, 1) → W p l e rm s m args below meth c H locs 0 0 Q (F0 m pc ls [.int r])) → W p l e rm s m args below meth c s.heap [] 0 0 Q (F0 m 0 ls [])) : Mi l y ws rm D ca av w w' r := by
  subst ho
  intro sz
  refine Met.ofW (cc := cc) (maxL := nL) (ret := some ty) hy hw ?_
  intro p e s m args below meth c s₁ B hml hv
  obtain ⟨rfl, hsz, hP, hK, hD0, hE⟩ := hv
  have hts := atoms_spec (ws := ws) B.pre
  have hown : s.vm.findClass y.cls = some m.cls := findClass_of_methodNamed B.named
  have hlocks := B.notSynchronized
  subst hsz
  have hl := lv_entry av (n := nL) hlen
  rw [lg_entry_eq]
  refine body p e s m av.toArray below meth c _ (va_A w s.heap.size) _ ⟨⟨B.exec, B.bytes, hml, hown, hts⟩, hK, fun q h => Or.inr h, hE⟩ ⟨hP, hD0.self, va_S.rf⟩ hl ?_
  intro H locs pc ls hH hn hdg
  exact W.zret (v := r) B.exec B.bytes B.returns hn (fun t ht hW => ⟨⟨r, (), rfl, rfl, by rw [ht]; exact hH.1, hH.2.1⟩, hH.2.2.F ht⟩) hH.2.2.2.2 hdg hlocks
theorem Mv_of {l : Launch} {y : MethodName} {ws ws' : List Cond} {rm : Room} {D : va_G} {ca : Gp} {av : List Value} {w w' : va_W} {cc : ByteArray} {nL : Nat}
    {own : String} (hy : plainName y.cls = true) (ho : y.cls = own) (hw : ws = Cond.code y cc nL none :: ws') (hrc : rm.cells = 0) (hrs : rm.slots = 0) (hlen : (lg_sl av).length ≤ nL)
    (body : ∀ (p : Program) (e : Env) (s : State) (m : MethodId) (args : Array Value) (below : List Frame) (meth : Method) (c : Code) (Q : State → Prop) (A : Nat → Prop) (ls : Array Slot), Cx p s m args c cc nL ws own D ca A → HS D A s w s.heap [] → lv_has ls nL (lv_args 0 av) →
      (∀ (H : Heap) (locs : List Loc) (pc : Nat) (ls : Array Slot), HS D A s w' H locs → decode cc pc = .ok (.return_, 1) → W p l e rm s m args below meth c H locs 0 0 Q (F0 m pc ls [])) → W p l e rm s m args below meth c s.heap [] 0 0 Q (F0 m 0 ls [])) : Mv l y ws rm D ca av w w' := by
  subst ho
  intro sz
  refine Met.ofW (cc := cc) (maxL := nL) (ret := none) hy hw ?_
  intro p e s m args below meth c s₁ B hml hv
  obtain ⟨rfl, hsz, hP, hK, hD0, hE⟩ := hv
  have hts := atoms_spec (ws := ws) B.pre
  have hown : s.vm.findClass y.cls = some m.cls := findClass_of_methodNamed B.named
  have hlocks := B.notSynchronized
  subst hsz
  have hl := lv_entry av (n := nL) hlen
  rw [lg_entry_eq]
  refine body p e s m av.toArray below meth c _ (va_A w s.heap.size) _ ⟨⟨B.exec, B.bytes, hml, hown, hts⟩, hK, fun q h => Or.inr h, hE⟩ ⟨hP, hD0.self, va_S.rf⟩ hl ?_
  intro H locs pc ls hH hdg
  exact W.vret B.exec B.bytes B.returns (fun t ht hW => ⟨⟨(), rfl, trivial, by rw [ht]; exact hH.1, hH.2.1⟩, hH.2.2.F ht⟩) hH.2.2.2.2 hdg hlocks
