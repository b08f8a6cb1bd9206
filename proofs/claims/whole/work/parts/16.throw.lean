/-! METHODS THAT THROW: with these arguments, over this memory, the method throws an exception of the named kind, and the world is as before. -/
def Xw (D : va_G) (w w1 : va_W) (E : String) (sz : Nat) : String → State → State → Prop := vx_X (fun (_ : Unit) => True) (fun E' _ t => E' = E ∧ QcM D w w1 sz t) (va_A w sz)
def Mti (l : Launch) (y : MethodName) (ws : List Cond) (rm : Room) (D : va_G) (ca : Gp) (av : List Value) (w w1 : va_W) (E : String) : Prop := ∀ sz : Nat, vx_Met l y ws rm (va_Pc av (PcM D ca w sz)) (va_Qi (fun (_ : Int32) (_ : Unit) => False) (fun _ _ => True) (va_A w sz)) (Xw D w w1 E sz) 1 6 (va_A w sz)
def Mtv (l : Launch) (y : MethodName) (ws : List Cond) (rm : Room) (D : va_G) (ca : Gp) (av : List Value) (w w1 : va_W) (E : String) : Prop := ∀ sz : Nat, vx_Met l y ws rm (va_Pc av (PcM D ca w sz)) (va_Qv (fun (_ : Unit) => False) (fun _ _ => True) (va_A w sz)) (Xw D w w1 E sz) 1 6 (va_A w sz)
def thrB (E : String) : List Cond := [Cond.castable E E, .declares (Bundle.initS "java/lang/RuntimeException"), .declares (Bundle.initS "java/lang/Exception"), .declares (Bundle.initS Bundle.tN)]
def exNames : List String := ["java/lang/RuntimeException", "java/lang/Exception"]
def orT (a b : Option String) : Option String := match a with
  | some E => some E
  | none => b
def orS (a : Option String) (t : Mem) (b : Option (String × Mem)) : Option (String × Mem) := match a with
  | some E => some (E, t)
  | none => b
theorem orS_s {a : Option String} {t t9 : Mem} {b : Option (String × Mem)} {E : String} (h : orS a t b = some (E, t9)) : (a = some E ∧ t = t9) ∨ b = some (E, t9) := by
  cases a with
  | none => exact Or.inr h
  | some x => cases h; exact Or.inl ⟨rfl, rfl⟩
theorem orT_s {a b : Option String} {E : String} (h : orT a b = some E) : a = some E ∨ b = some E := by
  cases a with
  | none => exact Or.inr h
  | some x => exact Or.inl h
/-- the words of a throw of this object's own: what they are beside a method's own words -/
theorem thr_good (own : String) (ik : Nat) (ic : Nat) (E : String) (h : (Cond.classLink own ik E :: Cond.initialized E :: vx_atS own ic E exNames).all (fun w => vx_ot w) = true) : ∀ w ∈ Cond.classLink own ik E :: Cond.initialized E :: vx_atS own ic E exNames, vx_ot w = true := fun w hw => List.all_eq_true.mp h w hw
section THR
variable {p : Program} {l : Launch} {e : Env} {R : Room} {s : State} {m : MethodId} {args : Array Value} {below : List Frame} {meth : Method} {c : Code} {H : Heap} {locs : List Loc} {cells slots : Nat} {Q : State → Prop} {cc : ByteArray} {pc nL : Nat} {ls : Array Slot} {rest st0 : List Value} {D : va_G} {ca : Gp} {A : Nat → Prop} {Ts : List Cond} {own : String} {w w' : va_W}
/-- what a walk that ends in a throw is given: 'throw it' and 'hand it on' -/
def Thr (p : Program) (l : Launch) (e : Env) (R : Room) (s : State) (m : MethodId) (args : Array Value) (below : List Frame) (meth : Method) (c : Code) (cc : ByteArray) (nL : Nat) (Ts : List Cond) (own : String) (D : va_G) (A : Nat → Prop) (w1 : va_W) (Q : State → Prop) (E : String) : Prop :=
  (∀ (H : Heap) (locs : List Loc) (pc : Nat) (ls : Array Slot) (rest : List Value) (k ik is ic : Nat) (tx : String), HS D A s w1 H locs → ls.size = nL → E ∈ excL → strL[k]? = some (own, is, tx) → Cond.classLink own ik E ∈ Ts → Cond.initialized E ∈ Ts →
    (∀ v ∈ (vx_atS own ic E exNames).filter goodWord, v ∈ Ts) → (∀ v ∈ (vx_atS own ic E exNames).filter (fun v => !goodWord v), v ∈ thrB E) → (∀ v ∈ Cond.classLink own ik E :: Cond.initialized E :: vx_atS own ic E exNames, vx_ot v = true) →
    decode cc pc = .ok (.new ik, 3) → decode cc (pc + 3) = .ok (.dup, 1) → decode cc (pc + 4) = .ok (.ldc is, 2) → decode cc (pc + 6) = .ok (.invokespecial ic, 3) → decode cc (pc + 9) = .ok (.athrow, 1) → (rest.map fun v => v.category).sum ≤ 8 →
    W p l e R s m args below meth c H locs 0 0 Q (F0 m pc ls rest)) ∧
  (∀ (H : Heap) (locs : List Loc) (pc : Nat) (ls : Array Slot) (rest : List Value) (q : Addr) (ce : Cell), HS D A s w1 H locs → H[q]? = some ce → ce.vm = .none → s.vm.findClass E = some ce.cls → vx_W p l e R s m args below meth c H locs 1 6 Q (F0 m pc ls rest) q)
theorem thr_of {sz : Nat} {w1 : va_W} {E : String} {Qc : Array Value → State → Outcome → State → Prop} (C0 : Cx p s m args c cc nL Ts own D ca A) (hAs : A = va_A w sz) (hszs : s.heap.size = sz) (hflag : l.stackTraces = false) (hno : ∀ x ∈ c.exceptionTable.toList, False) (hlocks : meth.locks = false) (hRf : 6 ≤ R.frames) (hRl : 90 ≤ R.locals) (hRc : 1 ≤ R.cells) (hRs : 6 ≤ R.slots) :
    Thr p l e R s m args below meth c cc nL Ts own D A w1 (vx_MQ below Qc (Xw D w w1 E sz) args s 1 6 (va_A w sz)) E := by
  obtain ⟨hx, hb, hml, hown, hts⟩ := C0.1
  subst hAs
  refine ⟨?_, ?_⟩
  · intro H locs pc ls rest k ik is ic tx hH hls hE hk h1 h2 h3 h4 h5 d0 d3 d4 d6 d9 hcat
    have hfit : Bundle.fit E = true := by
      rcases List.mem_cons.mp hE with rfl | hE
      · decide +kernel
      · rcases List.mem_cons.mp hE with rfl | hE
        · decide +kernel
        · rw [List.mem_singleton.mp hE]; decide +kernel
    refine vx_throwS (names := exNames) hx hb hflag hown hfit (by decide +kernel) (hts _ h1) (hts _ h2) (C0.2.2.2.str k hk) (vx_hat (fun v hv => hts v (h3 v hv)) h4 (vx_c (va_Nw.use rfl (C0.2.2.2.2.1.1 E hE)) (vx_c (va_Nw.use rfl (C0.2.2.2.2.1.2.2.1 _ (by decide))) (vx_c (va_Nw.use rfl (C0.2.2.2.2.1.2.2.1 _ (by decide))) (vx_c (va_Nw.use rfl (C0.2.2.2.2.1.2.2.1 _ (by decide))) vx_n))))) h5 C0.2.2.2.2.2.1 C0.2.2.2.2.2.2.1 hH.2.2 (hls.trans hml.symm) d0 d3 d4 d6 d9 (fun x hx => (hno x hx).elim) ?_ ?_ ?_ ?_ hlocks ?_ hH.2.2.2.2 (Nat.le_refl _) (Nat.le_refl _)
    · show 2 + 3 < R.frames
      omega
    · show (rest.map fun v => v.category).sum + (13 * (2 + 1) + 43) ≤ R.locals
      omega
    · omega
    · omega
    · intro t hvm hz hk
      refine ⟨(), trivial, ⟨rfl, fun k q hq => (hH.1 k q hq).kept (hk q.1 (hH.1 k q hq).lt), hH.2.1⟩, Nat.le_trans hH.2.2.1 hz, fun q hq hA => ?_⟩
      rw [hk q (Nat.lt_of_lt_of_le hq hH.2.2.1)]
      exact hH.2.2.2.1 q hq hA
  · intro H locs pc ls rest q ce hH hq hv hcl
    refine vx_out (fun x hx => (hno x hx).elim) hlocks hq hv hcl ?_ hH.2.2.2.2 (Nat.le_refl _) (Nat.le_refl _)
    intro t ht hvm
    exact ⟨(), trivial, ⟨rfl, by rw [ht]; exact hH.1, hH.2.1⟩, hH.2.2.F ht⟩
/-- calls of methods that throw -/
theorem cx_vV {y : MethodName} {bytes : ByteArray} {maxL index : Nat} {ret : Option FieldType} {ws ws' : List Cond} {rm : Room} {C E : String} {b : Addr} {As : List Value}
    (C0 : Cx p s m args c cc nL Ts own D ca A) (hH : HS D A s w H locs) (hl : ls.size = nL) (hM : Mtv l y ws rm D ca (.ref b :: As) w w' E)
    (hG : GoodIn Ts (wsV own index C y ws)) (hw : ws = Cond.code y bytes maxL ret :: ws') (hrc : rm.cells = 1) (hrs : rm.slots = 6)
    (hd : y.cls = C ∧ y.cls ≠ "java/lang/invoke/MethodHandle" ∧ y.cls ≠ "java/lang/invoke/VarHandle" ∧ (parseMethodDescriptor y.desc).map (fun d => d.parameters.length) = some As.length) (hR : rm.frames + 1 ≤ R.frames ∧ 8 + (maxL + 11) + rm.locals ≤ R.locals) (hf : cells + 1 ≤ R.cells ∧ slots + 6 ≤ R.slots)
    (hv : ∃ cell : Cell, H[b]? = some cell ∧ cell.vm.isStatics = false ∧ s.vm.findClass C = some cell.cls)
    (hst : st0 = As.reverse ++ .ref b :: rest) (hcat : (rest.map fun v => v.category).sum ≤ 8) (hdg : decode cc pc = .ok (.invokevirtual index, 3))
    (kx : ∀ (H1 : Heap) (locs1 : List Loc) (q : Addr) (ce : Cell), HS D A s w' H1 locs1 → H1[q]? = some ce → ce.vm = .none → s.vm.findClass E = some ce.cls → vx_W p l e R s m args below meth c H1 locs1 (cells + 1) (slots + 6) Q (F0 m pc ls rest) q) : W p l e R s m args below meth c H locs cells slots Q (F0 m pc ls st0) := by
  obtain ⟨hx, hb, hml, hown, hts⟩ := C0.1
  refine vx_callv (vx_runV (As := As) (rest := rest) ⟨hx, hb, hml, hown, hts⟩ (hM H.size) (cwV As.length hts hG hw hrc hrs hd hR) ⟨PcM_blind, hv, fun U hU hW => ⟨rfl, PcM_at C0 hH U hU hW⟩⟩ rfl rfl hl hst (lv_room hcat) hdg hf) hH.2.2 (fun q _ h => hH.free C0 q h) (hH.free C0) (fun q _ h => hH.free C0 q h) ?_ (fun u t H1 locs1 ht hvm hw => hw.elim)
  intro E' ce q u t H1 locs1 ht hvm hpx hB hz hk hS hq hv hcl
  obtain ⟨rfl, hB⟩ := hB
  exact kx H1 locs1 q ce (hH.back C0 ht hB hS) hq hv hcl
theorem cx_vS {y : MethodName} {bytes : ByteArray} {maxL index : Nat} {ret : Option FieldType} {ws ws' : List Cond} {rm : Room} {E : String} {As : List Value}
    (C0 : Cx p s m args c cc nL Ts own D ca A) (hH : HS D A s w H locs) (hl : ls.size = nL) (hM : Mtv l y ws rm D ca As w w' E)
    (hG : GoodIn Ts (va_wsS own index y ws)) (hw : ws = Cond.code y bytes maxL ret :: ws') (hrc : rm.cells = 1) (hrs : rm.slots = 6)
    (hd : y.cls ≠ "java/lang/invoke/MethodHandle" ∧ y.cls ≠ "java/lang/invoke/VarHandle" ∧ (parseMethodDescriptor y.desc).map (fun d => d.parameters.length) = some As.length) (hR : rm.frames + 1 ≤ R.frames ∧ 8 + (maxL + 11) + rm.locals ≤ R.locals) (hf : cells + 1 ≤ R.cells ∧ slots + 6 ≤ R.slots)
    (hst : st0 = As.reverse ++ rest) (hcat : (rest.map fun v => v.category).sum ≤ 8) (hdg : decode cc pc = .ok (.invokestatic index, 3))
    (kx : ∀ (H1 : Heap) (locs1 : List Loc) (q : Addr) (ce : Cell), HS D A s w' H1 locs1 → H1[q]? = some ce → ce.vm = .none → s.vm.findClass E = some ce.cls → vx_W p l e R s m args below meth c H1 locs1 (cells + 1) (slots + 6) Q (F0 m pc ls rest) q) : W p l e R s m args below meth c H locs cells slots Q (F0 m pc ls st0) := by
  obtain ⟨hx, hb, hml, hown, hts⟩ := C0.1
  refine vx_callv (vx_runS (As := As) (rest := rest) ⟨hx, hb, hml, hown, hts⟩ (hM H.size) (va_cwS As.length hts hG hw hrc hrs hd hR) ⟨PcM_blind, fun U hU hW => ⟨rfl, PcM_at C0 hH U hU hW⟩⟩ rfl rfl hl hst (lv_room hcat) hdg hf) hH.2.2 (fun q _ h => hH.free C0 q h) (hH.free C0) (fun q _ h => hH.free C0 q h) ?_ (fun u t H1 locs1 ht hvm hw => hw.elim)
  intro E' ce q u t H1 locs1 ht hvm hpx hB hz hk hS hq hv hcl
  obtain ⟨rfl, hB⟩ := hB
  exact kx H1 locs1 q ce (hH.back C0 ht hB hS) hq hv hcl
theorem cx_iV {y : MethodName} {bytes : ByteArray} {maxL index : Nat} {ret : Option FieldType} {ws ws' : List Cond} {rm : Room} {C E : String} {b : Addr} {As : List Value}
    (C0 : Cx p s m args c cc nL Ts own D ca A) (hH : HS D A s w H locs) (hl : ls.size = nL) (hM : Mti l y ws rm D ca (.ref b :: As) w w' E)
    (hG : GoodIn Ts (wsV own index C y ws)) (hw : ws = Cond.code y bytes maxL ret :: ws') (hrc : rm.cells = 1) (hrs : rm.slots = 6)
    (hd : y.cls = C ∧ y.cls ≠ "java/lang/invoke/MethodHandle" ∧ y.cls ≠ "java/lang/invoke/VarHandle" ∧ (parseMethodDescriptor y.desc).map (fun d => d.parameters.length) = some As.length) (hR : rm.frames + 1 ≤ R.frames ∧ 8 + (maxL + 11) + rm.locals ≤ R.locals) (hf : cells + 1 ≤ R.cells ∧ slots + 6 ≤ R.slots)
    (hv : ∃ cell : Cell, H[b]? = some cell ∧ cell.vm.isStatics = false ∧ s.vm.findClass C = some cell.cls)
    (hst : st0 = As.reverse ++ .ref b :: rest) (hcat : (rest.map fun v => v.category).sum ≤ 8) (hdg : decode cc pc = .ok (.invokevirtual index, 3))
    (kx : ∀ (H1 : Heap) (locs1 : List Loc) (q : Addr) (ce : Cell), HS D A s w' H1 locs1 → H1[q]? = some ce → ce.vm = .none → s.vm.findClass E = some ce.cls → vx_W p l e R s m args below meth c H1 locs1 (cells + 1) (slots + 6) Q (F0 m pc ls rest) q) : W p l e R s m args below meth c H locs cells slots Q (F0 m pc ls st0) := by
  obtain ⟨hx, hb, hml, hown, hts⟩ := C0.1
  refine vx_calli (vx_runV (As := As) (rest := rest) ⟨hx, hb, hml, hown, hts⟩ (hM H.size) (cwV As.length hts hG hw hrc hrs hd hR) ⟨PcM_blind, hv, fun U hU hW => ⟨rfl, PcM_at C0 hH U hU hW⟩⟩ rfl rfl hl hst (lv_room hcat) hdg hf) hH.2.2 (fun q _ h => hH.free C0 q h) (hH.free C0) (fun q _ h => hH.free C0 q h) ?_ (fun r u t H1 locs1 ht hvm hw => hw.elim)
  intro E' ce q u t H1 locs1 ht hvm hpx hB hz hk hS hq hv hcl
  obtain ⟨rfl, hB⟩ := hB
  exact kx H1 locs1 q ce (hH.back C0 ht hB hS) hq hv hcl
end THR
theorem Mti_of {l : Launch} {y : MethodName} {ws ws' : List Cond} {rm : Room} {D : va_G} {ca : Gp} {av : List Value} {w w1 : va_W} {E : String} {cc : ByteArray} {nL : Nat} {ret : Option FieldType} {own : String}
    (hy : plainName y.cls = true) (ho : y.cls = own) (hw : ws = Cond.code y cc nL ret :: ws') (hflag : l.stackTraces = false) (hrf : 6 ≤ rm.frames) (hrl : 90 ≤ rm.locals) (hrc : rm.cells = 1) (hrs : rm.slots = 6) (hlen : (lg_sl av).length ≤ nL)
    (body : ∀ (p : Program) (e : Env) (s : State) (m : MethodId) (args : Array Value) (below : List Frame) (meth : Method) (c : Code) (Q : State → Prop) (A : Nat → Prop) (ls : Array Slot), Cx p s m args c cc nL ws own D ca A → HS D A s w s.heap [] → lv_has ls nL (lv_args 0 av) →
      Thr p l e rm s m args below meth c cc nL ws own D A w1 Q E → W p l e rm s m args below meth c s.heap [] 0 0 Q (F0 m 0 ls [])) : Mti l y ws rm D ca av w w1 E := by
  subst ho
  intro sz
  refine vx_ofW (cc := cc) (maxL := nL) (ret := ret) hy hw ?_
  intro p e s m args below meth c s₁ B hml hno hv
  obtain ⟨rfl, hsz, hP, hK, hD0, hE⟩ := hv
  have hts := atoms_spec (ws := ws) B.pre
  have hown : s.vm.findClass y.cls = some m.cls := findClass_of_methodNamed B.named
  have hlocks := B.notSynchronized
  subst hsz
  have hl := lv_entry av (n := nL) hlen
  rw [lg_entry_eq]
  have C0 : Cx p s m av.toArray c cc nL ws y.cls D ca (va_A w s.heap.size) := ⟨⟨B.exec, B.bytes, hml, hown, hts⟩, hK, fun q h => Or.inr h, hE⟩
  exact body p e s m av.toArray below meth c _ (va_A w s.heap.size) _ C0 ⟨hP, hD0.self, va_S.rf⟩ hl (thr_of C0 rfl rfl hflag hno hlocks hrf hrl (Nat.le_of_eq hrc.symm) (Nat.le_of_eq hrs.symm))
theorem Mtv_of {l : Launch} {y : MethodName} {ws ws' : List Cond} {rm : Room} {D : va_G} {ca : Gp} {av : List Value} {w w1 : va_W} {E : String} {cc : ByteArray} {nL : Nat} {ret : Option FieldType} {own : String}
    (hy : plainName y.cls = true) (ho : y.cls = own) (hw : ws = Cond.code y cc nL ret :: ws') (hflag : l.stackTraces = false) (hrf : 6 ≤ rm.frames) (hrl : 90 ≤ rm.locals) (hrc : rm.cells = 1) (hrs : rm.slots = 6) (hlen : (lg_sl av).length ≤ nL)
    (body : ∀ (p : Program) (e : Env) (s : State) (m : MethodId) (args : Array Value) (below : List Frame) (meth : Method) (c : Code) (Q : State → Prop) (A : Nat → Prop) (ls : Array Slot), Cx p s m args c cc nL ws own D ca A → HS D A s w s.heap [] → lv_has ls nL (lv_args 0 av) →
      Thr p l e rm s m args below meth c cc nL ws own D A w1 Q E → W p l e rm s m args below meth c s.heap [] 0 0 Q (F0 m 0 ls [])) : Mtv l y ws rm D ca av w w1 E := by
  subst ho
  intro sz
  refine vx_ofW (cc := cc) (maxL := nL) (ret := ret) hy hw ?_
  intro p e s m args below meth c s₁ B hml hno hv
  obtain ⟨rfl, hsz, hP, hK, hD0, hE⟩ := hv
  have hts := atoms_spec (ws := ws) B.pre
  have hown : s.vm.findClass y.cls = some m.cls := findClass_of_methodNamed B.named
  have hlocks := B.notSynchronized
  subst hsz
  have hl := lv_entry av (n := nL) hlen
  rw [lg_entry_eq]
  have C0 : Cx p s m av.toArray c cc nL ws y.cls D ca (va_A w s.heap.size) := ⟨⟨B.exec, B.bytes, hml, hown, hts⟩, hK, fun q h => Or.inr h, hE⟩
  exact body p e s m av.toArray below meth c _ (va_A w s.heap.size) _ C0 ⟨hP, hD0.self, va_S.rf⟩ hl (thr_of C0 rfl rfl hflag hno hlocks hrf hrl (Nat.le_of_eq hrc.symm) (Nat.le_of_eq hrs.symm))
