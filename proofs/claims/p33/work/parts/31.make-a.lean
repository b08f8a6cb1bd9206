/-! THE CONSTRUCTORS. A new thing is laid at the end of a world, and put behind the cells that are at hand. -/
def m0 : Mem := fun _ _ => 0
def Mn {St : Type} (l : Launch) (y : MethodName) (ws : List Cond) (rm : Room) (D : va_G) (ca : Gp) (av : List Value) (w : va_W) (post : St → Prop) (w' : St → va_W) (mc ms : Nat) : Prop := ∀ sz : Nat, Met l y ws rm (va_Pc av (PcM D ca w sz)) (va_Qv post (fun x t => QcM D w (w' x) sz t) (va_A w sz)) mc ms (va_A w sz)
theorem Mn_of {St : Type} {l : Launch} {y : MethodName} {ws ws' : List Cond} {rm : Room} {D : va_G} {ca : Gp} {av : List Value} {w : va_W} {post : St → Prop} {w' : St → va_W} {mc ms : Nat} {cc : ByteArray} {nL : Nat} {own : String}
    (hy : plainName y.cls = true) (hyn : y.name = "<init>") (ho : y.cls = own) (hw : ws = Cond.code y cc nL none :: ws') (hlen : (lg_sl av).length ≤ nL)
    (body : ∀ (p : Program) (e : Env) (s : State) (m : MethodId) (args : Array Value) (below : List Frame) (meth : Method) (c : Code) (Q : State → Prop) (A : Nat → Prop) (ls : Array Slot), Cx p s m args c cc nL ws own D ca A → meth.name = "<init>" → HS D A s w s.heap [] → lv_has ls nL (lv_args 0 av) →
      (∀ (x : St) (H : Heap) (locs : List Loc) (pc : Nat) (ls : Array Slot), post x → HS D A s (w' x) H locs → decode cc pc = .ok (.return_, 1) → W p l e rm s m args below meth c H locs mc ms Q (F0 m pc ls [])) → W p l e rm s m args below meth c s.heap [] 0 0 Q (F0 m 0 ls [])) : Mn l y ws rm D ca av w post w' mc ms := by
  subst ho
  intro sz
  refine Met.ofW (cc := cc) (maxL := nL) (ret := none) hy hw ?_
  intro p e s m args below meth c s₁ B hml hv
  obtain ⟨rfl, hsz, hP, hK, hD0, hE⟩ := hv
  have hts := atoms_spec (ws := ws) B.pre
  have hown : s.vm.findClass y.cls = some m.cls := findClass_of_methodNamed B.named
  have hlocks := B.notSynchronized
  have hin : meth.name = "<init>" := by rw [← hyn]; exact (name_of_methodNamed B.named B.method).1
  subst hsz
  have hl := lv_entry av (n := nL) hlen
  rw [lg_entry_eq]
  refine body p e s m av.toArray below meth c _ (va_A w s.heap.size) _ ⟨⟨B.exec, B.bytes, hml, hown, hts⟩, hK, fun q h => Or.inr h, hE⟩ hin ⟨hP, hD0.self, va_S.rf⟩ hl ?_
  intro x H locs pc ls hx hH hdg
  exact W.vret B.exec B.bytes B.returns (fun t ht hW => ⟨⟨x, rfl, hx, by rw [ht]; exact hH.1, hH.2.1⟩, hH.2.2.F ht⟩) hH.2.2.2.2 hdg hlocks
theorem ra_find {U : State} {cA : ClassId} {ty : FieldType} (h : va_RA U cA ty) : U.vm.findClass ("[" ++ ty.toString) = some cA := by
  cases ty with
  | object C => obtain ⟨_, _, _, _, _, h4⟩ := h; exact h4
  | _ => exact h
theorem ra_eq {U : State} {cA cB : ClassId} {ty : FieldType} (h1 : va_RA U cA ty) (h2 : va_RA U cB ty) : cA = cB := Option.some.inj ((ra_find h1).symm.trans (ra_find h2))
theorem perm_new (x wr : va_W) (n : Nat × va_E) : ((x ++ wr) ++ [n]).Perm ((x ++ [n]) ++ wr) := by
  rw [List.append_assoc, List.append_assoc]
  exact List.Perm.append_left x List.perm_append_comm
section MAKE
variable {p : Program} {l : Launch} {e : Env} {R : Room} {s : State} {m : MethodId} {args : Array Value} {below : List Frame} {meth : Method} {c : Code} {H : Heap} {locs : List Loc} {cells slots : Nat} {Q : State → Prop} {cc : ByteArray} {pc nL : Nat} {ls : Array Slot} {rest st0 : List Value} {D : va_G} {ca : Gp} {A : Nat → Prop} {Ts : List Cond} {own : String} {w wr x : va_W}
theorem nw_arr (C0 : Cx p s m args c cc nL Ts own D ca A) (hH : HS D A s (x ++ wr) H locs) {atype : ArrayType} {ty : FieldType} (t0 : Nat) (hty : newarray.typeOf atype = ty) (hca : (tysA ca)[t0]? = some (ca.1 t0, ty)) (hm : Cond.arrayClass (newarray.typeOf atype) ∈ Ts)
    {n : Int32} {N' : Nat} {a0 : vp_A} (ha : ∀ cA : ClassId, vp_cell cA a0 = arrV cA N' (fun _ => defaultValue ty)) (hn : ¬ n < 0) (hN : n.toNatClampNeg = N') (hbytes : N' * componentBytes ty ≤ 536870912) (hcells : cells + 1 ≤ R.cells) (hslots : slots + N' ≤ R.slots) (hdg : decode cc pc = .ok (.newarray atype, 2))
    (kk : ∀ (q : Nat) (H1 : Heap), HS D A s ((x ++ [(q, .inl (ca.1 t0, a0))]) ++ wr) H1 locs → W p l e R s m args below meth c H1 locs (cells + 1) (slots + N') Q (F0 m (pc + 2) ls (.ref q :: rest))) : W p l e R s m args below meth c H locs cells slots Q (F0 m pc ls (.int n :: rest)) := by
  refine va_newa C0.1.1 C0.1.2.1 (C0.1.2.2.2.2 _ hm) hty C0.2.1 hH.1 hH.2.1 hH.2.2 C0.2.2.1 ha hn hN hbytes hcells hslots hdg (fun q cA H1 hK hP hD hS => ?_)
  have e1 : cA = ca.1 t0 := ra_eq (hK.2 4 (cA, ty) rfl).2 (C0.2.1.2 t0 _ hca).2
  subst e1
  exact kk q H1 (HS.perm (perm_new x wr _) ⟨hP, hD, hS⟩)
theorem nw_obj (C0 : Cx p s m args c cc nL Ts own D ca A) (hH : HS D A s (x ++ wr) H locs) {C : String} {T : u_T} {N ci index : Nat} (hin : ∀ w ∈ u_ws C T N, w ∈ Ts) (ty : Nat → FieldType) (hty : ∀ k, k < N → parseFieldDescriptor (T k).2.2.1 = some (ty k)) (hcl : Cond.classLink own index C ∈ Ts) (hinst : Cond.instantiable C N ∈ Ts) (hini : Cond.initialized C ∈ Ts)
    (hc : vwCl[ci]? = some (C, T, N)) {fs : List Value} (hfs : ∀ j, j < N → defaultValue (ty j) = vp_V fs j) (hcells : cells + 1 ≤ R.cells) (hslots : slots + N ≤ R.slots) (hdg : decode cc pc = .ok (.new index, 3))
    (kk : ∀ (q : Nat) (H1 : Heap), HS D A s ((x ++ [(q, .inr (ci, fs))]) ++ wr) H1 locs → W p l e R s m args below meth c H1 locs (cells + 1) (slots + N) Q (F0 m (pc + 3) ls (.ref q :: rest))) : W p l e R s m args below meth c H locs cells slots Q (F0 m pc ls rest) := by
  refine va_new C0.1.1 C0.1.2.1 C0.1.2.2.2.2 hin ty hty C0.1.2.2.2.1 (C0.1.2.2.2.2 _ hcl) (C0.1.2.2.2.2 _ hinst) (C0.1.2.2.2.2 _ hini) C0.2.1 hH.1 hH.2.1 hH.2.2 C0.2.2.1 hc hfs hcells hslots hdg (fun q H1 hP hD hS => ?_)
  exact kk q H1 (HS.perm (perm_new x wr _) ⟨hP, hD, hS⟩)
theorem nw_refs (C0 : Cx p s m args c cc nL Ts own D ca A) (hH : HS D A s (x ++ wr) H locs) {index : Nat} (hcl : Cond.classLink own index "GatheringCache$State" ∈ Ts) {n : Int32} {N' : Nat} (hn : ¬ n < 0) (hN : n.toNatClampNeg = N') (hbytes : N' * 4 ≤ 536870912) (hcells : cells + 1 ≤ R.cells) (hslots : slots + N' ≤ R.slots) (hdg : decode cc pc = .ok (.anewarray index, 3))
    (kk : ∀ (q : Nat) (H1 : Heap), HS D A s ((x ++ [(q, .inl (ca.1 3, N', .inr (.inr (.inr (.inr (fun _ => none))))))]) ++ wr) H1 locs → W p l e R s m args below meth c H1 locs (cells + 1) (slots + N') Q (F0 m (pc + 3) ls (.ref q :: rest))) : W p l e R s m args below meth c H locs cells slots Q (F0 m pc ls (.int n :: rest)) := by
  refine va_newq C0.1.1 C0.1.2.1 C0.1.2.2.2.1 (C0.1.2.2.2.2 _ hcl) C0.2.2.2.2.1.2.2.2 C0.2.1 hH.1 hH.2.1 hH.2.2 C0.2.2.1 hn hN hbytes hcells hslots hdg (fun q cA H1 hK hP hD hS => ?_)
  have e1 : cA = ca.1 3 := ra_eq (hK.2 4 (cA, _) rfl).2 (C0.2.1.2 3 _ rfl).2
  subst e1
  exact kk q H1 (HS.perm (perm_new x wr _) ⟨hP, hD, hS⟩)
/-- a field of a new thing, at the place q0 of the world -/
theorem pt_fin (C0 : Cx p s m args c cc nL Ts own D ca A) (hin0 : meth.name = "<init>") (hH : HS D A s w H locs) {C : String} {T : u_T} {N ci index a : Nat} (hin : ∀ w ∈ u_ws C T N, w ∈ Ts) (ty0 : Nat → FieldType) (hty : ∀ k, k < N → parseFieldDescriptor (T k).2.2.1 = some (ty0 k)) (hnm : ∀ a, a < N → ∀ b, b < N → a ≠ b → (T a).2.1 ≠ (T b).2.1)
    (q0 : Nat) {fs : List Value} (he : w[q0]? = some (a, .inr (ci, fs))) (hc : vwCl[ci]? = some (C, T, N)) (k : Nat) (hk : k < N) (hm : Cond.fieldLink own index (T k).1 (T k).2.1 (T k).2.2.1 ∈ Ts) (hfin : (T k).2.2.2 = true) (hdecl : (T k).1 = own) {ty : FieldType} {q : Nat} (hd : parseFieldDescriptor (T k).2.2.1 = some ty) (hn : narrow ty (.ref q) = .ref q) (hfit : fits ty (.ref q) = true) (hl : k < fs.length)
    (hdg : decode cc pc = .ok (.putfield index, 3)) (kk : ∀ (H1 : Heap) (locs1 : List Loc), HS D A s (w.set q0 (a, .inr (ci, fs.set k (.ref q)))) H1 locs1 → W p l e R s m args below meth c H1 locs1 cells slots Q (F0 m (pc + 3) ls rest)) : W p l e R s m args below meth c H locs cells slots Q (F0 m pc ls (.ref q :: .ref a :: rest)) :=
  va_putF C0.1.1 C0.1.2.1 C0.1.2.2.2.2 hin ty0 hty hnm C0.1.2.2.2.1 C0.2.1 hH.1 hH.2.1 hH.2.2 q0 he hc k hk (C0.1.2.2.2.2 _ hm) (fun _ h9 => h9) hfin hin0 hdecl hd hn hfit hl hdg (fun H1 locs1 hP hD hS => kk H1 locs1 ⟨hP, hD, hS⟩)
/-- Object's own constructor -/
theorem obj_init (C0 : Cx p s m args c cc nL Ts own D ca A) (hl : ls.size = nL) {index a : Nat} (h1 : Cond.methodLink own index objectInit ∈ Ts) (h2 : Cond.instanceMethod objectInit ∈ Ts) (h3 : Cond.code objectInit ⟨#[0xb1]⟩ 1 none ∈ Ts) (hdg : decode cc pc = .ok (.invokespecial index, 3)) (hf : 1 ≤ R.frames) (hlo : 12 ≤ R.locals)
    (kk : W p l e R s m args below meth c H locs cells slots Q (F0 m (pc + 3) ls [])) : W p l e R s m args below meth c H locs cells slots Q (F0 m pc ls [.ref a]) :=
  W.objInit C0.1.1 C0.1.2.1 C0.1.2.2.2.1 (C0.1.2.2.2.2 _ h1) (C0.1.2.2.2.2 _ h2) (C0.1.2.2.2.2 _ h3) rfl (hl.trans C0.1.2.2.1.symm) rfl hdg hf hlo kk
/-- calls of constructors: a plain one, a nest mate's -/
theorem cl_n {St : Type} {post : St → Prop} {w' : St → va_W} {y : MethodName} {bytes : ByteArray} {maxL index mc ms : Nat} {ws ws' : List Cond} {rm : Room} {b : Addr}
    (C0 : Cx p s m args c cc nL Ts own D ca A) (hH : HS D A s w H locs) (hl : ls.size = nL) (hM : Mn l y ws rm D ca [.ref b] w post w' mc ms)
    (hG : GoodIn Ts ws) (hw : ws = Cond.code y bytes maxL none :: ws') (hrc : rm.cells = mc) (hrs : rm.slots = ms) (hini : Cond.initialized y.cls ∈ Ts) (hlk : Cond.methodLink own index y ∈ Ts) (hins : Cond.instanceMethod y ∈ Ts) (hyn : y.name = "<init>")
    (hd : y.cls ≠ "java/lang/invoke/MethodHandle" ∧ y.cls ≠ "java/lang/invoke/VarHandle" ∧ (parseMethodDescriptor y.desc).map (fun d => d.parameters.length) = some 0) (hR : rm.frames + 1 ≤ R.frames ∧ 8 + (maxL + 11) + rm.locals ≤ R.locals) (hf : cells + mc ≤ R.cells ∧ slots + ms ≤ R.slots)
    (hcat : (rest.map fun v => v.category).sum ≤ 8) (hdg : decode cc pc = .ok (.invokespecial index, 3))
    (kk : ∀ (z : St) (H1 : Heap) (locs1 : List Loc), post z → HS D A s (w' z) H1 locs1 → W p l e R s m args below meth c H1 locs1 (cells + mc) (slots + ms) Q (F0 m (pc + 3) ls rest)) : W p l e R s m args below meth c H locs cells slots Q (F0 m pc ls (.ref b :: rest)) := by
  obtain ⟨hx, hb, hml, hown, hts⟩ := C0.1
  refine va_callv (va_runI (As := []) (rest := rest) ⟨hx, hb, hml, hown, hts⟩ (hM H.size) (cwI 0 hts hG hw hrc hrs (hts _ hini) (hts _ hlk) (hts _ hins) hyn hd hR) ⟨PcM_blind, fun U hU hW => ⟨rfl, PcM_at C0 hH U hU hW⟩⟩ rfl rfl hl rfl (lv_room hcat) hdg hf) hH.2.2 (fun q _ h => hH.free C0 q h) (hH.free C0) (fun u t H1 locs1 ht hvm hw hB hz1 hk1 hS => ?_)
  exact kk u H1 locs1 hw (hH.back C0 ht hB hS)
theorem cl_nN {St : Type} {post : St → Prop} {w' : St → va_W} {y : MethodName} {bytes : ByteArray} {maxL index mc ms : Nat} {ws ws' : List Cond} {rm : Room} {b : Addr}
    (C0 : Cx p s m args c cc nL Ts own D ca A) (hH : HS D A s w H locs) (hl : ls.size = nL) (hM : Mn l y ws rm D ca [.ref b] w post w' mc ms)
    (hG : GoodIn Ts ws) (hw : ws = Cond.code y bytes maxL none :: ws') (hrc : rm.cells = mc) (hrs : rm.slots = ms) (hini : Cond.initialized y.cls ∈ Ts) (hn : (own, index, y, "GatheringCache") ∈ nestL) (hins : Cond.instanceMethod y ∈ Ts) (hyn : y.name = "<init>")
    (hd : y.cls ≠ "java/lang/invoke/MethodHandle" ∧ y.cls ≠ "java/lang/invoke/VarHandle" ∧ (parseMethodDescriptor y.desc).map (fun d => d.parameters.length) = some 0) (hR : rm.frames + 1 ≤ R.frames ∧ 8 + (maxL + 11) + rm.locals ≤ R.locals) (hf : cells + mc ≤ R.cells ∧ slots + ms ≤ R.slots)
    (hcat : (rest.map fun v => v.category).sum ≤ 8) (hdg : decode cc pc = .ok (.invokespecial index, 3))
    (kk : ∀ (z : St) (H1 : Heap) (locs1 : List Loc), post z → HS D A s (w' z) H1 locs1 → W p l e R s m args below meth c H1 locs1 (cells + mc) (slots + ms) Q (F0 m (pc + 3) ls rest)) : W p l e R s m args below meth c H locs cells slots Q (F0 m pc ls (.ref b :: rest)) := by
  obtain ⟨hx, hb, hml, hown, hts⟩ := C0.1
  refine va_callv (va_runIN (As := []) (rest := rest) ⟨hx, hb, hml, hown, hts⟩ (hM H.size) ⟨va_cnB 0 hts hG hw hrc hrs (C0.2.2.2.1 _ hn) (hts _ hini) hd hR, hyn, hts _ hins⟩ ⟨PcM_blind, fun U hU hW => ⟨rfl, PcM_at C0 hH U hU hW⟩⟩ rfl rfl hl rfl (lv_room hcat) hdg hf) hH.2.2 (fun q _ h => hH.free C0 q h) (hH.free C0) (fun u t H1 locs1 ht hvm hw hB hz1 hk1 hS => ?_)
  exact kk u H1 locs1 hw (hH.back C0 ht hB hS)
end MAKE

section KROWS
variable {p : Program} {l : Launch} {e : Env} {R : Room} {s : State} {m : MethodId} {args : Array Value} {below : List Frame} {meth : Method} {c : Code} {H : Heap} {locs : List Loc} {cells slots : Nat} {Q : State → Prop} {cc : ByteArray} {pc nL : Nat} {ls : Array Slot} {rest : List Value} {D : va_G} {ca : Gp} {A : Nat → Prop} {Ts : List Cond} {own : String} {wr : va_W} {a : Nat → Nat} {u : Mem}
/-- the cells of a stick alone -/
def kW (a : Nat → Nat) (ca : Gp) (u : Mem) : va_W := [(a 0, .inr (2, [.ref (a 1), .ref (a 2), .ref (a 3), .ref (a 4), .ref (a 5), .int (u 0 0), .int (u 0 1), .int (u 0 2), .int (u 0 3)])), (a 1, .inl (ca.1 0, 12, .inl (u 1))), (a 2, .inl (ca.1 0, 12, .inl (u 2))), (a 3, .inl (ca.1 0, 12, .inl (u 3))), (a 4, .inl (ca.1 0, 12, .inl (u 4))), (a 5, .inl (ca.1 1, 12, .inl (u 5)))]
theorem vK_X2 (C0 : Cx p s m args c cc nL Ts own D ca A) (hH : HS D A s (kW a ca u ++ wr) H locs) : ∃ cell : Cell, H[a 0]? = some cell ∧ cell.vm.isStatics = false ∧ s.vm.findClass RX2 = some cell.cls := va_recv C0.2.1 hH.1 (ci := 2) (q0 := 0) rfl rfl
theorem gK_X2_blocks (C0 : Cx p s m args c cc nL Ts own D ca A) (hH : HS D A s (kW a ca u ++ wr) H locs) (hin : ∀ w ∈ wsX20, w ∈ Ts) {index : Nat} (hm : Cond.fieldLink own index "GatheringCache$Stick" "blocks" "[I" ∈ Ts) (hdg : decode cc pc = .ok (.getfield index, 3)) (kk : W p l e R s m args below meth c H locs cells slots Q (F0 m (pc + 3) ls (.ref (a 1) :: rest))) : W p l e R s m args below meth c H locs cells slots Q (F0 m pc ls (.ref (a 0) :: rest)) :=
  va_get (D := D) (ci := 2) (v := .ref (a 1)) (C := RX2) (T := TX2) (N := 9) C0.1.1 C0.1.2.1 C0.1.2.2.2.2 hin C0.1.2.2.2.1 C0.2.1 hH.1 0 rfl rfl 0 (by decide) (C0.1.2.2.2.2 _ hm) (fun _ h9 => h9) rfl hdg kk
theorem gK_X2_values (C0 : Cx p s m args c cc nL Ts own D ca A) (hH : HS D A s (kW a ca u ++ wr) H locs) (hin : ∀ w ∈ wsX20, w ∈ Ts) {index : Nat} (hm : Cond.fieldLink own index "GatheringCache$Stick" "values" "[I" ∈ Ts) (hdg : decode cc pc = .ok (.getfield index, 3)) (kk : W p l e R s m args below meth c H locs cells slots Q (F0 m (pc + 3) ls (.ref (a 2) :: rest))) : W p l e R s m args below meth c H locs cells slots Q (F0 m pc ls (.ref (a 0) :: rest)) :=
  va_get (D := D) (ci := 2) (v := .ref (a 2)) (C := RX2) (T := TX2) (N := 9) C0.1.1 C0.1.2.1 C0.1.2.2.2.2 hin C0.1.2.2.2.1 C0.2.1 hH.1 0 rfl rfl 1 (by decide) (C0.1.2.2.2.2 _ hm) (fun _ h9 => h9) rfl hdg kk
theorem gK_X2_stamps (C0 : Cx p s m args c cc nL Ts own D ca A) (hH : HS D A s (kW a ca u ++ wr) H locs) (hin : ∀ w ∈ wsX20, w ∈ Ts) {index : Nat} (hm : Cond.fieldLink own index "GatheringCache$Stick" "stamps" "[I" ∈ Ts) (hdg : decode cc pc = .ok (.getfield index, 3)) (kk : W p l e R s m args below meth c H locs cells slots Q (F0 m (pc + 3) ls (.ref (a 3) :: rest))) : W p l e R s m args below meth c H locs cells slots Q (F0 m pc ls (.ref (a 0) :: rest)) :=
  va_get (D := D) (ci := 2) (v := .ref (a 3)) (C := RX2) (T := TX2) (N := 9) C0.1.1 C0.1.2.1 C0.1.2.2.2.2 hin C0.1.2.2.2.1 C0.2.1 hH.1 0 rfl rfl 2 (by decide) (C0.1.2.2.2.2 _ hm) (fun _ h9 => h9) rfl hdg kk
theorem gK_X2_uses (C0 : Cx p s m args c cc nL Ts own D ca A) (hH : HS D A s (kW a ca u ++ wr) H locs) (hin : ∀ w ∈ wsX20, w ∈ Ts) {index : Nat} (hm : Cond.fieldLink own index "GatheringCache$Stick" "uses" "[I" ∈ Ts) (hdg : decode cc pc = .ok (.getfield index, 3)) (kk : W p l e R s m args below meth c H locs cells slots Q (F0 m (pc + 3) ls (.ref (a 4) :: rest))) : W p l e R s m args below meth c H locs cells slots Q (F0 m pc ls (.ref (a 0) :: rest)) :=
  va_get (D := D) (ci := 2) (v := .ref (a 4)) (C := RX2) (T := TX2) (N := 9) C0.1.1 C0.1.2.1 C0.1.2.2.2.2 hin C0.1.2.2.2.1 C0.2.1 hH.1 0 rfl rfl 3 (by decide) (C0.1.2.2.2.2 _ hm) (fun _ h9 => h9) rfl hdg kk
theorem gK_X2_dirty (C0 : Cx p s m args c cc nL Ts own D ca A) (hH : HS D A s (kW a ca u ++ wr) H locs) (hin : ∀ w ∈ wsX20, w ∈ Ts) {index : Nat} (hm : Cond.fieldLink own index "GatheringCache$Stick" "dirty" "[Z" ∈ Ts) (hdg : decode cc pc = .ok (.getfield index, 3)) (kk : W p l e R s m args below meth c H locs cells slots Q (F0 m (pc + 3) ls (.ref (a 5) :: rest))) : W p l e R s m args below meth c H locs cells slots Q (F0 m pc ls (.ref (a 0) :: rest)) :=
  va_get (D := D) (ci := 2) (v := .ref (a 5)) (C := RX2) (T := TX2) (N := 9) C0.1.1 C0.1.2.1 C0.1.2.2.2.2 hin C0.1.2.2.2.1 C0.2.1 hH.1 0 rfl rfl 4 (by decide) (C0.1.2.2.2.2 _ hm) (fun _ h9 => h9) rfl hdg kk
theorem gK_X2_lastUse (C0 : Cx p s m args c cc nL Ts own D ca A) (hH : HS D A s (kW a ca u ++ wr) H locs) (hin : ∀ w ∈ wsX20, w ∈ Ts) {index : Nat} (hm : Cond.fieldLink own index "GatheringCache$Stick" "lastUse" "I" ∈ Ts) (hdg : decode cc pc = .ok (.getfield index, 3)) (kk : W p l e R s m args below meth c H locs cells slots Q (F0 m (pc + 3) ls (.int (u 0 0) :: rest))) : W p l e R s m args below meth c H locs cells slots Q (F0 m pc ls (.ref (a 0) :: rest)) :=
  va_get (D := D) (ci := 2) (v := .int (u 0 0)) (C := RX2) (T := TX2) (N := 9) C0.1.1 C0.1.2.1 C0.1.2.2.2.2 hin C0.1.2.2.2.1 C0.2.1 hH.1 0 rfl rfl 5 (by decide) (C0.1.2.2.2.2 _ hm) (fun _ h9 => h9) rfl hdg kk
theorem pK_X2_lastUse (C0 : Cx p s m args c cc nL Ts own D ca A) (hH : HS D A s (kW a ca u ++ wr) H locs) (hin : ∀ w ∈ wsX20, w ∈ Ts) {index : Nat} {x : Int32} {u1 : Mem} (h : pf u 0 0 x = some u1) (hm : Cond.fieldLink own index "GatheringCache$Stick" "lastUse" "I" ∈ Ts) (hdg : decode cc pc = .ok (.putfield index, 3)) (kk : ∀ (H1 : Heap) (locs1 : List Loc), HS D A s (kW a ca u1 ++ wr) H1 locs1 → W p l e R s m args below meth c H1 locs1 cells slots Q (F0 m (pc + 3) ls rest)) : W p l e R s m args below meth c H locs cells slots Q (F0 m pc ls (.int x :: .ref (a 0) :: rest)) := by
  obtain rfl := pf_s h
  exact va_put (D := D) (ci := 2) (v := .int x) (ty := .int) (C := RX2) (T := TX2) (N := 9) C0.1.1 C0.1.2.1 C0.1.2.2.2.2 hin tyX2 tyX2_ok nmX2 C0.1.2.2.2.1 C0.2.1 hH.1 hH.2.1 hH.2.2 0 rfl rfl 5 (by decide) (C0.1.2.2.2.2 _ hm) (fun _ h9 => h9) rfl (by decide +kernel) rfl rfl (Nat.le_of_ble_eq_true rfl) hdg (fun H1 locs1 hP hD hS => kk H1 locs1 ⟨hP, hD, hS⟩)
theorem gK_X2_limit (C0 : Cx p s m args c cc nL Ts own D ca A) (hH : HS D A s (kW a ca u ++ wr) H locs) (hin : ∀ w ∈ wsX20, w ∈ Ts) {index : Nat} (hm : Cond.fieldLink own index "GatheringCache$Stick" "limit" "I" ∈ Ts) (hdg : decode cc pc = .ok (.getfield index, 3)) (kk : W p l e R s m args below meth c H locs cells slots Q (F0 m (pc + 3) ls (.int (u 0 1) :: rest))) : W p l e R s m args below meth c H locs cells slots Q (F0 m pc ls (.ref (a 0) :: rest)) :=
  va_get (D := D) (ci := 2) (v := .int (u 0 1)) (C := RX2) (T := TX2) (N := 9) C0.1.1 C0.1.2.1 C0.1.2.2.2.2 hin C0.1.2.2.2.1 C0.2.1 hH.1 0 rfl rfl 6 (by decide) (C0.1.2.2.2.2 _ hm) (fun _ h9 => h9) rfl hdg kk
theorem pK_X2_limit (C0 : Cx p s m args c cc nL Ts own D ca A) (hH : HS D A s (kW a ca u ++ wr) H locs) (hin : ∀ w ∈ wsX20, w ∈ Ts) {index : Nat} {x : Int32} {u1 : Mem} (h : pf u 0 1 x = some u1) (hm : Cond.fieldLink own index "GatheringCache$Stick" "limit" "I" ∈ Ts) (hdg : decode cc pc = .ok (.putfield index, 3)) (kk : ∀ (H1 : Heap) (locs1 : List Loc), HS D A s (kW a ca u1 ++ wr) H1 locs1 → W p l e R s m args below meth c H1 locs1 cells slots Q (F0 m (pc + 3) ls rest)) : W p l e R s m args below meth c H locs cells slots Q (F0 m pc ls (.int x :: .ref (a 0) :: rest)) := by
  obtain rfl := pf_s h
  exact va_put (D := D) (ci := 2) (v := .int x) (ty := .int) (C := RX2) (T := TX2) (N := 9) C0.1.1 C0.1.2.1 C0.1.2.2.2.2 hin tyX2 tyX2_ok nmX2 C0.1.2.2.2.1 C0.2.1 hH.1 hH.2.1 hH.2.2 0 rfl rfl 6 (by decide) (C0.1.2.2.2.2 _ hm) (fun _ h9 => h9) rfl (by decide +kernel) rfl rfl (Nat.le_of_ble_eq_true rfl) hdg (fun H1 locs1 hP hD hS => kk H1 locs1 ⟨hP, hD, hS⟩)
theorem gK_X2_charge (C0 : Cx p s m args c cc nL Ts own D ca A) (hH : HS D A s (kW a ca u ++ wr) H locs) (hin : ∀ w ∈ wsX20, w ∈ Ts) {index : Nat} (hm : Cond.fieldLink own index "GatheringCache$Stick" "charge" "I" ∈ Ts) (hdg : decode cc pc = .ok (.getfield index, 3)) (kk : W p l e R s m args below meth c H locs cells slots Q (F0 m (pc + 3) ls (.int (u 0 2) :: rest))) : W p l e R s m args below meth c H locs cells slots Q (F0 m pc ls (.ref (a 0) :: rest)) :=
  va_get (D := D) (ci := 2) (v := .int (u 0 2)) (C := RX2) (T := TX2) (N := 9) C0.1.1 C0.1.2.1 C0.1.2.2.2.2 hin C0.1.2.2.2.1 C0.2.1 hH.1 0 rfl rfl 7 (by decide) (C0.1.2.2.2.2 _ hm) (fun _ h9 => h9) rfl hdg kk
theorem pK_X2_charge (C0 : Cx p s m args c cc nL Ts own D ca A) (hH : HS D A s (kW a ca u ++ wr) H locs) (hin : ∀ w ∈ wsX20, w ∈ Ts) {index : Nat} {x : Int32} {u1 : Mem} (h : pf u 0 2 x = some u1) (hm : Cond.fieldLink own index "GatheringCache$Stick" "charge" "I" ∈ Ts) (hdg : decode cc pc = .ok (.putfield index, 3)) (kk : ∀ (H1 : Heap) (locs1 : List Loc), HS D A s (kW a ca u1 ++ wr) H1 locs1 → W p l e R s m args below meth c H1 locs1 cells slots Q (F0 m (pc + 3) ls rest)) : W p l e R s m args below meth c H locs cells slots Q (F0 m pc ls (.int x :: .ref (a 0) :: rest)) := by
  obtain rfl := pf_s h
  exact va_put (D := D) (ci := 2) (v := .int x) (ty := .int) (C := RX2) (T := TX2) (N := 9) C0.1.1 C0.1.2.1 C0.1.2.2.2.2 hin tyX2 tyX2_ok nmX2 C0.1.2.2.2.1 C0.2.1 hH.1 hH.2.1 hH.2.2 0 rfl rfl 7 (by decide) (C0.1.2.2.2.2 _ hm) (fun _ h9 => h9) rfl (by decide +kernel) rfl rfl (Nat.le_of_ble_eq_true rfl) hdg (fun H1 locs1 hP hD hS => kk H1 locs1 ⟨hP, hD, hS⟩)
theorem gK_X2_in (C0 : Cx p s m args c cc nL Ts own D ca A) (hH : HS D A s (kW a ca u ++ wr) H locs) (hin : ∀ w ∈ wsX20, w ∈ Ts) {index : Nat} (hm : Cond.fieldLink own index "GatheringCache$Stick" "in" "Z" ∈ Ts) (hdg : decode cc pc = .ok (.getfield index, 3)) (kk : W p l e R s m args below meth c H locs cells slots Q (F0 m (pc + 3) ls (.int (u 0 3) :: rest))) : W p l e R s m args below meth c H locs cells slots Q (F0 m pc ls (.ref (a 0) :: rest)) :=
  va_get (D := D) (ci := 2) (v := .int (u 0 3)) (C := RX2) (T := TX2) (N := 9) C0.1.1 C0.1.2.1 C0.1.2.2.2.2 hin C0.1.2.2.2.1 C0.2.1 hH.1 0 rfl rfl 8 (by decide) (C0.1.2.2.2.2 _ hm) (fun _ h9 => h9) rfl hdg kk
theorem pK_X2_in (C0 : Cx p s m args c cc nL Ts own D ca A) (hH : HS D A s (kW a ca u ++ wr) H locs) (hin : ∀ w ∈ wsX20, w ∈ Ts) {index : Nat} {x : Int32} {u1 : Mem} (h : pz u 0 3 x = some u1) (hm : Cond.fieldLink own index "GatheringCache$Stick" "in" "Z" ∈ Ts) (hdg : decode cc pc = .ok (.putfield index, 3)) (kk : ∀ (H1 : Heap) (locs1 : List Loc), HS D A s (kW a ca u1 ++ wr) H1 locs1 → W p l e R s m args below meth c H1 locs1 cells slots Q (F0 m (pc + 3) ls rest)) : W p l e R s m args below meth c H locs cells slots Q (F0 m pc ls (.int x :: .ref (a 0) :: rest)) := by
  obtain ⟨hz, rfl⟩ := pz_s h
  exact va_put (D := D) (ci := 2) (v := .int x) (ty := .boolean) (C := RX2) (T := TX2) (N := 9) C0.1.1 C0.1.2.1 C0.1.2.2.2.2 hin tyX2 tyX2_ok nmX2 C0.1.2.2.2.1 C0.2.1 hH.1 hH.2.1 hH.2.2 0 rfl rfl 8 (by decide) (C0.1.2.2.2.2 _ hm) (fun _ h9 => h9) rfl (by decide +kernel) (isz_n hz) (isz_f hz) (Nat.le_of_ble_eq_true rfl) hdg (fun H1 locs1 hP hD hS => kk H1 locs1 ⟨hP, hD, hS⟩)
theorem lK_blocks (C0 : Cx p s m args c cc nL Ts own D ca A) (hH : HS D A s (kW a ca u ++ wr) H locs) {i x : Int32} (h : ld u 1 12 i = some x) (hdg : decode cc pc = .ok (.iaload, 1)) (kk : W p l e R s m args below meth c H locs cells slots Q (F0 m (pc + 1) ls (.int x :: rest))) : W p l e R s m args below meth c H locs cells slots Q (F0 m pc ls (.int i :: .ref (a 1) :: rest)) := by
  obtain ⟨hin, rfl⟩ := ld_s h
  exact va_iald C0.1.1 C0.1.2.1 C0.2.1 hH.1 1 0 rfl rfl hin hdg kk
theorem sK_blocks (C0 : Cx p s m args c cc nL Ts own D ca A) (hH : HS D A s (kW a ca u ++ wr) H locs) {i x : Int32} {u1 : Mem} (h : st u 1 12 i x = some u1) (hdg : decode cc pc = .ok (.iastore, 1)) (kk : ∀ (H1 : Heap) (locs1 : List Loc), HS D A s (kW a ca u1 ++ wr) H1 locs1 → W p l e R s m args below meth c H1 locs1 cells slots Q (F0 m (pc + 1) ls rest)) : W p l e R s m args below meth c H locs cells slots Q (F0 m pc ls (.int x :: .int i :: .ref (a 1) :: rest)) := by
  obtain ⟨hin, rfl⟩ := st_s h
  exact va_iast C0.1.1 C0.1.2.1 C0.2.1 hH.1 hH.2.1 hH.2.2 1 0 rfl rfl hin hdg (fun H1 locs1 hP hD hS => kk H1 locs1 ⟨hP, hD, hS⟩)
theorem lK_values (C0 : Cx p s m args c cc nL Ts own D ca A) (hH : HS D A s (kW a ca u ++ wr) H locs) {i x : Int32} (h : ld u 2 12 i = some x) (hdg : decode cc pc = .ok (.iaload, 1)) (kk : W p l e R s m args below meth c H locs cells slots Q (F0 m (pc + 1) ls (.int x :: rest))) : W p l e R s m args below meth c H locs cells slots Q (F0 m pc ls (.int i :: .ref (a 2) :: rest)) := by
  obtain ⟨hin, rfl⟩ := ld_s h
  exact va_iald C0.1.1 C0.1.2.1 C0.2.1 hH.1 2 0 rfl rfl hin hdg kk
theorem sK_values (C0 : Cx p s m args c cc nL Ts own D ca A) (hH : HS D A s (kW a ca u ++ wr) H locs) {i x : Int32} {u1 : Mem} (h : st u 2 12 i x = some u1) (hdg : decode cc pc = .ok (.iastore, 1)) (kk : ∀ (H1 : Heap) (locs1 : List Loc), HS D A s (kW a ca u1 ++ wr) H1 locs1 → W p l e R s m args below meth c H1 locs1 cells slots Q (F0 m (pc + 1) ls rest)) : W p l e R s m args below meth c H locs cells slots Q (F0 m pc ls (.int x :: .int i :: .ref (a 2) :: rest)) := by
  obtain ⟨hin, rfl⟩ := st_s h
  exact va_iast C0.1.1 C0.1.2.1 C0.2.1 hH.1 hH.2.1 hH.2.2 2 0 rfl rfl hin hdg (fun H1 locs1 hP hD hS => kk H1 locs1 ⟨hP, hD, hS⟩)
theorem lK_stamps (C0 : Cx p s m args c cc nL Ts own D ca A) (hH : HS D A s (kW a ca u ++ wr) H locs) {i x : Int32} (h : ld u 3 12 i = some x) (hdg : decode cc pc = .ok (.iaload, 1)) (kk : W p l e R s m args below meth c H locs cells slots Q (F0 m (pc + 1) ls (.int x :: rest))) : W p l e R s m args below meth c H locs cells slots Q (F0 m pc ls (.int i :: .ref (a 3) :: rest)) := by
  obtain ⟨hin, rfl⟩ := ld_s h
  exact va_iald C0.1.1 C0.1.2.1 C0.2.1 hH.1 3 0 rfl rfl hin hdg kk
theorem sK_stamps (C0 : Cx p s m args c cc nL Ts own D ca A) (hH : HS D A s (kW a ca u ++ wr) H locs) {i x : Int32} {u1 : Mem} (h : st u 3 12 i x = some u1) (hdg : decode cc pc = .ok (.iastore, 1)) (kk : ∀ (H1 : Heap) (locs1 : List Loc), HS D A s (kW a ca u1 ++ wr) H1 locs1 → W p l e R s m args below meth c H1 locs1 cells slots Q (F0 m (pc + 1) ls rest)) : W p l e R s m args below meth c H locs cells slots Q (F0 m pc ls (.int x :: .int i :: .ref (a 3) :: rest)) := by
  obtain ⟨hin, rfl⟩ := st_s h
  exact va_iast C0.1.1 C0.1.2.1 C0.2.1 hH.1 hH.2.1 hH.2.2 3 0 rfl rfl hin hdg (fun H1 locs1 hP hD hS => kk H1 locs1 ⟨hP, hD, hS⟩)
theorem lK_uses (C0 : Cx p s m args c cc nL Ts own D ca A) (hH : HS D A s (kW a ca u ++ wr) H locs) {i x : Int32} (h : ld u 4 12 i = some x) (hdg : decode cc pc = .ok (.iaload, 1)) (kk : W p l e R s m args below meth c H locs cells slots Q (F0 m (pc + 1) ls (.int x :: rest))) : W p l e R s m args below meth c H locs cells slots Q (F0 m pc ls (.int i :: .ref (a 4) :: rest)) := by
  obtain ⟨hin, rfl⟩ := ld_s h
  exact va_iald C0.1.1 C0.1.2.1 C0.2.1 hH.1 4 0 rfl rfl hin hdg kk
theorem sK_uses (C0 : Cx p s m args c cc nL Ts own D ca A) (hH : HS D A s (kW a ca u ++ wr) H locs) {i x : Int32} {u1 : Mem} (h : st u 4 12 i x = some u1) (hdg : decode cc pc = .ok (.iastore, 1)) (kk : ∀ (H1 : Heap) (locs1 : List Loc), HS D A s (kW a ca u1 ++ wr) H1 locs1 → W p l e R s m args below meth c H1 locs1 cells slots Q (F0 m (pc + 1) ls rest)) : W p l e R s m args below meth c H locs cells slots Q (F0 m pc ls (.int x :: .int i :: .ref (a 4) :: rest)) := by
  obtain ⟨hin, rfl⟩ := st_s h
  exact va_iast C0.1.1 C0.1.2.1 C0.2.1 hH.1 hH.2.1 hH.2.2 4 0 rfl rfl hin hdg (fun H1 locs1 hP hD hS => kk H1 locs1 ⟨hP, hD, hS⟩)
theorem lK_dirty (C0 : Cx p s m args c cc nL Ts own D ca A) (hH : HS D A s (kW a ca u ++ wr) H locs) {i x : Int32} (h : ld u 5 12 i = some x) (hdg : decode cc pc = .ok (.baload, 1)) (kk : W p l e R s m args below meth c H locs cells slots Q (F0 m (pc + 1) ls (.int x :: rest))) : W p l e R s m args below meth c H locs cells slots Q (F0 m pc ls (.int i :: .ref (a 5) :: rest)) := by
  obtain ⟨hin, rfl⟩ := ld_s h
  exact va_zald C0.1.1 C0.1.2.1 C0.2.1 hH.1 5 1 rfl rfl hin hdg kk
theorem sK_dirty (C0 : Cx p s m args c cc nL Ts own D ca A) (hH : HS D A s (kW a ca u ++ wr) H locs) {i x : Int32} {u1 : Mem} (h : stz u 5 12 i x = some u1) (hdg : decode cc pc = .ok (.bastore, 1)) (kk : ∀ (H1 : Heap) (locs1 : List Loc), HS D A s (kW a ca u1 ++ wr) H1 locs1 → W p l e R s m args below meth c H1 locs1 cells slots Q (F0 m (pc + 1) ls rest)) : W p l e R s m args below meth c H locs cells slots Q (F0 m pc ls (.int x :: .int i :: .ref (a 5) :: rest)) := by
  unfold stz at h
  obtain ⟨hz, h⟩ := gd h
  obtain ⟨hin, rfl⟩ := st_s h
  exact va_zast C0.1.1 C0.1.2.1 C0.2.1 hH.1 hH.2.1 hH.2.2 5 1 rfl rfl hin hdg (fun H1 locs1 hP hD hS => kk H1 locs1 (by rw [isz_v hz] at hP hD; exact ⟨hP, hD, hS⟩))
end KROWS
theorem inX2_init_X2 : ∀ w ∈ wsX20, w ∈ wsX2_init := by decide +kernel
def pX2_init_63b (k : Int32 → Mem → Option Mem) (x1 : Int32) (u : Mem) : Option Mem :=
  if 12 ≤ x1 then
    some u
  else
    (st u 1 12 x1 (-1)).bind fun u102 =>
    k (x1 + 1) u102
def pX2_init_63 : Nat → Int32 → Mem → Option Mem
  | 0, _, _ => none
  | n + 1, x1, u => pX2_init_63b (pX2_init_63 n) x1 u
def pX2_init (u : Mem) : Option Mem :=
  (pf u 0 1 100).bind fun u1 =>
  (pf u1 0 2 100).bind fun u2 =>
  (pz u2 0 3 1).bind fun u3 =>
  pX2_init_63 FU 0 u3
set_option maxHeartbeats 4000000 in
set_option maxRecDepth 100000 in
theorem tl_X2_init {p : Program} {l : Launch} {e : Env} {R : Room} {s : State} {m : MethodId} {args : Array Value} {below : List Frame} {meth : Method} {c : Code} {H : Heap} {locs : List Loc} {Q : State → Prop} {ls : Array Slot} {D : va_G} {ca : Gp} {A : Nat → Prop} {wr : va_W} {a : Nat → Nat} {u u9 : Mem} (C0 : Cx p s m args c cX2_init 2 wsX2_init RX2 D ca A) (hf : pX2_init u = some u9) (hH : HS D A s (kW a ca u ++ wr) H locs) (hl : lv_has ls 2 [(0, .ref (a 0))])
    (hend : ∀ (H : Heap) (locs : List Loc) (pc : Nat) (ls : Array Slot), HS D A s (kW a ca u9 ++ wr) H locs → decode cX2_init pc = .ok (.return_, 1) → W p l e R s m args below meth c H locs 5 60 Q (F0 m pc ls [])) : W p l e R s m args below meth c H locs 5 60 Q (F0 m 44 ls []) := by
  obtain ⟨hx, hb, hml, hown, hts⟩ := id C0.1
  have J63 : ∀ (n : Nat) (x1 : Int32) (u : Mem) (H : Heap) (locs : List Loc) (ls : Array Slot), pX2_init_63 n x1 u = some u9 → HS D A s (kW a ca u ++ wr) H locs → lv_has ls 2 [(0, .ref (a 0)), (1, .int x1)] → W p l e R s m args below meth c H locs 5 60 Q (F0 m 63 ls []) := by
    intro n
    induction n with
    | zero => intro x1 u H locs ls hf; cases hf
    | succ n ih =>
      intro x1 u H locs ls hf hH hl
      have hf : pX2_init_63b (pX2_init_63 n) x1 u = some u9 := hf
      unfold pX2_init_63b at hf
      refine lv_iload_n hx hb dX2_init_63 rfl (lv_at hl 1 rfl) ?_
      refine lv_bipush (v := 12) hx hb dX2_init_64 (by decide) ?_
      refine lv_icmp_ge (tgt := 82) hx hb dX2_init_66 (by decide) (fun c101 => ?_) (fun c101 => ?_)
      · rw [if_pos c101] at hf
        cases hf
        exact hend _ _ _ _ hH dX2_init_82
      · rw [if_neg c101] at hf
        refine lv_aload_n hx hb dX2_init_69 rfl (lv_at hl 0 rfl) ?_
        refine gK_X2_blocks C0 hH inX2_init_X2 (by decide +kernel : Cond.fieldLink RX2 9 "GatheringCache$Stick" "blocks" "[I" ∈ wsX2_init) dX2_init_70 ?_
        refine lv_iload_n hx hb dX2_init_73 rfl (lv_at hl 1 rfl) ?_
        refine lv_iconst (v := (-1)) hx hb dX2_init_74 (by decide) ?_
        obtain ⟨u102, h_u102, hf⟩ := bnd hf
        refine sK_blocks C0 hH h_u102 dX2_init_75 (fun H locs hH => ?_)
        refine lv_iinc (v := (x1 + 1)) (lv' := [(1, .int (x1 + 1)), (0, .ref (a 0))]) hx hb dX2_init_76 hl (k := 1) rfl rfl (by decide) rfl (fun ls hl => ?_)
        refine lv_goto (tgt := 63) hx hb dX2_init_79 (by decide) ?_
        exact ih _ _ _ _ _ hf hH (lv_sub hl [1, 0] rfl)
  unfold pX2_init at hf
  refine lv_aload_n hx hb dX2_init_44 rfl (lv_at hl 0 rfl) ?_
  refine lv_bipush (v := 100) hx hb dX2_init_45 (by decide) ?_
  obtain ⟨u1, h_u1, hf⟩ := bnd hf
  refine pK_X2_limit C0 hH inX2_init_X2 h_u1 (by decide +kernel : Cond.fieldLink RX2 28 "GatheringCache$Stick" "limit" "I" ∈ wsX2_init) dX2_init_47 (fun H locs hH => ?_)
  refine lv_aload_n hx hb dX2_init_50 rfl (lv_at hl 0 rfl) ?_
  refine lv_bipush (v := 100) hx hb dX2_init_51 (by decide) ?_
  obtain ⟨u2, h_u2, hf⟩ := bnd hf
  refine pK_X2_charge C0 hH inX2_init_X2 h_u2 (by decide +kernel : Cond.fieldLink RX2 32 "GatheringCache$Stick" "charge" "I" ∈ wsX2_init) dX2_init_53 (fun H locs hH => ?_)
  refine lv_aload_n hx hb dX2_init_56 rfl (lv_at hl 0 rfl) ?_
  refine lv_iconst (v := 1) hx hb dX2_init_57 (by decide) ?_
  obtain ⟨u3, h_u3, hf⟩ := bnd hf
  refine pK_X2_in C0 hH inX2_init_X2 h_u3 (by decide +kernel : Cond.fieldLink RX2 35 "GatheringCache$Stick" "in" "Z" ∈ wsX2_init) dX2_init_58 (fun H locs hH => ?_)
  refine lv_iconst (v := 0) hx hb dX2_init_61 (by decide) ?_
  refine lv_istore_n (lv' := [(1, .int 0), (0, .ref (a 0))]) hx hb dX2_init_62 rfl hl (by decide) rfl (fun ls hl => ?_)
  exact J63 FU _ _ _ _ _ hf hH (lv_sub hl [1, 0] rfl)
def rmX2_init : Room := { frames := 1, cells := 5, slots := 60, locals := 12 }
theorem hd_X2_init : yX2_init.cls ≠ "java/lang/invoke/MethodHandle" ∧ yX2_init.cls ≠ "java/lang/invoke/VarHandle" ∧ (parseMethodDescriptor yX2_init.desc).map (fun d => d.parameters.length) = some 0 := by decide +kernel
set_option maxHeartbeats 4000000 in
set_option maxRecDepth 100000 in
theorem mX2_init (l : Launch) (D : va_G) (ca : Gp) (q : Nat) (wr : va_W) {v : Mem} (hf : pX2_init m0 = some v) : Mn l yX2_init wsX2_init rmX2_init D ca [.ref q] ([(q, .inr (2, [.null, .null, .null, .null, .null, .int 0, .int 0, .int 0, .int 0]))] ++ wr) (fun a : Nat → Nat => a 0 = q) (fun a => kW a ca v ++ wr) 5 60 := by
  refine Mn_of (own := RX2) (cc := cX2_init) (nL := 2) (by decide) rfl rfl rfl (Nat.le_of_ble_eq_true rfl) ?_
  intro p e s m args below meth c Q A ls C0 hin hH hl hend
  obtain ⟨hx, hb, hml, hown, hts⟩ := id C0.1
  have hl : lv_has ls 2 [(0, .ref q)] := hl
  refine lv_aload_n hx hb dX2_init_0 rfl (lv_at hl 0 rfl) ?_
  refine obj_init C0 hl.1 (by decide +kernel : Cond.methodLink RX2 3 objectInit ∈ wsX2_init) (by decide +kernel : Cond.instanceMethod objectInit ∈ wsX2_init) (by decide +kernel : Cond.code objectInit ⟨#[0xb1]⟩ 1 none ∈ wsX2_init) dX2_init_1 (Nat.le_of_ble_eq_true rfl) (Nat.le_of_ble_eq_true rfl) ?_
  refine lv_aload_n hx hb dX2_init_4 rfl (lv_at hl 0 rfl) ?_
  refine lv_bipush (v := 12) hx hb dX2_init_5 (by decide) ?_
  have hH : HS D A s ([(q, .inr (2, [.null, .null, .null, .null, .null, .int 0, .int 0, .int 0, .int 0]))] ++ wr) _ _ := hH
  refine nw_arr (a0 := (12, .inl (fun _ => 0))) C0 hH (n := 12) (N' := 12) (atype := .int) 0 rfl rfl (by decide +kernel) (fun _ => rfl) (by decide) (by decide) (Nat.le_of_ble_eq_true rfl) (Nat.le_of_ble_eq_true rfl) (Nat.le_of_ble_eq_true rfl) dX2_init_7 (fun q1 H hH => ?_)
  have hH : HS D A s ([(q, .inr (2, [.null, .null, .null, .null, .null, .int 0, .int 0, .int 0, .int 0])), (q1, .inl (ca.1 0, 12, .inl (fun _ => 0)))] ++ wr) _ _ := hH
  refine pt_fin C0 hin hH (C := RX2) (T := TX2) (N := 9) (ci := 2) inX2_init_X2 tyX2 tyX2_ok nmX2 0 rfl rfl 0 (by decide) (by decide +kernel : Cond.fieldLink RX2 9 "GatheringCache$Stick" "blocks" "[I" ∈ wsX2_init) rfl rfl (ty := tyX2 0) rfl rfl rfl (Nat.le_of_ble_eq_true rfl) dX2_init_9 (fun H locs hH => ?_)
  have hH : HS D A s ([(q, .inr (2, [.ref q1, .null, .null, .null, .null, .int 0, .int 0, .int 0, .int 0])), (q1, .inl (ca.1 0, 12, .inl (fun _ => 0)))] ++ wr) _ _ := hH
  refine lv_aload_n hx hb dX2_init_12 rfl (lv_at hl 0 rfl) ?_
  refine lv_bipush (v := 12) hx hb dX2_init_13 (by decide) ?_
  have hH : HS D A s ([(q, .inr (2, [.ref q1, .null, .null, .null, .null, .int 0, .int 0, .int 0, .int 0])), (q1, .inl (ca.1 0, 12, .inl (fun _ => 0)))] ++ wr) _ _ := hH
  refine nw_arr (a0 := (12, .inl (fun _ => 0))) C0 hH (n := 12) (N' := 12) (atype := .int) 0 rfl rfl (by decide +kernel) (fun _ => rfl) (by decide) (by decide) (Nat.le_of_ble_eq_true rfl) (Nat.le_of_ble_eq_true rfl) (Nat.le_of_ble_eq_true rfl) dX2_init_15 (fun q2 H hH => ?_)
  have hH : HS D A s ([(q, .inr (2, [.ref q1, .null, .null, .null, .null, .int 0, .int 0, .int 0, .int 0])), (q1, .inl (ca.1 0, 12, .inl (fun _ => 0))), (q2, .inl (ca.1 0, 12, .inl (fun _ => 0)))] ++ wr) _ _ := hH
  refine pt_fin C0 hin hH (C := RX2) (T := TX2) (N := 9) (ci := 2) inX2_init_X2 tyX2 tyX2_ok nmX2 0 rfl rfl 1 (by decide) (by decide +kernel : Cond.fieldLink RX2 15 "GatheringCache$Stick" "values" "[I" ∈ wsX2_init) rfl rfl (ty := tyX2 1) rfl rfl rfl (Nat.le_of_ble_eq_true rfl) dX2_init_17 (fun H locs hH => ?_)
  have hH : HS D A s ([(q, .inr (2, [.ref q1, .ref q2, .null, .null, .null, .int 0, .int 0, .int 0, .int 0])), (q1, .inl (ca.1 0, 12, .inl (fun _ => 0))), (q2, .inl (ca.1 0, 12, .inl (fun _ => 0)))] ++ wr) _ _ := hH
  refine lv_aload_n hx hb dX2_init_20 rfl (lv_at hl 0 rfl) ?_
  refine lv_bipush (v := 12) hx hb dX2_init_21 (by decide) ?_
  have hH : HS D A s ([(q, .inr (2, [.ref q1, .ref q2, .null, .null, .null, .int 0, .int 0, .int 0, .int 0])), (q1, .inl (ca.1 0, 12, .inl (fun _ => 0))), (q2, .inl (ca.1 0, 12, .inl (fun _ => 0)))] ++ wr) _ _ := hH
  refine nw_arr (a0 := (12, .inl (fun _ => 0))) C0 hH (n := 12) (N' := 12) (atype := .int) 0 rfl rfl (by decide +kernel) (fun _ => rfl) (by decide) (by decide) (Nat.le_of_ble_eq_true rfl) (Nat.le_of_ble_eq_true rfl) (Nat.le_of_ble_eq_true rfl) dX2_init_23 (fun q3 H hH => ?_)
  have hH : HS D A s ([(q, .inr (2, [.ref q1, .ref q2, .null, .null, .null, .int 0, .int 0, .int 0, .int 0])), (q1, .inl (ca.1 0, 12, .inl (fun _ => 0))), (q2, .inl (ca.1 0, 12, .inl (fun _ => 0))), (q3, .inl (ca.1 0, 12, .inl (fun _ => 0)))] ++ wr) _ _ := hH
  refine pt_fin C0 hin hH (C := RX2) (T := TX2) (N := 9) (ci := 2) inX2_init_X2 tyX2 tyX2_ok nmX2 0 rfl rfl 2 (by decide) (by decide +kernel : Cond.fieldLink RX2 18 "GatheringCache$Stick" "stamps" "[I" ∈ wsX2_init) rfl rfl (ty := tyX2 2) rfl rfl rfl (Nat.le_of_ble_eq_true rfl) dX2_init_25 (fun H locs hH => ?_)
  have hH : HS D A s ([(q, .inr (2, [.ref q1, .ref q2, .ref q3, .null, .null, .int 0, .int 0, .int 0, .int 0])), (q1, .inl (ca.1 0, 12, .inl (fun _ => 0))), (q2, .inl (ca.1 0, 12, .inl (fun _ => 0))), (q3, .inl (ca.1 0, 12, .inl (fun _ => 0)))] ++ wr) _ _ := hH
  refine lv_aload_n hx hb dX2_init_28 rfl (lv_at hl 0 rfl) ?_
  refine lv_bipush (v := 12) hx hb dX2_init_29 (by decide) ?_
  have hH : HS D A s ([(q, .inr (2, [.ref q1, .ref q2, .ref q3, .null, .null, .int 0, .int 0, .int 0, .int 0])), (q1, .inl (ca.1 0, 12, .inl (fun _ => 0))), (q2, .inl (ca.1 0, 12, .inl (fun _ => 0))), (q3, .inl (ca.1 0, 12, .inl (fun _ => 0)))] ++ wr) _ _ := hH
  refine nw_arr (a0 := (12, .inl (fun _ => 0))) C0 hH (n := 12) (N' := 12) (atype := .int) 0 rfl rfl (by decide +kernel) (fun _ => rfl) (by decide) (by decide) (Nat.le_of_ble_eq_true rfl) (Nat.le_of_ble_eq_true rfl) (Nat.le_of_ble_eq_true rfl) dX2_init_31 (fun q4 H hH => ?_)
  have hH : HS D A s ([(q, .inr (2, [.ref q1, .ref q2, .ref q3, .null, .null, .int 0, .int 0, .int 0, .int 0])), (q1, .inl (ca.1 0, 12, .inl (fun _ => 0))), (q2, .inl (ca.1 0, 12, .inl (fun _ => 0))), (q3, .inl (ca.1 0, 12, .inl (fun _ => 0))), (q4, .inl (ca.1 0, 12, .inl (fun _ => 0)))] ++ wr) _ _ := hH
  refine pt_fin C0 hin hH (C := RX2) (T := TX2) (N := 9) (ci := 2) inX2_init_X2 tyX2 tyX2_ok nmX2 0 rfl rfl 3 (by decide) (by decide +kernel : Cond.fieldLink RX2 21 "GatheringCache$Stick" "uses" "[I" ∈ wsX2_init) rfl rfl (ty := tyX2 3) rfl rfl rfl (Nat.le_of_ble_eq_true rfl) dX2_init_33 (fun H locs hH => ?_)
  have hH : HS D A s ([(q, .inr (2, [.ref q1, .ref q2, .ref q3, .ref q4, .null, .int 0, .int 0, .int 0, .int 0])), (q1, .inl (ca.1 0, 12, .inl (fun _ => 0))), (q2, .inl (ca.1 0, 12, .inl (fun _ => 0))), (q3, .inl (ca.1 0, 12, .inl (fun _ => 0))), (q4, .inl (ca.1 0, 12, .inl (fun _ => 0)))] ++ wr) _ _ := hH
  refine lv_aload_n hx hb dX2_init_36 rfl (lv_at hl 0 rfl) ?_
  refine lv_bipush (v := 12) hx hb dX2_init_37 (by decide) ?_
  have hH : HS D A s ([(q, .inr (2, [.ref q1, .ref q2, .ref q3, .ref q4, .null, .int 0, .int 0, .int 0, .int 0])), (q1, .inl (ca.1 0, 12, .inl (fun _ => 0))), (q2, .inl (ca.1 0, 12, .inl (fun _ => 0))), (q3, .inl (ca.1 0, 12, .inl (fun _ => 0))), (q4, .inl (ca.1 0, 12, .inl (fun _ => 0)))] ++ wr) _ _ := hH
  refine nw_arr (a0 := (12, .inl (fun _ => 0))) C0 hH (n := 12) (N' := 12) (atype := .boolean) 1 rfl rfl (by decide +kernel) (fun _ => rfl) (by decide) (by decide) (Nat.le_of_ble_eq_true rfl) (Nat.le_of_ble_eq_true rfl) (Nat.le_of_ble_eq_true rfl) dX2_init_39 (fun q5 H hH => ?_)
  have hH : HS D A s ([(q, .inr (2, [.ref q1, .ref q2, .ref q3, .ref q4, .null, .int 0, .int 0, .int 0, .int 0])), (q1, .inl (ca.1 0, 12, .inl (fun _ => 0))), (q2, .inl (ca.1 0, 12, .inl (fun _ => 0))), (q3, .inl (ca.1 0, 12, .inl (fun _ => 0))), (q4, .inl (ca.1 0, 12, .inl (fun _ => 0))), (q5, .inl (ca.1 1, 12, .inl (fun _ => 0)))] ++ wr) _ _ := hH
  refine pt_fin C0 hin hH (C := RX2) (T := TX2) (N := 9) (ci := 2) inX2_init_X2 tyX2 tyX2_ok nmX2 0 rfl rfl 4 (by decide) (by decide +kernel : Cond.fieldLink RX2 24 "GatheringCache$Stick" "dirty" "[Z" ∈ wsX2_init) rfl rfl (ty := tyX2 4) rfl rfl rfl (Nat.le_of_ble_eq_true rfl) dX2_init_41 (fun H locs hH => ?_)
  have hH : HS D A s ([(q, .inr (2, [.ref q1, .ref q2, .ref q3, .ref q4, .ref q5, .int 0, .int 0, .int 0, .int 0])), (q1, .inl (ca.1 0, 12, .inl (fun _ => 0))), (q2, .inl (ca.1 0, 12, .inl (fun _ => 0))), (q3, .inl (ca.1 0, 12, .inl (fun _ => 0))), (q4, .inl (ca.1 0, 12, .inl (fun _ => 0))), (q5, .inl (ca.1 1, 12, .inl (fun _ => 0)))] ++ wr) _ _ := hH
  have hH : HS D A s (kW (fun k => if k = 0 then q else if k = 1 then q1 else if k = 2 then q2 else if k = 3 then q3 else if k = 4 then q4 else q5) ca m0 ++ wr) _ _ := hH
  exact tl_X2_init C0 hf hH hl (fun H locs pc ls hH hd => hend _ H locs pc ls rfl hH hd)
theorem inX3_init_X3 : ∀ w ∈ wsX30, w ∈ wsX3_init := by decide +kernel
def rmX3_init : Room := { frames := 1, cells := 1, slots := 80, locals := 12 }
theorem hd_X3_init : yX3_init.cls ≠ "java/lang/invoke/MethodHandle" ∧ yX3_init.cls ≠ "java/lang/invoke/VarHandle" ∧ (parseMethodDescriptor yX3_init.desc).map (fun d => d.parameters.length) = some 0 := by decide +kernel
set_option maxHeartbeats 4000000 in
set_option maxRecDepth 100000 in
theorem mX3_init (l : Launch) (D : va_G) (ca : Gp) (q : Nat) (wr : va_W) : Mn l yX3_init wsX3_init rmX3_init D ca [.ref q] ([(q, .inr (3, [.null, .int 0, .int 0, .int 0, .int 0, .int 0]))] ++ wr) (fun a : Nat → Nat => a 0 = q) (fun a => tW a ca m0 ++ wr) 1 80 := by
  refine Mn_of (own := RX3) (cc := cX3_init) (nL := 1) (by decide) rfl rfl rfl (Nat.le_of_ble_eq_true rfl) ?_
  intro p e s m args below meth c Q A ls C0 hin hH hl hend
  obtain ⟨hx, hb, hml, hown, hts⟩ := id C0.1
  have hl : lv_has ls 1 [(0, .ref q)] := hl
  refine lv_aload_n hx hb dX3_init_0 rfl (lv_at hl 0 rfl) ?_
  refine obj_init C0 hl.1 (by decide +kernel : Cond.methodLink RX3 3 objectInit ∈ wsX3_init) (by decide +kernel : Cond.instanceMethod objectInit ∈ wsX3_init) (by decide +kernel : Cond.code objectInit ⟨#[0xb1]⟩ 1 none ∈ wsX3_init) dX3_init_1 (Nat.le_of_ble_eq_true rfl) (Nat.le_of_ble_eq_true rfl) ?_
  refine lv_aload_n hx hb dX3_init_4 rfl (lv_at hl 0 rfl) ?_
  refine lv_bipush (v := 80) hx hb dX3_init_5 (by decide) ?_
  have hH : HS D A s ([(q, .inr (3, [.null, .int 0, .int 0, .int 0, .int 0, .int 0]))] ++ wr) _ _ := hH
  refine nw_arr (a0 := (80, .inl (fun _ => 0))) C0 hH (n := 80) (N' := 80) (atype := .char) 2 rfl rfl (by decide +kernel) (fun _ => rfl) (by decide) (by decide) (Nat.le_of_ble_eq_true rfl) (Nat.le_of_ble_eq_true rfl) (Nat.le_of_ble_eq_true rfl) dX3_init_7 (fun q1 H hH => ?_)
  have hH : HS D A s ([(q, .inr (3, [.null, .int 0, .int 0, .int 0, .int 0, .int 0])), (q1, .inl (ca.1 2, 80, .inl (fun _ => 0)))] ++ wr) _ _ := hH
  refine pt_fin C0 hin hH (C := RX3) (T := TX3) (N := 6) (ci := 3) inX3_init_X3 tyX3 tyX3_ok nmX3 0 rfl rfl 0 (by decide) (by decide +kernel : Cond.fieldLink RX3 9 "GatheringCache$Text" "characters" "[C" ∈ wsX3_init) rfl rfl (ty := tyX3 0) rfl rfl rfl (Nat.le_of_ble_eq_true rfl) dX3_init_9 (fun H locs hH => ?_)
  have hH : HS D A s ([(q, .inr (3, [.ref q1, .int 0, .int 0, .int 0, .int 0, .int 0])), (q1, .inl (ca.1 2, 80, .inl (fun _ => 0)))] ++ wr) _ _ := hH
  have hH : HS D A s (tW (fun k => if k = 0 then q else q1) ca m0 ++ wr) _ _ := hH
  exact hend _ _ _ _ _ rfl hH dX3_init_12
