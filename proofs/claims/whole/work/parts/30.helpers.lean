/-! THE LAW'S HELPERS: a call, its answer laid into a row of one long; or the number of what it threw. -/
def oW (o : Nat) (ca : Gp) (ol : Nat → Int64) : va_W := [(o, .inl (ca.1 4, 1, .inr (.inl ol)))]
theorem perm_o (o : Nat) (a b h : Nat → Nat) (f : Nat → Nat → Nat) (ca : Gp) (ol : Nat → Int64) (t u hh : Mem) (S : Nat → Mem) (wr : va_W) : (oW o ca ol ++ gW a b h f ca t u hh S wr).Perm (gW a b h f ca t u hh S (oW o ca ol ++ wr)) := by
  unfold gW hW
  refine List.Perm.trans (perm_sw _ _ _) (List.Perm.append_left _ ?_)
  refine List.Perm.trans (perm_sw _ _ _) (List.Perm.append_left _ ?_)
  refine List.Perm.trans (perm_sw _ _ _) (List.Perm.append_left _ ?_)
  exact perm_sw _ _ _
/-- a helper: at most one new thing of six fields -/
def Mj (l : Launch) (y : MethodName) (ws : List Cond) (rm : Room) (D : va_G) (ca : Gp) (av : List Value) (w w' : va_W) (r : Int32) : Prop := ∀ sz : Nat, Met l y ws rm (va_Pc av (PcM D ca w sz)) (va_Qi (fun (r' : Int32) (_ : Unit) => r' = r) (fun _ t => QcM D w w' sz t) (va_A w sz)) 1 6 (va_A w sz)
theorem Mj_of {l : Launch} {y : MethodName} {ws ws' : List Cond} {rm : Room} {D : va_G} {ca : Gp} {av : List Value} {w w' : va_W} {r : Int32} {cc : ByteArray} {nL : Nat} {hh : List (Nat × Nat × Nat × Nat)} {own : String}
    (hy : plainName y.cls = true) (ho : y.cls = own) (hw : ws = Cond.codeWith y cc nL (some .int) hh :: ws') (hlen : (lg_sl av).length ≤ nL)
    (body : ∀ (p : Program) (e : Env) (s : State) (m : MethodId) (args : Array Value) (below : List Frame) (meth : Method) (c : Code) (Q : State → Prop) (A : Nat → Prop) (ls : Array Slot), Cx p s m args c cc nL ws own D ca A → c.exceptionTable.toList = tableOf hh → HS D A s w s.heap [] → lv_has ls nL (lv_args 0 av) →
      (∀ (H : Heap) (locs : List Loc) (pc : Nat) (ls : Array Slot), HS D A s w' H locs → decode cc pc = .ok (.ireturn, 1) → W p l e rm s m args below meth c H locs 1 6 Q (F0 m pc ls [.int r])) → W p l e rm s m args below meth c s.heap [] 0 0 Q (F0 m 0 ls [])) : Mj l y ws rm D ca av w w' r := by
  subst ho
  intro sz
  refine va_MetW (cc := cc) (maxL := nL) (ret := some .int) (hh := hh) hy hw ?_
  intro p e s m args below meth c s₁ B hml hv
  obtain ⟨rfl, hsz, hP, hK, hD0, hE⟩ := hv
  have hts := atoms_spec (ws := ws) B.pre
  have hown : s.vm.findClass y.cls = some m.cls := findClass_of_methodNamed B.named
  have hlocks := B.notSynchronized
  subst hsz
  have hl := lv_entry av (n := nL) hlen
  rw [lg_entry_eq]
  refine body p e s m av.toArray below meth c _ (va_A w s.heap.size) _ ⟨⟨B.exec, B.bytes, hml, hown, hts⟩, hK, fun q h => Or.inr h, hE⟩ (vx_table (x := y) B (hts _ (by rw [hw]; exact List.mem_cons_self))) ⟨hP, hD0.self, va_S.rf⟩ hl ?_
  intro H locs pc ls hH hdg
  exact W.zret (v := r) B.exec B.bytes B.returns rfl (fun t ht hW => ⟨⟨r, (), rfl, rfl, by rw [ht]; exact hH.1, hH.2.1⟩, hH.2.2.F ht⟩) hH.2.2.2.2 hdg hlocks
section OW
variable {p : Program} {l : Launch} {e : Env} {R : Room} {s : State} {m : MethodId} {args : Array Value} {below : List Frame} {meth : Method} {c : Code} {H : Heap} {locs : List Loc} {cells slots : Nat} {Q : State → Prop} {cc : ByteArray} {pc nL : Nat} {ls : Array Slot} {rest st0 : List Value} {D : va_G} {ca : Gp} {A : Nat → Prop} {Ts : List Cond} {own : String} {w w' wr : va_W} {o : Nat} {ol : Nat → Int64}
theorem sO (C0 : Cx p s m args c cc nL Ts own D ca A) (hH : HS D A s (oW o ca ol ++ wr) H locs) {x : Int64} (hdg : decode cc pc = .ok (.lastore, 1)) (kk : ∀ (H1 : Heap) (locs1 : List Loc), HS D A s (oW o ca (vp_updL ol 0 x) ++ wr) H1 locs1 → W p l e R s m args below meth c H1 locs1 cells slots Q (F0 m (pc + 1) ls rest)) : W p l e R s m args below meth c H locs cells slots Q (F0 m pc ls (.long x :: .int 0 :: .ref o :: rest)) :=
  va_last C0.1.1 C0.1.2.1 C0.2.1 hH.1 hH.2.1 hH.2.2 0 4 rfl rfl (by unfold vp_in; decide) hdg (fun H1 locs1 hP hD hS => kk H1 locs1 ⟨hP, hD, hS⟩)
/-- the j-th of a helper's handlers -/
theorem cat {E : String} {q : Addr} {ce : Cell} (C0 : Cx p s m args c cc nL Ts own D ca A) {hh : List (Nat × Nat × Nat × Nat)} (htab : c.exceptionTable.toList = tableOf hh) (pre : List ExceptionTableEntry) (x : ExceptionTableEntry) (suf : List ExceptionTableEntry) (hsplit : tableOf hh = pre ++ x :: suf)
    (hpass : ∀ z ∈ pre, z.catchType ≠ 0 ∧ ∃ nm : String, Cond.classLink own z.catchType nm ∈ Ts ∧ (E, nm) ∈ ncL) (hx : covers x pc = true) (h0 : x.catchType ≠ 0) (hE : E ∈ excL)
    (hlink : Cond.classLink own x.catchType E ∈ Ts) (hcell : H[q]? = some ce) (hv : ce.vm = .none) (hcl : s.vm.findClass E = some ce.cls)
    (kk : W p l e R s m args below meth c H locs cells slots Q (F0 m x.handlerPc ls [.ref q])) : vx_W p l e R s m args below meth c H locs cells slots Q (F0 m pc ls rest) q :=
  vx_catch C0.1.2.2.2.1 pre x suf (htab.trans hsplit) (fun z hz => Or.inr ⟨(hpass z hz).1, (hpass z hz).2.choose, C0.1.2.2.2.2 _ (hpass z hz).2.choose_spec.1, C0.2.2.2.2.1.2.1 _ (hpass z hz).2.choose_spec.2⟩) hx h0 (C0.1.2.2.2.2 _ hlink) (va_Nw.use rfl (C0.2.2.2.2.1.1 E hE)) hcell hv hcl kk
/-- a call of a helper, by the law -/
theorem cl_j {y : MethodName} {bytes : ByteArray} {maxL index : Nat} {ret : Option FieldType} {hh : List (Nat × Nat × Nat × Nat)} {ws ws' : List Cond} {rm : Room} {As : List Value} {r : Int32}
    (C0 : Cx p s m args c cc nL Ts own D ca A) (hH : HS D A s w H locs) (hl : ls.size = nL) (hM : Mj l y ws rm D ca As w w' r)
    (hG : GoodIn Ts (va_wsS own index y ws)) (hw : ws = Cond.codeWith y bytes maxL ret hh :: ws') (hrc : rm.cells = 1) (hrs : rm.slots = 6)
    (hd : y.cls ≠ "java/lang/invoke/MethodHandle" ∧ y.cls ≠ "java/lang/invoke/VarHandle" ∧ (parseMethodDescriptor y.desc).map (fun d => d.parameters.length) = some As.length) (hR : rm.frames + 1 ≤ R.frames ∧ 8 + (maxL + 11) + rm.locals ≤ R.locals) (hf : cells + 1 ≤ R.cells ∧ slots + 6 ≤ R.slots)
    (hst : st0 = As.reverse ++ rest) (hcat : (rest.map fun v => v.category).sum ≤ 8) (hdg : decode cc pc = .ok (.invokestatic index, 3))
    (kk : ∀ (H1 : Heap) (locs1 : List Loc), HS D A s w' H1 locs1 → W p l e R s m args below meth c H1 locs1 (cells + 1) (slots + 6) Q (F0 m (pc + 3) ls (.int r :: rest))) : W p l e R s m args below meth c H locs cells slots Q (F0 m pc ls st0) := by
  obtain ⟨hx, hb, hml, hown, hts⟩ := C0.1
  refine va_calli (vx_runSW (As := As) (rest := rest) ⟨hx, hb, hml, hown, hts⟩ (hM H.size) (vx_cwSW As.length hts hG hw hrc hrs hd hR) ⟨PcM_blind, fun U hU hW => ⟨rfl, PcM_at C0 hH U hU hW⟩⟩ rfl rfl hl hst (lv_room hcat) hdg ⟨hf.1, hf.2⟩) hH.2.2 (fun q _ h => hH.free C0 q h) (hH.free C0) (fun r1 u t H1 locs1 ht hvm hw hB hz1 hk1 hS => ?_)
  subst hw
  exact kk H1 locs1 (hH.back C0 ht hB hS)
end OW
def rmL_write : Room := { frames := 8, cells := 1, slots := 6, locals := 164 }
theorem hd_L_write : yL_write.cls ≠ "java/lang/invoke/MethodHandle" ∧ yL_write.cls ≠ "java/lang/invoke/VarHandle" ∧ (parseMethodDescriptor yL_write.desc).map (fun d => d.parameters.length) = some 4 := by decide +kernel
set_option maxHeartbeats 4000000 in
set_option maxRecDepth 100000 in
theorem mL_write (l : Launch) (hfl : l.stackTraces = false) (D : va_G) (ca : Gp) (o : Nat) (a b h : Nat → Nat) (f : Nat → Nat → Nat) (wr : va_W) (ol : Nat → Int64) (t u hh : Mem) (S : Nat → Mem) (x1 : Int32) (x2 : Int32) {r : Int32} {t9 u9 h9 : Mem} {S9 : Nat → Mem} (hf : pX4_write t u hh S x1 x2 = some (r, (t9, u9, h9, S9))) : Mj l yL_write wsL_write rmL_write D ca [.ref (h 2), .int x1, .int x2, .ref o] (oW o ca ol ++ gW a b h f ca t u hh S wr) (oW o ca (vp_updL ol 0 r.toInt64) ++ gW a b h f ca t9 u9 h9 S9 wr) 0 := by
  refine Mj_of (own := RL) (cc := cL_write) (nL := 5) (hh := [(0, 10, 13, 13), (0, 10, 17, 15), (0, 10, 21, 17)]) (by decide) rfl rfl (Nat.le_of_ble_eq_true rfl) ?_
  intro p e s m args below meth c Q A ls C0 htab hH hl hend
  obtain ⟨hx, hb, hml, hown, hts⟩ := id C0.1
  have hl : lv_has ls 5 [(0, .ref (h 2)), (1, .int x1), (2, .int x2), (3, .ref o)] := hl
  refine lv_aload_n hx hb dL_write_0 rfl (lv_at hl 3 rfl) ?_
  refine lv_iconst (v := 0) hx hb dL_write_1 (by decide) ?_
  refine lv_aload_n hx hb dL_write_2 rfl (lv_at hl 0 rfl) ?_
  refine lv_iload_n hx hb dL_write_3 rfl (lv_at hl 1 rfl) ?_
  refine lv_iload_n hx hb dL_write_4 rfl (lv_at hl 2 rfl) ?_
  have hH := hH.perm (perm_o o a b h f ca ol t u hh S wr)
  refine cl_iV C0 hH hl.1 (As := [.int x1, .int x2]) (rest := [.int 0, .ref o]) (mX4_write l D ca a b h f (oW o ca ol ++ wr) t u hh S x1 x2 hf) gL_write_X4_write rfl rfl rfl hd_X4_write ⟨Nat.le_of_ble_eq_true rfl, Nat.le_of_ble_eq_true rfl⟩ ⟨Nat.zero_le _, Nat.zero_le _⟩ (vG_X4 C0 hH) rfl (Nat.le_of_ble_eq_true rfl) dL_write_5 (fun H locs hH => ?_)
  have hH := hH.perm (perm_o o a b h f ca ol t9 u9 h9 S9 wr).symm
  refine lv_i2l (v := r.toInt64) hx hb dL_write_8 rfl ?_
  refine sO C0 hH dL_write_9 (fun H locs hH => ?_)
  refine lv_goto (tgt := 25) hx hb dL_write_10 (by decide) ?_
  refine lv_iconst (v := 0) hx hb dL_write_25 (by decide) ?_
  refine W.widen (k := 1) (n := 6) (Nat.zero_le _) (Nat.zero_le _) ?_
  exact hend _ _ _ _ hH dL_write_26
set_option maxHeartbeats 4000000 in
set_option maxRecDepth 100000 in
theorem eL_write_1 (l : Launch) (hfl : l.stackTraces = false) (D : va_G) (ca : Gp) (o : Nat) (a b h : Nat → Nat) (f : Nat → Nat → Nat) (wr : va_W) (ol : Nat → Int64) (t u hh : Mem) (S : Nat → Mem) (x1 : Int32) (x2 : Int32) {t9 : Mem} (hf : tX4_write t u hh S x1 x2 = some ("java/lang/IndexOutOfBoundsException", t9)) : Mj l yL_write wsL_write rmL_write D ca [.ref (h 2), .int x1, .int x2, .ref o] (oW o ca ol ++ gW a b h f ca t u hh S wr) (oW o ca ol ++ gW a b h f ca t9 u hh S wr) 1 := by
  refine Mj_of (own := RL) (cc := cL_write) (nL := 5) (hh := [(0, 10, 13, 13), (0, 10, 17, 15), (0, 10, 21, 17)]) (by decide) rfl rfl (Nat.le_of_ble_eq_true rfl) ?_
  intro p e s m args below meth c Q A ls C0 htab hH hl hend
  obtain ⟨hx, hb, hml, hown, hts⟩ := id C0.1
  have hl : lv_has ls 5 [(0, .ref (h 2)), (1, .int x1), (2, .int x2), (3, .ref o)] := hl
  refine lv_aload_n hx hb dL_write_0 rfl (lv_at hl 3 rfl) ?_
  refine lv_iconst (v := 0) hx hb dL_write_1 (by decide) ?_
  refine lv_aload_n hx hb dL_write_2 rfl (lv_at hl 0 rfl) ?_
  refine lv_iload_n hx hb dL_write_3 rfl (lv_at hl 1 rfl) ?_
  refine lv_iload_n hx hb dL_write_4 rfl (lv_at hl 2 rfl) ?_
  have hH := hH.perm (perm_o o a b h f ca ol t u hh S wr)
  refine cx_iV C0 hH hl.1 (As := [.int x1, .int x2]) (rest := [.int 0, .ref o]) (eX4_write l hfl D ca a b h f (oW o ca ol ++ wr) t u hh S x1 x2 hf) gL_write_X4_write rfl rfl rfl hd_X4_write ⟨Nat.le_of_ble_eq_true rfl, Nat.le_of_ble_eq_true rfl⟩ ⟨Nat.le_of_ble_eq_true rfl, Nat.le_of_ble_eq_true rfl⟩ (vG_X4 C0 hH) rfl (Nat.le_of_ble_eq_true rfl) dL_write_5 (fun H locs q ce hH hq hv hcl => ?_)
  have hH := hH.perm (perm_o o a b h f ca ol t9 u hh S wr).symm
  refine cat C0 htab [] ⟨0, 10, 13, 13⟩ [⟨0, 10, 17, 15⟩, ⟨0, 10, 21, 17⟩] rfl (fun z hz => by cases hz) (by decide) (by decide) (by decide) (by decide +kernel) hq hv hcl ?_
  refine lv_astore (lv' := [(4, .ref q), (0, .ref (h 2)), (1, .int x1), (2, .int x2), (3, .ref o)]) hx hb dL_write_13 hl (by decide) rfl (fun ls hl => ?_)
  refine lv_iconst (v := 1) hx hb dL_write_15 (by decide) ?_
  exact hend _ _ _ _ hH dL_write_16
set_option maxHeartbeats 4000000 in
set_option maxRecDepth 100000 in
theorem eL_write_2 (l : Launch) (hfl : l.stackTraces = false) (D : va_G) (ca : Gp) (o : Nat) (a b h : Nat → Nat) (f : Nat → Nat → Nat) (wr : va_W) (ol : Nat → Int64) (t u hh : Mem) (S : Nat → Mem) (x1 : Int32) (x2 : Int32) {t9 : Mem} (hf : tX4_write t u hh S x1 x2 = some ("java/lang/IllegalArgumentException", t9)) : Mj l yL_write wsL_write rmL_write D ca [.ref (h 2), .int x1, .int x2, .ref o] (oW o ca ol ++ gW a b h f ca t u hh S wr) (oW o ca ol ++ gW a b h f ca t9 u hh S wr) 2 := by
  refine Mj_of (own := RL) (cc := cL_write) (nL := 5) (hh := [(0, 10, 13, 13), (0, 10, 17, 15), (0, 10, 21, 17)]) (by decide) rfl rfl (Nat.le_of_ble_eq_true rfl) ?_
  intro p e s m args below meth c Q A ls C0 htab hH hl hend
  obtain ⟨hx, hb, hml, hown, hts⟩ := id C0.1
  have hl : lv_has ls 5 [(0, .ref (h 2)), (1, .int x1), (2, .int x2), (3, .ref o)] := hl
  refine lv_aload_n hx hb dL_write_0 rfl (lv_at hl 3 rfl) ?_
  refine lv_iconst (v := 0) hx hb dL_write_1 (by decide) ?_
  refine lv_aload_n hx hb dL_write_2 rfl (lv_at hl 0 rfl) ?_
  refine lv_iload_n hx hb dL_write_3 rfl (lv_at hl 1 rfl) ?_
  refine lv_iload_n hx hb dL_write_4 rfl (lv_at hl 2 rfl) ?_
  have hH := hH.perm (perm_o o a b h f ca ol t u hh S wr)
  refine cx_iV C0 hH hl.1 (As := [.int x1, .int x2]) (rest := [.int 0, .ref o]) (eX4_write l hfl D ca a b h f (oW o ca ol ++ wr) t u hh S x1 x2 hf) gL_write_X4_write rfl rfl rfl hd_X4_write ⟨Nat.le_of_ble_eq_true rfl, Nat.le_of_ble_eq_true rfl⟩ ⟨Nat.le_of_ble_eq_true rfl, Nat.le_of_ble_eq_true rfl⟩ (vG_X4 C0 hH) rfl (Nat.le_of_ble_eq_true rfl) dL_write_5 (fun H locs q ce hH hq hv hcl => ?_)
  have hH := hH.perm (perm_o o a b h f ca ol t9 u hh S wr).symm
  refine cat C0 htab [⟨0, 10, 13, 13⟩] ⟨0, 10, 17, 15⟩ [⟨0, 10, 21, 17⟩] rfl (fun z hz => by rw [List.mem_singleton.mp hz]; exact ⟨by decide, "java/lang/IndexOutOfBoundsException", by decide +kernel, by decide⟩) (by decide) (by decide) (by decide) (by decide +kernel) hq hv hcl ?_
  refine lv_astore (lv' := [(4, .ref q), (0, .ref (h 2)), (1, .int x1), (2, .int x2), (3, .ref o)]) hx hb dL_write_17 hl (by decide) rfl (fun ls hl => ?_)
  refine lv_iconst (v := 2) hx hb dL_write_19 (by decide) ?_
  exact hend _ _ _ _ hH dL_write_20
set_option maxHeartbeats 4000000 in
set_option maxRecDepth 100000 in
theorem eL_write_3 (l : Launch) (hfl : l.stackTraces = false) (D : va_G) (ca : Gp) (o : Nat) (a b h : Nat → Nat) (f : Nat → Nat → Nat) (wr : va_W) (ol : Nat → Int64) (t u hh : Mem) (S : Nat → Mem) (x1 : Int32) (x2 : Int32) {t9 : Mem} (hf : tX4_write t u hh S x1 x2 = some ("java/lang/IllegalStateException", t9)) : Mj l yL_write wsL_write rmL_write D ca [.ref (h 2), .int x1, .int x2, .ref o] (oW o ca ol ++ gW a b h f ca t u hh S wr) (oW o ca ol ++ gW a b h f ca t9 u hh S wr) 3 := by
  refine Mj_of (own := RL) (cc := cL_write) (nL := 5) (hh := [(0, 10, 13, 13), (0, 10, 17, 15), (0, 10, 21, 17)]) (by decide) rfl rfl (Nat.le_of_ble_eq_true rfl) ?_
  intro p e s m args below meth c Q A ls C0 htab hH hl hend
  obtain ⟨hx, hb, hml, hown, hts⟩ := id C0.1
  have hl : lv_has ls 5 [(0, .ref (h 2)), (1, .int x1), (2, .int x2), (3, .ref o)] := hl
  refine lv_aload_n hx hb dL_write_0 rfl (lv_at hl 3 rfl) ?_
  refine lv_iconst (v := 0) hx hb dL_write_1 (by decide) ?_
  refine lv_aload_n hx hb dL_write_2 rfl (lv_at hl 0 rfl) ?_
  refine lv_iload_n hx hb dL_write_3 rfl (lv_at hl 1 rfl) ?_
  refine lv_iload_n hx hb dL_write_4 rfl (lv_at hl 2 rfl) ?_
  have hH := hH.perm (perm_o o a b h f ca ol t u hh S wr)
  refine cx_iV C0 hH hl.1 (As := [.int x1, .int x2]) (rest := [.int 0, .ref o]) (eX4_write l hfl D ca a b h f (oW o ca ol ++ wr) t u hh S x1 x2 hf) gL_write_X4_write rfl rfl rfl hd_X4_write ⟨Nat.le_of_ble_eq_true rfl, Nat.le_of_ble_eq_true rfl⟩ ⟨Nat.le_of_ble_eq_true rfl, Nat.le_of_ble_eq_true rfl⟩ (vG_X4 C0 hH) rfl (Nat.le_of_ble_eq_true rfl) dL_write_5 (fun H locs q ce hH hq hv hcl => ?_)
  have hH := hH.perm (perm_o o a b h f ca ol t9 u hh S wr).symm
  refine cat C0 htab [⟨0, 10, 13, 13⟩, ⟨0, 10, 17, 15⟩] ⟨0, 10, 21, 17⟩ [] rfl (fun z hz => (List.mem_cons.mp hz).elim (fun e9 => by rw [e9]; exact ⟨by decide, "java/lang/IndexOutOfBoundsException", by decide +kernel, by decide⟩) (fun hz => by rw [List.mem_singleton.mp hz]; exact ⟨by decide, "java/lang/IllegalArgumentException", by decide +kernel, by decide⟩)) (by decide) (by decide) (by decide) (by decide +kernel) hq hv hcl ?_
  refine lv_astore (lv' := [(4, .ref q), (0, .ref (h 2)), (1, .int x1), (2, .int x2), (3, .ref o)]) hx hb dL_write_21 hl (by decide) rfl (fun ls hl => ?_)
  refine lv_iconst (v := 3) hx hb dL_write_23 (by decide) ?_
  exact hend _ _ _ _ hH dL_write_24
def rmL_read : Room := { frames := 8, cells := 1, slots := 6, locals := 163 }
theorem hd_L_read : yL_read.cls ≠ "java/lang/invoke/MethodHandle" ∧ yL_read.cls ≠ "java/lang/invoke/VarHandle" ∧ (parseMethodDescriptor yL_read.desc).map (fun d => d.parameters.length) = some 3 := by decide +kernel
set_option maxHeartbeats 4000000 in
set_option maxRecDepth 100000 in
theorem mL_read (l : Launch) (hfl : l.stackTraces = false) (D : va_G) (ca : Gp) (o : Nat) (a b h : Nat → Nat) (f : Nat → Nat → Nat) (wr : va_W) (ol : Nat → Int64) (t u hh : Mem) (S : Nat → Mem) (x1 : Int32) {r : Int32} {t9 u9 h9 : Mem} {S9 : Nat → Mem} (hf : pX4_read t u hh S x1 = some (r, (t9, u9, h9, S9))) : Mj l yL_read wsL_read rmL_read D ca [.ref (h 2), .int x1, .ref o] (oW o ca ol ++ gW a b h f ca t u hh S wr) (oW o ca (vp_updL ol 0 r.toInt64) ++ gW a b h f ca t9 u9 h9 S9 wr) 0 := by
  refine Mj_of (own := RL) (cc := cL_read) (nL := 4) (hh := [(0, 9, 12, 13), (0, 9, 15, 17)]) (by decide) rfl rfl (Nat.le_of_ble_eq_true rfl) ?_
  intro p e s m args below meth c Q A ls C0 htab hH hl hend
  obtain ⟨hx, hb, hml, hown, hts⟩ := id C0.1
  have hl : lv_has ls 4 [(0, .ref (h 2)), (1, .int x1), (2, .ref o)] := hl
  refine lv_aload_n hx hb dL_read_0 rfl (lv_at hl 2 rfl) ?_
  refine lv_iconst (v := 0) hx hb dL_read_1 (by decide) ?_
  refine lv_aload_n hx hb dL_read_2 rfl (lv_at hl 0 rfl) ?_
  refine lv_iload_n hx hb dL_read_3 rfl (lv_at hl 1 rfl) ?_
  have hH := hH.perm (perm_o o a b h f ca ol t u hh S wr)
  refine cl_iV C0 hH hl.1 (As := [.int x1]) (rest := [.int 0, .ref o]) (mX4_read l D ca a b h f (oW o ca ol ++ wr) t u hh S x1 hf) gL_read_X4_read rfl rfl rfl hd_X4_read ⟨Nat.le_of_ble_eq_true rfl, Nat.le_of_ble_eq_true rfl⟩ ⟨Nat.zero_le _, Nat.zero_le _⟩ (vG_X4 C0 hH) rfl (Nat.le_of_ble_eq_true rfl) dL_read_4 (fun H locs hH => ?_)
  have hH := hH.perm (perm_o o a b h f ca ol t9 u9 h9 S9 wr).symm
  refine lv_i2l (v := r.toInt64) hx hb dL_read_7 rfl ?_
  refine sO C0 hH dL_read_8 (fun H locs hH => ?_)
  refine lv_goto (tgt := 18) hx hb dL_read_9 (by decide) ?_
  refine lv_iconst (v := 0) hx hb dL_read_18 (by decide) ?_
  refine W.widen (k := 1) (n := 6) (Nat.zero_le _) (Nat.zero_le _) ?_
  exact hend _ _ _ _ hH dL_read_19
set_option maxHeartbeats 4000000 in
set_option maxRecDepth 100000 in
theorem eL_read_1 (l : Launch) (hfl : l.stackTraces = false) (D : va_G) (ca : Gp) (o : Nat) (a b h : Nat → Nat) (f : Nat → Nat → Nat) (wr : va_W) (ol : Nat → Int64) (t u hh : Mem) (S : Nat → Mem) (x1 : Int32) {t9 : Mem} (hf : tX4_read t u hh S x1 = some ("java/lang/IndexOutOfBoundsException", t9)) : Mj l yL_read wsL_read rmL_read D ca [.ref (h 2), .int x1, .ref o] (oW o ca ol ++ gW a b h f ca t u hh S wr) (oW o ca ol ++ gW a b h f ca t9 u hh S wr) 1 := by
  refine Mj_of (own := RL) (cc := cL_read) (nL := 4) (hh := [(0, 9, 12, 13), (0, 9, 15, 17)]) (by decide) rfl rfl (Nat.le_of_ble_eq_true rfl) ?_
  intro p e s m args below meth c Q A ls C0 htab hH hl hend
  obtain ⟨hx, hb, hml, hown, hts⟩ := id C0.1
  have hl : lv_has ls 4 [(0, .ref (h 2)), (1, .int x1), (2, .ref o)] := hl
  refine lv_aload_n hx hb dL_read_0 rfl (lv_at hl 2 rfl) ?_
  refine lv_iconst (v := 0) hx hb dL_read_1 (by decide) ?_
  refine lv_aload_n hx hb dL_read_2 rfl (lv_at hl 0 rfl) ?_
  refine lv_iload_n hx hb dL_read_3 rfl (lv_at hl 1 rfl) ?_
  have hH := hH.perm (perm_o o a b h f ca ol t u hh S wr)
  refine cx_iV C0 hH hl.1 (As := [.int x1]) (rest := [.int 0, .ref o]) (eX4_read l hfl D ca a b h f (oW o ca ol ++ wr) t u hh S x1 hf) gL_read_X4_read rfl rfl rfl hd_X4_read ⟨Nat.le_of_ble_eq_true rfl, Nat.le_of_ble_eq_true rfl⟩ ⟨Nat.le_of_ble_eq_true rfl, Nat.le_of_ble_eq_true rfl⟩ (vG_X4 C0 hH) rfl (Nat.le_of_ble_eq_true rfl) dL_read_4 (fun H locs q ce hH hq hv hcl => ?_)
  have hH := hH.perm (perm_o o a b h f ca ol t9 u hh S wr).symm
  refine cat C0 htab [] ⟨0, 9, 12, 13⟩ [⟨0, 9, 15, 17⟩] rfl (fun z hz => by cases hz) (by decide) (by decide) (by decide) (by decide +kernel) hq hv hcl ?_
  refine lv_astore_n (lv' := [(3, .ref q), (0, .ref (h 2)), (1, .int x1), (2, .ref o)]) hx hb dL_read_12 rfl hl (by decide) rfl (fun ls hl => ?_)
  refine lv_iconst (v := 1) hx hb dL_read_13 (by decide) ?_
  exact hend _ _ _ _ hH dL_read_14
set_option maxHeartbeats 4000000 in
set_option maxRecDepth 100000 in
theorem eL_read_2 (l : Launch) (hfl : l.stackTraces = false) (D : va_G) (ca : Gp) (o : Nat) (a b h : Nat → Nat) (f : Nat → Nat → Nat) (wr : va_W) (ol : Nat → Int64) (t u hh : Mem) (S : Nat → Mem) (x1 : Int32) {t9 : Mem} (hf : tX4_read t u hh S x1 = some ("java/lang/IllegalStateException", t9)) : Mj l yL_read wsL_read rmL_read D ca [.ref (h 2), .int x1, .ref o] (oW o ca ol ++ gW a b h f ca t u hh S wr) (oW o ca ol ++ gW a b h f ca t9 u hh S wr) 2 := by
  refine Mj_of (own := RL) (cc := cL_read) (nL := 4) (hh := [(0, 9, 12, 13), (0, 9, 15, 17)]) (by decide) rfl rfl (Nat.le_of_ble_eq_true rfl) ?_
  intro p e s m args below meth c Q A ls C0 htab hH hl hend
  obtain ⟨hx, hb, hml, hown, hts⟩ := id C0.1
  have hl : lv_has ls 4 [(0, .ref (h 2)), (1, .int x1), (2, .ref o)] := hl
  refine lv_aload_n hx hb dL_read_0 rfl (lv_at hl 2 rfl) ?_
  refine lv_iconst (v := 0) hx hb dL_read_1 (by decide) ?_
  refine lv_aload_n hx hb dL_read_2 rfl (lv_at hl 0 rfl) ?_
  refine lv_iload_n hx hb dL_read_3 rfl (lv_at hl 1 rfl) ?_
  have hH := hH.perm (perm_o o a b h f ca ol t u hh S wr)
  refine cx_iV C0 hH hl.1 (As := [.int x1]) (rest := [.int 0, .ref o]) (eX4_read l hfl D ca a b h f (oW o ca ol ++ wr) t u hh S x1 hf) gL_read_X4_read rfl rfl rfl hd_X4_read ⟨Nat.le_of_ble_eq_true rfl, Nat.le_of_ble_eq_true rfl⟩ ⟨Nat.le_of_ble_eq_true rfl, Nat.le_of_ble_eq_true rfl⟩ (vG_X4 C0 hH) rfl (Nat.le_of_ble_eq_true rfl) dL_read_4 (fun H locs q ce hH hq hv hcl => ?_)
  have hH := hH.perm (perm_o o a b h f ca ol t9 u hh S wr).symm
  refine cat C0 htab [⟨0, 9, 12, 13⟩] ⟨0, 9, 15, 17⟩ [] rfl (fun z hz => by rw [List.mem_singleton.mp hz]; exact ⟨by decide, "java/lang/IndexOutOfBoundsException", by decide +kernel, by decide⟩) (by decide) (by decide) (by decide) (by decide +kernel) hq hv hcl ?_
  refine lv_astore_n (lv' := [(3, .ref q), (0, .ref (h 2)), (1, .int x1), (2, .ref o)]) hx hb dL_read_15 rfl hl (by decide) rfl (fun ls hl => ?_)
  refine lv_iconst (v := 2) hx hb dL_read_16 (by decide) ?_
  exact hend _ _ _ _ hH dL_read_17
def rmL_destage : Room := { frames := 8, cells := 1, slots := 6, locals := 163 }
theorem hd_L_destage : yL_destage.cls ≠ "java/lang/invoke/MethodHandle" ∧ yL_destage.cls ≠ "java/lang/invoke/VarHandle" ∧ (parseMethodDescriptor yL_destage.desc).map (fun d => d.parameters.length) = some 3 := by decide +kernel
set_option maxHeartbeats 4000000 in
set_option maxRecDepth 100000 in
theorem mL_destage (l : Launch) (hfl : l.stackTraces = false) (D : va_G) (ca : Gp) (o : Nat) (a b h : Nat → Nat) (f : Nat → Nat → Nat) (wr : va_W) (ol : Nat → Int64) (t u hh : Mem) (S : Nat → Mem) (x1 : Int32) {r : Int32} {t9 u9 h9 : Mem} {S9 : Nat → Mem} (hf : pX4_destage t u hh S x1 = some (r, (t9, u9, h9, S9))) : Mj l yL_destage wsL_destage rmL_destage D ca [.ref (h 2), .int x1, .ref o] (oW o ca ol ++ gW a b h f ca t u hh S wr) (oW o ca (vp_updL ol 0 r.toInt64) ++ gW a b h f ca t9 u9 h9 S9 wr) 0 := by
  refine Mj_of (own := RL) (cc := cL_destage) (nL := 4) (hh := [(0, 9, 12, 13), (0, 9, 15, 17)]) (by decide) rfl rfl (Nat.le_of_ble_eq_true rfl) ?_
  intro p e s m args below meth c Q A ls C0 htab hH hl hend
  obtain ⟨hx, hb, hml, hown, hts⟩ := id C0.1
  have hl : lv_has ls 4 [(0, .ref (h 2)), (1, .int x1), (2, .ref o)] := hl
  refine lv_aload_n hx hb dL_destage_0 rfl (lv_at hl 2 rfl) ?_
  refine lv_iconst (v := 0) hx hb dL_destage_1 (by decide) ?_
  refine lv_aload_n hx hb dL_destage_2 rfl (lv_at hl 0 rfl) ?_
  refine lv_iload_n hx hb dL_destage_3 rfl (lv_at hl 1 rfl) ?_
  have hH := hH.perm (perm_o o a b h f ca ol t u hh S wr)
  refine cl_iV C0 hH hl.1 (As := [.int x1]) (rest := [.int 0, .ref o]) (mX4_destage l D ca a b h f (oW o ca ol ++ wr) t u hh S x1 hf) gL_destage_X4_destage rfl rfl rfl hd_X4_destage ⟨Nat.le_of_ble_eq_true rfl, Nat.le_of_ble_eq_true rfl⟩ ⟨Nat.zero_le _, Nat.zero_le _⟩ (vG_X4 C0 hH) rfl (Nat.le_of_ble_eq_true rfl) dL_destage_4 (fun H locs hH => ?_)
  have hH := hH.perm (perm_o o a b h f ca ol t9 u9 h9 S9 wr).symm
  refine lv_i2l (v := r.toInt64) hx hb dL_destage_7 rfl ?_
  refine sO C0 hH dL_destage_8 (fun H locs hH => ?_)
  refine lv_goto (tgt := 18) hx hb dL_destage_9 (by decide) ?_
  refine lv_iconst (v := 0) hx hb dL_destage_18 (by decide) ?_
  refine W.widen (k := 1) (n := 6) (Nat.zero_le _) (Nat.zero_le _) ?_
  exact hend _ _ _ _ hH dL_destage_19
set_option maxHeartbeats 4000000 in
set_option maxRecDepth 100000 in
theorem eL_destage_1 (l : Launch) (hfl : l.stackTraces = false) (D : va_G) (ca : Gp) (o : Nat) (a b h : Nat → Nat) (f : Nat → Nat → Nat) (wr : va_W) (ol : Nat → Int64) (t u hh : Mem) (S : Nat → Mem) (x1 : Int32) {t9 : Mem} (hf : tX4_destage t u hh S x1 = some ("java/lang/IndexOutOfBoundsException", t9)) : Mj l yL_destage wsL_destage rmL_destage D ca [.ref (h 2), .int x1, .ref o] (oW o ca ol ++ gW a b h f ca t u hh S wr) (oW o ca ol ++ gW a b h f ca t9 u hh S wr) 1 := by
  refine Mj_of (own := RL) (cc := cL_destage) (nL := 4) (hh := [(0, 9, 12, 13), (0, 9, 15, 17)]) (by decide) rfl rfl (Nat.le_of_ble_eq_true rfl) ?_
  intro p e s m args below meth c Q A ls C0 htab hH hl hend
  obtain ⟨hx, hb, hml, hown, hts⟩ := id C0.1
  have hl : lv_has ls 4 [(0, .ref (h 2)), (1, .int x1), (2, .ref o)] := hl
  refine lv_aload_n hx hb dL_destage_0 rfl (lv_at hl 2 rfl) ?_
  refine lv_iconst (v := 0) hx hb dL_destage_1 (by decide) ?_
  refine lv_aload_n hx hb dL_destage_2 rfl (lv_at hl 0 rfl) ?_
  refine lv_iload_n hx hb dL_destage_3 rfl (lv_at hl 1 rfl) ?_
  have hH := hH.perm (perm_o o a b h f ca ol t u hh S wr)
  refine cx_iV C0 hH hl.1 (As := [.int x1]) (rest := [.int 0, .ref o]) (eX4_destage l hfl D ca a b h f (oW o ca ol ++ wr) t u hh S x1 hf) gL_destage_X4_destage rfl rfl rfl hd_X4_destage ⟨Nat.le_of_ble_eq_true rfl, Nat.le_of_ble_eq_true rfl⟩ ⟨Nat.le_of_ble_eq_true rfl, Nat.le_of_ble_eq_true rfl⟩ (vG_X4 C0 hH) rfl (Nat.le_of_ble_eq_true rfl) dL_destage_4 (fun H locs q ce hH hq hv hcl => ?_)
  have hH := hH.perm (perm_o o a b h f ca ol t9 u hh S wr).symm
  refine cat C0 htab [] ⟨0, 9, 12, 13⟩ [⟨0, 9, 15, 17⟩] rfl (fun z hz => by cases hz) (by decide) (by decide) (by decide) (by decide +kernel) hq hv hcl ?_
  refine lv_astore_n (lv' := [(3, .ref q), (0, .ref (h 2)), (1, .int x1), (2, .ref o)]) hx hb dL_destage_12 rfl hl (by decide) rfl (fun ls hl => ?_)
  refine lv_iconst (v := 1) hx hb dL_destage_13 (by decide) ?_
  exact hend _ _ _ _ hH dL_destage_14
set_option maxHeartbeats 4000000 in
set_option maxRecDepth 100000 in
theorem eL_destage_2 (l : Launch) (hfl : l.stackTraces = false) (D : va_G) (ca : Gp) (o : Nat) (a b h : Nat → Nat) (f : Nat → Nat → Nat) (wr : va_W) (ol : Nat → Int64) (t u hh : Mem) (S : Nat → Mem) (x1 : Int32) {t9 : Mem} (hf : tX4_destage t u hh S x1 = some ("java/lang/IllegalStateException", t9)) : Mj l yL_destage wsL_destage rmL_destage D ca [.ref (h 2), .int x1, .ref o] (oW o ca ol ++ gW a b h f ca t u hh S wr) (oW o ca ol ++ gW a b h f ca t9 u hh S wr) 2 := by
  refine Mj_of (own := RL) (cc := cL_destage) (nL := 4) (hh := [(0, 9, 12, 13), (0, 9, 15, 17)]) (by decide) rfl rfl (Nat.le_of_ble_eq_true rfl) ?_
  intro p e s m args below meth c Q A ls C0 htab hH hl hend
  obtain ⟨hx, hb, hml, hown, hts⟩ := id C0.1
  have hl : lv_has ls 4 [(0, .ref (h 2)), (1, .int x1), (2, .ref o)] := hl
  refine lv_aload_n hx hb dL_destage_0 rfl (lv_at hl 2 rfl) ?_
  refine lv_iconst (v := 0) hx hb dL_destage_1 (by decide) ?_
  refine lv_aload_n hx hb dL_destage_2 rfl (lv_at hl 0 rfl) ?_
  refine lv_iload_n hx hb dL_destage_3 rfl (lv_at hl 1 rfl) ?_
  have hH := hH.perm (perm_o o a b h f ca ol t u hh S wr)
  refine cx_iV C0 hH hl.1 (As := [.int x1]) (rest := [.int 0, .ref o]) (eX4_destage l hfl D ca a b h f (oW o ca ol ++ wr) t u hh S x1 hf) gL_destage_X4_destage rfl rfl rfl hd_X4_destage ⟨Nat.le_of_ble_eq_true rfl, Nat.le_of_ble_eq_true rfl⟩ ⟨Nat.le_of_ble_eq_true rfl, Nat.le_of_ble_eq_true rfl⟩ (vG_X4 C0 hH) rfl (Nat.le_of_ble_eq_true rfl) dL_destage_4 (fun H locs q ce hH hq hv hcl => ?_)
  have hH := hH.perm (perm_o o a b h f ca ol t9 u hh S wr).symm
  refine cat C0 htab [⟨0, 9, 12, 13⟩] ⟨0, 9, 15, 17⟩ [] rfl (fun z hz => by rw [List.mem_singleton.mp hz]; exact ⟨by decide, "java/lang/IndexOutOfBoundsException", by decide +kernel, by decide⟩) (by decide) (by decide) (by decide) (by decide +kernel) hq hv hcl ?_
  refine lv_astore_n (lv' := [(3, .ref q), (0, .ref (h 2)), (1, .int x1), (2, .ref o)]) hx hb dL_destage_15 rfl hl (by decide) rfl (fun ls hl => ?_)
  refine lv_iconst (v := 2) hx hb dL_destage_16 (by decide) ?_
  exact hend _ _ _ _ hH dL_destage_17
def rmL_destageAll : Room := { frames := 8, cells := 1, slots := 6, locals := 162 }
theorem hd_L_destageAll : yL_destageAll.cls ≠ "java/lang/invoke/MethodHandle" ∧ yL_destageAll.cls ≠ "java/lang/invoke/VarHandle" ∧ (parseMethodDescriptor yL_destageAll.desc).map (fun d => d.parameters.length) = some 2 := by decide +kernel
set_option maxHeartbeats 4000000 in
set_option maxRecDepth 100000 in
theorem mL_destageAll (l : Launch) (hfl : l.stackTraces = false) (D : va_G) (ca : Gp) (o : Nat) (a b h : Nat → Nat) (f : Nat → Nat → Nat) (wr : va_W) (ol : Nat → Int64) (t u hh : Mem) (S : Nat → Mem) {r : Int32} {t9 u9 h9 : Mem} {S9 : Nat → Mem} (hf : pX4_destageAll t u hh S  = some (r, (t9, u9, h9, S9))) : Mj l yL_destageAll wsL_destageAll rmL_destageAll D ca [.ref (h 2), .ref o] (oW o ca ol ++ gW a b h f ca t u hh S wr) (oW o ca (vp_updL ol 0 r.toInt64) ++ gW a b h f ca t9 u9 h9 S9 wr) 0 := by
  refine Mj_of (own := RL) (cc := cL_destageAll) (nL := 3) (hh := [(0, 8, 11, 17)]) (by decide) rfl rfl (Nat.le_of_ble_eq_true rfl) ?_
  intro p e s m args below meth c Q A ls C0 htab hH hl hend
  obtain ⟨hx, hb, hml, hown, hts⟩ := id C0.1
  have hl : lv_has ls 3 [(0, .ref (h 2)), (1, .ref o)] := hl
  refine lv_aload_n hx hb dL_destageAll_0 rfl (lv_at hl 1 rfl) ?_
  refine lv_iconst (v := 0) hx hb dL_destageAll_1 (by decide) ?_
  refine lv_aload_n hx hb dL_destageAll_2 rfl (lv_at hl 0 rfl) ?_
  have hH := hH.perm (perm_o o a b h f ca ol t u hh S wr)
  refine cl_iV C0 hH hl.1 (As := []) (rest := [.int 0, .ref o]) (mX4_destageAll l D ca a b h f (oW o ca ol ++ wr) t u hh S  hf) gL_destageAll_X4_destageAll rfl rfl rfl hd_X4_destageAll ⟨Nat.le_of_ble_eq_true rfl, Nat.le_of_ble_eq_true rfl⟩ ⟨Nat.zero_le _, Nat.zero_le _⟩ (vG_X4 C0 hH) rfl (Nat.le_of_ble_eq_true rfl) dL_destageAll_3 (fun H locs hH => ?_)
  have hH := hH.perm (perm_o o a b h f ca ol t9 u9 h9 S9 wr).symm
  refine lv_i2l (v := r.toInt64) hx hb dL_destageAll_6 rfl ?_
  refine sO C0 hH dL_destageAll_7 (fun H locs hH => ?_)
  refine lv_goto (tgt := 14) hx hb dL_destageAll_8 (by decide) ?_
  refine lv_iconst (v := 0) hx hb dL_destageAll_14 (by decide) ?_
  refine W.widen (k := 1) (n := 6) (Nat.zero_le _) (Nat.zero_le _) ?_
  exact hend _ _ _ _ hH dL_destageAll_15
set_option maxHeartbeats 4000000 in
set_option maxRecDepth 100000 in
theorem eL_destageAll_1 (l : Launch) (hfl : l.stackTraces = false) (D : va_G) (ca : Gp) (o : Nat) (a b h : Nat → Nat) (f : Nat → Nat → Nat) (wr : va_W) (ol : Nat → Int64) (t u hh : Mem) (S : Nat → Mem) {t9 : Mem} (hf : tX4_destageAll t u hh S  = some ("java/lang/IllegalStateException", t9)) : Mj l yL_destageAll wsL_destageAll rmL_destageAll D ca [.ref (h 2), .ref o] (oW o ca ol ++ gW a b h f ca t u hh S wr) (oW o ca ol ++ gW a b h f ca t9 u hh S wr) 1 := by
  refine Mj_of (own := RL) (cc := cL_destageAll) (nL := 3) (hh := [(0, 8, 11, 17)]) (by decide) rfl rfl (Nat.le_of_ble_eq_true rfl) ?_
  intro p e s m args below meth c Q A ls C0 htab hH hl hend
  obtain ⟨hx, hb, hml, hown, hts⟩ := id C0.1
  have hl : lv_has ls 3 [(0, .ref (h 2)), (1, .ref o)] := hl
  refine lv_aload_n hx hb dL_destageAll_0 rfl (lv_at hl 1 rfl) ?_
  refine lv_iconst (v := 0) hx hb dL_destageAll_1 (by decide) ?_
  refine lv_aload_n hx hb dL_destageAll_2 rfl (lv_at hl 0 rfl) ?_
  have hH := hH.perm (perm_o o a b h f ca ol t u hh S wr)
  refine cx_iV C0 hH hl.1 (As := []) (rest := [.int 0, .ref o]) (eX4_destageAll l hfl D ca a b h f (oW o ca ol ++ wr) t u hh S  hf) gL_destageAll_X4_destageAll rfl rfl rfl hd_X4_destageAll ⟨Nat.le_of_ble_eq_true rfl, Nat.le_of_ble_eq_true rfl⟩ ⟨Nat.le_of_ble_eq_true rfl, Nat.le_of_ble_eq_true rfl⟩ (vG_X4 C0 hH) rfl (Nat.le_of_ble_eq_true rfl) dL_destageAll_3 (fun H locs q ce hH hq hv hcl => ?_)
  have hH := hH.perm (perm_o o a b h f ca ol t9 u hh S wr).symm
  refine cat C0 htab [] ⟨0, 8, 11, 17⟩ [] rfl (fun z hz => by cases hz) (by decide) (by decide) (by decide) (by decide +kernel) hq hv hcl ?_
  refine lv_astore_n (lv' := [(2, .ref q), (0, .ref (h 2)), (1, .ref o)]) hx hb dL_destageAll_11 rfl hl (by decide) rfl (fun ls hl => ?_)
  refine lv_iconst (v := 1) hx hb dL_destageAll_12 (by decide) ?_
  exact hend _ _ _ _ hH dL_destageAll_13
def rmL_pass : Room := { frames := 7, cells := 1, slots := 6, locals := 163 }
theorem hd_L_pass : yL_pass.cls ≠ "java/lang/invoke/MethodHandle" ∧ yL_pass.cls ≠ "java/lang/invoke/VarHandle" ∧ (parseMethodDescriptor yL_pass.desc).map (fun d => d.parameters.length) = some 3 := by decide +kernel
set_option maxHeartbeats 4000000 in
set_option maxRecDepth 100000 in
theorem mL_pass (l : Launch) (hfl : l.stackTraces = false) (D : va_G) (ca : Gp) (o : Nat) (a b h : Nat → Nat) (f : Nat → Nat → Nat) (wr : va_W) (ol : Nat → Int64) (t u hh : Mem) (S : Nat → Mem) (x1 : Int32) {r : Int32} {t9 u9 h9 : Mem} {S9 : Nat → Mem} (hf : pX4_pass t u hh S x1 = some (r, (t9, u9, h9, S9))) : Mj l yL_pass wsL_pass rmL_pass D ca [.ref (h 2), .int x1, .ref o] (oW o ca ol ++ gW a b h f ca t u hh S wr) (oW o ca (vp_updL ol 0 r.toInt64) ++ gW a b h f ca t9 u9 h9 S9 wr) 0 := by
  refine Mj_of (own := RL) (cc := cL_pass) (nL := 4) (hh := [(0, 9, 12, 15)]) (by decide) rfl rfl (Nat.le_of_ble_eq_true rfl) ?_
  intro p e s m args below meth c Q A ls C0 htab hH hl hend
  obtain ⟨hx, hb, hml, hown, hts⟩ := id C0.1
  have hl : lv_has ls 4 [(0, .ref (h 2)), (1, .int x1), (2, .ref o)] := hl
  refine lv_aload_n hx hb dL_pass_0 rfl (lv_at hl 2 rfl) ?_
  refine lv_iconst (v := 0) hx hb dL_pass_1 (by decide) ?_
  refine lv_aload_n hx hb dL_pass_2 rfl (lv_at hl 0 rfl) ?_
  refine lv_iload_n hx hb dL_pass_3 rfl (lv_at hl 1 rfl) ?_
  have hH := hH.perm (perm_o o a b h f ca ol t u hh S wr)
  refine cl_iV C0 hH hl.1 (As := [.int x1]) (rest := [.int 0, .ref o]) (mX4_pass l D ca a b h f (oW o ca ol ++ wr) t u hh S x1 hf) gL_pass_X4_pass rfl rfl rfl hd_X4_pass ⟨Nat.le_of_ble_eq_true rfl, Nat.le_of_ble_eq_true rfl⟩ ⟨Nat.zero_le _, Nat.zero_le _⟩ (vG_X4 C0 hH) rfl (Nat.le_of_ble_eq_true rfl) dL_pass_4 (fun H locs hH => ?_)
  have hH := hH.perm (perm_o o a b h f ca ol t9 u9 h9 S9 wr).symm
  refine lv_i2l (v := r.toInt64) hx hb dL_pass_7 rfl ?_
  refine sO C0 hH dL_pass_8 (fun H locs hH => ?_)
  refine lv_goto (tgt := 15) hx hb dL_pass_9 (by decide) ?_
  refine lv_iconst (v := 0) hx hb dL_pass_15 (by decide) ?_
  refine W.widen (k := 1) (n := 6) (Nat.zero_le _) (Nat.zero_le _) ?_
  exact hend _ _ _ _ hH dL_pass_16
set_option maxHeartbeats 4000000 in
set_option maxRecDepth 100000 in
theorem eL_pass_1 (l : Launch) (hfl : l.stackTraces = false) (D : va_G) (ca : Gp) (o : Nat) (a b h : Nat → Nat) (f : Nat → Nat → Nat) (wr : va_W) (ol : Nat → Int64) (t u hh : Mem) (S : Nat → Mem) (x1 : Int32) {t9 : Mem} (hf : tX4_pass t u hh S x1 = some ("java/lang/IllegalArgumentException", t9)) : Mj l yL_pass wsL_pass rmL_pass D ca [.ref (h 2), .int x1, .ref o] (oW o ca ol ++ gW a b h f ca t u hh S wr) (oW o ca ol ++ gW a b h f ca t9 u hh S wr) 1 := by
  refine Mj_of (own := RL) (cc := cL_pass) (nL := 4) (hh := [(0, 9, 12, 15)]) (by decide) rfl rfl (Nat.le_of_ble_eq_true rfl) ?_
  intro p e s m args below meth c Q A ls C0 htab hH hl hend
  obtain ⟨hx, hb, hml, hown, hts⟩ := id C0.1
  have hl : lv_has ls 4 [(0, .ref (h 2)), (1, .int x1), (2, .ref o)] := hl
  refine lv_aload_n hx hb dL_pass_0 rfl (lv_at hl 2 rfl) ?_
  refine lv_iconst (v := 0) hx hb dL_pass_1 (by decide) ?_
  refine lv_aload_n hx hb dL_pass_2 rfl (lv_at hl 0 rfl) ?_
  refine lv_iload_n hx hb dL_pass_3 rfl (lv_at hl 1 rfl) ?_
  have hH := hH.perm (perm_o o a b h f ca ol t u hh S wr)
  refine cx_iV C0 hH hl.1 (As := [.int x1]) (rest := [.int 0, .ref o]) (eX4_pass l hfl D ca a b h f (oW o ca ol ++ wr) t u hh S x1 hf) gL_pass_X4_pass rfl rfl rfl hd_X4_pass ⟨Nat.le_of_ble_eq_true rfl, Nat.le_of_ble_eq_true rfl⟩ ⟨Nat.le_of_ble_eq_true rfl, Nat.le_of_ble_eq_true rfl⟩ (vG_X4 C0 hH) rfl (Nat.le_of_ble_eq_true rfl) dL_pass_4 (fun H locs q ce hH hq hv hcl => ?_)
  have hH := hH.perm (perm_o o a b h f ca ol t9 u hh S wr).symm
  refine cat C0 htab [] ⟨0, 9, 12, 15⟩ [] rfl (fun z hz => by cases hz) (by decide) (by decide) (by decide) (by decide +kernel) hq hv hcl ?_
  refine lv_astore_n (lv' := [(3, .ref q), (0, .ref (h 2)), (1, .int x1), (2, .ref o)]) hx hb dL_pass_12 rfl hl (by decide) rfl (fun ls hl => ?_)
  refine lv_iconst (v := 1) hx hb dL_pass_13 (by decide) ?_
  exact hend _ _ _ _ hH dL_pass_14
def rmL_setLimit : Room := { frames := 7, cells := 1, slots := 6, locals := 163 }
theorem hd_L_setLimit : yL_setLimit.cls ≠ "java/lang/invoke/MethodHandle" ∧ yL_setLimit.cls ≠ "java/lang/invoke/VarHandle" ∧ (parseMethodDescriptor yL_setLimit.desc).map (fun d => d.parameters.length) = some 3 := by decide +kernel
set_option maxHeartbeats 4000000 in
set_option maxRecDepth 100000 in
theorem mL_setLimit (l : Launch) (hfl : l.stackTraces = false) (D : va_G) (ca : Gp) (o : Nat) (a b h : Nat → Nat) (f : Nat → Nat → Nat) (wr : va_W) (ol : Nat → Int64) (t u hh : Mem) (S : Nat → Mem) (x1 : Int32) {r : Int32} {t9 u9 h9 : Mem} {S9 : Nat → Mem} (hf : pX4_setLimit t u hh S x1 = some (r, (t9, u9, h9, S9))) : Mj l yL_setLimit wsL_setLimit rmL_setLimit D ca [.ref (h 2), .int x1, .ref o] (oW o ca ol ++ gW a b h f ca t u hh S wr) (oW o ca (vp_updL ol 0 r.toInt64) ++ gW a b h f ca t9 u9 h9 S9 wr) 0 := by
  refine Mj_of (own := RL) (cc := cL_setLimit) (nL := 4) (hh := [(0, 9, 12, 15)]) (by decide) rfl rfl (Nat.le_of_ble_eq_true rfl) ?_
  intro p e s m args below meth c Q A ls C0 htab hH hl hend
  obtain ⟨hx, hb, hml, hown, hts⟩ := id C0.1
  have hl : lv_has ls 4 [(0, .ref (h 2)), (1, .int x1), (2, .ref o)] := hl
  refine lv_aload_n hx hb dL_setLimit_0 rfl (lv_at hl 2 rfl) ?_
  refine lv_iconst (v := 0) hx hb dL_setLimit_1 (by decide) ?_
  refine lv_aload_n hx hb dL_setLimit_2 rfl (lv_at hl 0 rfl) ?_
  refine lv_iload_n hx hb dL_setLimit_3 rfl (lv_at hl 1 rfl) ?_
  have hH := hH.perm (perm_o o a b h f ca ol t u hh S wr)
  refine cl_iV C0 hH hl.1 (As := [.int x1]) (rest := [.int 0, .ref o]) (mX4_setLimit l D ca a b h f (oW o ca ol ++ wr) t u hh S x1 hf) gL_setLimit_X4_setLimit rfl rfl rfl hd_X4_setLimit ⟨Nat.le_of_ble_eq_true rfl, Nat.le_of_ble_eq_true rfl⟩ ⟨Nat.zero_le _, Nat.zero_le _⟩ (vG_X4 C0 hH) rfl (Nat.le_of_ble_eq_true rfl) dL_setLimit_4 (fun H locs hH => ?_)
  have hH := hH.perm (perm_o o a b h f ca ol t9 u9 h9 S9 wr).symm
  refine lv_i2l (v := r.toInt64) hx hb dL_setLimit_7 rfl ?_
  refine sO C0 hH dL_setLimit_8 (fun H locs hH => ?_)
  refine lv_goto (tgt := 15) hx hb dL_setLimit_9 (by decide) ?_
  refine lv_iconst (v := 0) hx hb dL_setLimit_15 (by decide) ?_
  refine W.widen (k := 1) (n := 6) (Nat.zero_le _) (Nat.zero_le _) ?_
  exact hend _ _ _ _ hH dL_setLimit_16
set_option maxHeartbeats 4000000 in
set_option maxRecDepth 100000 in
theorem eL_setLimit_1 (l : Launch) (hfl : l.stackTraces = false) (D : va_G) (ca : Gp) (o : Nat) (a b h : Nat → Nat) (f : Nat → Nat → Nat) (wr : va_W) (ol : Nat → Int64) (t u hh : Mem) (S : Nat → Mem) (x1 : Int32) {t9 : Mem} (hf : tX4_setLimit t u hh S x1 = some ("java/lang/IllegalArgumentException", t9)) : Mj l yL_setLimit wsL_setLimit rmL_setLimit D ca [.ref (h 2), .int x1, .ref o] (oW o ca ol ++ gW a b h f ca t u hh S wr) (oW o ca ol ++ gW a b h f ca t9 u hh S wr) 1 := by
  refine Mj_of (own := RL) (cc := cL_setLimit) (nL := 4) (hh := [(0, 9, 12, 15)]) (by decide) rfl rfl (Nat.le_of_ble_eq_true rfl) ?_
  intro p e s m args below meth c Q A ls C0 htab hH hl hend
  obtain ⟨hx, hb, hml, hown, hts⟩ := id C0.1
  have hl : lv_has ls 4 [(0, .ref (h 2)), (1, .int x1), (2, .ref o)] := hl
  refine lv_aload_n hx hb dL_setLimit_0 rfl (lv_at hl 2 rfl) ?_
  refine lv_iconst (v := 0) hx hb dL_setLimit_1 (by decide) ?_
  refine lv_aload_n hx hb dL_setLimit_2 rfl (lv_at hl 0 rfl) ?_
  refine lv_iload_n hx hb dL_setLimit_3 rfl (lv_at hl 1 rfl) ?_
  have hH := hH.perm (perm_o o a b h f ca ol t u hh S wr)
  refine cx_iV C0 hH hl.1 (As := [.int x1]) (rest := [.int 0, .ref o]) (eX4_setLimit l hfl D ca a b h f (oW o ca ol ++ wr) t u hh S x1 hf) gL_setLimit_X4_setLimit rfl rfl rfl hd_X4_setLimit ⟨Nat.le_of_ble_eq_true rfl, Nat.le_of_ble_eq_true rfl⟩ ⟨Nat.le_of_ble_eq_true rfl, Nat.le_of_ble_eq_true rfl⟩ (vG_X4 C0 hH) rfl (Nat.le_of_ble_eq_true rfl) dL_setLimit_4 (fun H locs q ce hH hq hv hcl => ?_)
  have hH := hH.perm (perm_o o a b h f ca ol t9 u hh S wr).symm
  refine cat C0 htab [] ⟨0, 9, 12, 15⟩ [] rfl (fun z hz => by cases hz) (by decide) (by decide) (by decide) (by decide +kernel) hq hv hcl ?_
  refine lv_astore_n (lv' := [(3, .ref q), (0, .ref (h 2)), (1, .int x1), (2, .ref o)]) hx hb dL_setLimit_12 rfl hl (by decide) rfl (fun ls hl => ?_)
  refine lv_iconst (v := 1) hx hb dL_setLimit_13 (by decide) ?_
  exact hend _ _ _ _ hH dL_setLimit_14
def rmL_moveStick : Room := { frames := 7, cells := 1, slots := 6, locals := 163 }
theorem hd_L_moveStick : yL_moveStick.cls ≠ "java/lang/invoke/MethodHandle" ∧ yL_moveStick.cls ≠ "java/lang/invoke/VarHandle" ∧ (parseMethodDescriptor yL_moveStick.desc).map (fun d => d.parameters.length) = some 3 := by decide +kernel
set_option maxHeartbeats 4000000 in
set_option maxRecDepth 100000 in
theorem mL_moveStick (l : Launch) (hfl : l.stackTraces = false) (D : va_G) (ca : Gp) (o : Nat) (a b h : Nat → Nat) (f : Nat → Nat → Nat) (wr : va_W) (ol : Nat → Int64) (t u hh : Mem) (S : Nat → Mem) (x1 : Int32) {r : Int32} {t9 u9 h9 : Mem} {S9 : Nat → Mem} (hf : pX4_moveStick t u hh S x1 = some (r, (t9, u9, h9, S9))) : Mj l yL_moveStick wsL_moveStick rmL_moveStick D ca [.ref (h 2), .int x1, .ref o] (oW o ca ol ++ gW a b h f ca t u hh S wr) (oW o ca (vp_updL ol 0 r.toInt64) ++ gW a b h f ca t9 u9 h9 S9 wr) 0 := by
  refine Mj_of (own := RL) (cc := cL_moveStick) (nL := 4) (hh := [(0, 9, 12, 17)]) (by decide) rfl rfl (Nat.le_of_ble_eq_true rfl) ?_
  intro p e s m args below meth c Q A ls C0 htab hH hl hend
  obtain ⟨hx, hb, hml, hown, hts⟩ := id C0.1
  have hl : lv_has ls 4 [(0, .ref (h 2)), (1, .int x1), (2, .ref o)] := hl
  refine lv_aload_n hx hb dL_moveStick_0 rfl (lv_at hl 2 rfl) ?_
  refine lv_iconst (v := 0) hx hb dL_moveStick_1 (by decide) ?_
  refine lv_aload_n hx hb dL_moveStick_2 rfl (lv_at hl 0 rfl) ?_
  refine lv_iload_n hx hb dL_moveStick_3 rfl (lv_at hl 1 rfl) ?_
  have hH := hH.perm (perm_o o a b h f ca ol t u hh S wr)
  refine cl_iV C0 hH hl.1 (As := [.int x1]) (rest := [.int 0, .ref o]) (mX4_moveStick l D ca a b h f (oW o ca ol ++ wr) t u hh S x1 hf) gL_moveStick_X4_moveStick rfl rfl rfl hd_X4_moveStick ⟨Nat.le_of_ble_eq_true rfl, Nat.le_of_ble_eq_true rfl⟩ ⟨Nat.zero_le _, Nat.zero_le _⟩ (vG_X4 C0 hH) rfl (Nat.le_of_ble_eq_true rfl) dL_moveStick_4 (fun H locs hH => ?_)
  have hH := hH.perm (perm_o o a b h f ca ol t9 u9 h9 S9 wr).symm
  refine lv_i2l (v := r.toInt64) hx hb dL_moveStick_7 rfl ?_
  refine sO C0 hH dL_moveStick_8 (fun H locs hH => ?_)
  refine lv_goto (tgt := 15) hx hb dL_moveStick_9 (by decide) ?_
  refine lv_iconst (v := 0) hx hb dL_moveStick_15 (by decide) ?_
  refine W.widen (k := 1) (n := 6) (Nat.zero_le _) (Nat.zero_le _) ?_
  exact hend _ _ _ _ hH dL_moveStick_16
set_option maxHeartbeats 4000000 in
set_option maxRecDepth 100000 in
theorem eL_moveStick_1 (l : Launch) (hfl : l.stackTraces = false) (D : va_G) (ca : Gp) (o : Nat) (a b h : Nat → Nat) (f : Nat → Nat → Nat) (wr : va_W) (ol : Nat → Int64) (t u hh : Mem) (S : Nat → Mem) (x1 : Int32) {t9 : Mem} (hf : tX4_moveStick t u hh S x1 = some ("java/lang/IllegalStateException", t9)) : Mj l yL_moveStick wsL_moveStick rmL_moveStick D ca [.ref (h 2), .int x1, .ref o] (oW o ca ol ++ gW a b h f ca t u hh S wr) (oW o ca ol ++ gW a b h f ca t9 u hh S wr) 1 := by
  refine Mj_of (own := RL) (cc := cL_moveStick) (nL := 4) (hh := [(0, 9, 12, 17)]) (by decide) rfl rfl (Nat.le_of_ble_eq_true rfl) ?_
  intro p e s m args below meth c Q A ls C0 htab hH hl hend
  obtain ⟨hx, hb, hml, hown, hts⟩ := id C0.1
  have hl : lv_has ls 4 [(0, .ref (h 2)), (1, .int x1), (2, .ref o)] := hl
  refine lv_aload_n hx hb dL_moveStick_0 rfl (lv_at hl 2 rfl) ?_
  refine lv_iconst (v := 0) hx hb dL_moveStick_1 (by decide) ?_
  refine lv_aload_n hx hb dL_moveStick_2 rfl (lv_at hl 0 rfl) ?_
  refine lv_iload_n hx hb dL_moveStick_3 rfl (lv_at hl 1 rfl) ?_
  have hH := hH.perm (perm_o o a b h f ca ol t u hh S wr)
  refine cx_iV C0 hH hl.1 (As := [.int x1]) (rest := [.int 0, .ref o]) (eX4_moveStick l hfl D ca a b h f (oW o ca ol ++ wr) t u hh S x1 hf) gL_moveStick_X4_moveStick rfl rfl rfl hd_X4_moveStick ⟨Nat.le_of_ble_eq_true rfl, Nat.le_of_ble_eq_true rfl⟩ ⟨Nat.le_of_ble_eq_true rfl, Nat.le_of_ble_eq_true rfl⟩ (vG_X4 C0 hH) rfl (Nat.le_of_ble_eq_true rfl) dL_moveStick_4 (fun H locs q ce hH hq hv hcl => ?_)
  have hH := hH.perm (perm_o o a b h f ca ol t9 u hh S wr).symm
  refine cat C0 htab [] ⟨0, 9, 12, 17⟩ [] rfl (fun z hz => by cases hz) (by decide) (by decide) (by decide) (by decide +kernel) hq hv hcl ?_
  refine lv_astore_n (lv' := [(3, .ref q), (0, .ref (h 2)), (1, .int x1), (2, .ref o)]) hx hb dL_moveStick_12 rfl hl (by decide) rfl (fun ls hl => ?_)
  refine lv_iconst (v := 1) hx hb dL_moveStick_13 (by decide) ?_
  exact hend _ _ _ _ hH dL_moveStick_14
def rmL_appendText : Room := { frames := 7, cells := 1, slots := 6, locals := 111 }
theorem hd_L_appendText : yL_appendText.cls ≠ "java/lang/invoke/MethodHandle" ∧ yL_appendText.cls ≠ "java/lang/invoke/VarHandle" ∧ (parseMethodDescriptor yL_appendText.desc).map (fun d => d.parameters.length) = some 3 := by decide +kernel
set_option maxHeartbeats 4000000 in
set_option maxRecDepth 100000 in
theorem mL_appendText (l : Launch) (hfl : l.stackTraces = false) (D : va_G) (ca : Gp) (o : Nat) (a b h : Nat → Nat) (f : Nat → Nat → Nat) (wr : va_W) (ol : Nat → Int64) (t u hh : Mem) (S : Nat → Mem) (x1 : Int32) {r : Int32} {t9 u9 h9 : Mem} {S9 : Nat → Mem} (hf : pX4_appendText t u hh S x1 = some (r, (t9, u9, h9, S9))) : Mj l yL_appendText wsL_appendText rmL_appendText D ca [.ref (h 2), .int x1, .ref o] (oW o ca ol ++ gW a b h f ca t u hh S wr) (oW o ca (vp_updL ol 0 r.toInt64) ++ gW a b h f ca t9 u9 h9 S9 wr) 0 := by
  refine Mj_of (own := RL) (cc := cL_appendText) (nL := 4) (hh := [(0, 9, 12, 15), (0, 9, 15, 17)]) (by decide) rfl rfl (Nat.le_of_ble_eq_true rfl) ?_
  intro p e s m args below meth c Q A ls C0 htab hH hl hend
  obtain ⟨hx, hb, hml, hown, hts⟩ := id C0.1
  have hl : lv_has ls 4 [(0, .ref (h 2)), (1, .int x1), (2, .ref o)] := hl
  refine lv_aload_n hx hb dL_appendText_0 rfl (lv_at hl 2 rfl) ?_
  refine lv_iconst (v := 0) hx hb dL_appendText_1 (by decide) ?_
  refine lv_aload_n hx hb dL_appendText_2 rfl (lv_at hl 0 rfl) ?_
  refine lv_iload_n hx hb dL_appendText_3 rfl (lv_at hl 1 rfl) ?_
  have hH := hH.perm (perm_o o a b h f ca ol t u hh S wr)
  refine cl_iV C0 hH hl.1 (As := [.int x1]) (rest := [.int 0, .ref o]) (mX4_appendText l D ca a b h f (oW o ca ol ++ wr) t u hh S x1 hf) gL_appendText_X4_appendText rfl rfl rfl hd_X4_appendText ⟨Nat.le_of_ble_eq_true rfl, Nat.le_of_ble_eq_true rfl⟩ ⟨Nat.zero_le _, Nat.zero_le _⟩ (vG_X4 C0 hH) rfl (Nat.le_of_ble_eq_true rfl) dL_appendText_4 (fun H locs hH => ?_)
  have hH := hH.perm (perm_o o a b h f ca ol t9 u9 h9 S9 wr).symm
  refine lv_i2l (v := r.toInt64) hx hb dL_appendText_7 rfl ?_
  refine sO C0 hH dL_appendText_8 (fun H locs hH => ?_)
  refine lv_goto (tgt := 18) hx hb dL_appendText_9 (by decide) ?_
  refine lv_iconst (v := 0) hx hb dL_appendText_18 (by decide) ?_
  refine W.widen (k := 1) (n := 6) (Nat.zero_le _) (Nat.zero_le _) ?_
  exact hend _ _ _ _ hH dL_appendText_19
set_option maxHeartbeats 4000000 in
set_option maxRecDepth 100000 in
theorem eL_appendText_1 (l : Launch) (hfl : l.stackTraces = false) (D : va_G) (ca : Gp) (o : Nat) (a b h : Nat → Nat) (f : Nat → Nat → Nat) (wr : va_W) (ol : Nat → Int64) (t u hh : Mem) (S : Nat → Mem) (x1 : Int32) {t9 : Mem} (hf : tX4_appendText t u hh S x1 = some ("java/lang/IllegalArgumentException", t9)) : Mj l yL_appendText wsL_appendText rmL_appendText D ca [.ref (h 2), .int x1, .ref o] (oW o ca ol ++ gW a b h f ca t u hh S wr) (oW o ca ol ++ gW a b h f ca t9 u hh S wr) 1 := by
  refine Mj_of (own := RL) (cc := cL_appendText) (nL := 4) (hh := [(0, 9, 12, 15), (0, 9, 15, 17)]) (by decide) rfl rfl (Nat.le_of_ble_eq_true rfl) ?_
  intro p e s m args below meth c Q A ls C0 htab hH hl hend
  obtain ⟨hx, hb, hml, hown, hts⟩ := id C0.1
  have hl : lv_has ls 4 [(0, .ref (h 2)), (1, .int x1), (2, .ref o)] := hl
  refine lv_aload_n hx hb dL_appendText_0 rfl (lv_at hl 2 rfl) ?_
  refine lv_iconst (v := 0) hx hb dL_appendText_1 (by decide) ?_
  refine lv_aload_n hx hb dL_appendText_2 rfl (lv_at hl 0 rfl) ?_
  refine lv_iload_n hx hb dL_appendText_3 rfl (lv_at hl 1 rfl) ?_
  have hH := hH.perm (perm_o o a b h f ca ol t u hh S wr)
  refine cx_iV C0 hH hl.1 (As := [.int x1]) (rest := [.int 0, .ref o]) (eX4_appendText l hfl D ca a b h f (oW o ca ol ++ wr) t u hh S x1 hf) gL_appendText_X4_appendText rfl rfl rfl hd_X4_appendText ⟨Nat.le_of_ble_eq_true rfl, Nat.le_of_ble_eq_true rfl⟩ ⟨Nat.le_of_ble_eq_true rfl, Nat.le_of_ble_eq_true rfl⟩ (vG_X4 C0 hH) rfl (Nat.le_of_ble_eq_true rfl) dL_appendText_4 (fun H locs q ce hH hq hv hcl => ?_)
  have hH := hH.perm (perm_o o a b h f ca ol t9 u hh S wr).symm
  refine cat C0 htab [] ⟨0, 9, 12, 15⟩ [⟨0, 9, 15, 17⟩] rfl (fun z hz => by cases hz) (by decide) (by decide) (by decide) (by decide +kernel) hq hv hcl ?_
  refine lv_astore_n (lv' := [(3, .ref q), (0, .ref (h 2)), (1, .int x1), (2, .ref o)]) hx hb dL_appendText_12 rfl hl (by decide) rfl (fun ls hl => ?_)
  refine lv_iconst (v := 1) hx hb dL_appendText_13 (by decide) ?_
  exact hend _ _ _ _ hH dL_appendText_14
set_option maxHeartbeats 4000000 in
set_option maxRecDepth 100000 in
theorem eL_appendText_2 (l : Launch) (hfl : l.stackTraces = false) (D : va_G) (ca : Gp) (o : Nat) (a b h : Nat → Nat) (f : Nat → Nat → Nat) (wr : va_W) (ol : Nat → Int64) (t u hh : Mem) (S : Nat → Mem) (x1 : Int32) {t9 : Mem} (hf : tX4_appendText t u hh S x1 = some ("java/lang/IllegalStateException", t9)) : Mj l yL_appendText wsL_appendText rmL_appendText D ca [.ref (h 2), .int x1, .ref o] (oW o ca ol ++ gW a b h f ca t u hh S wr) (oW o ca ol ++ gW a b h f ca t9 u hh S wr) 2 := by
  refine Mj_of (own := RL) (cc := cL_appendText) (nL := 4) (hh := [(0, 9, 12, 15), (0, 9, 15, 17)]) (by decide) rfl rfl (Nat.le_of_ble_eq_true rfl) ?_
  intro p e s m args below meth c Q A ls C0 htab hH hl hend
  obtain ⟨hx, hb, hml, hown, hts⟩ := id C0.1
  have hl : lv_has ls 4 [(0, .ref (h 2)), (1, .int x1), (2, .ref o)] := hl
  refine lv_aload_n hx hb dL_appendText_0 rfl (lv_at hl 2 rfl) ?_
  refine lv_iconst (v := 0) hx hb dL_appendText_1 (by decide) ?_
  refine lv_aload_n hx hb dL_appendText_2 rfl (lv_at hl 0 rfl) ?_
  refine lv_iload_n hx hb dL_appendText_3 rfl (lv_at hl 1 rfl) ?_
  have hH := hH.perm (perm_o o a b h f ca ol t u hh S wr)
  refine cx_iV C0 hH hl.1 (As := [.int x1]) (rest := [.int 0, .ref o]) (eX4_appendText l hfl D ca a b h f (oW o ca ol ++ wr) t u hh S x1 hf) gL_appendText_X4_appendText rfl rfl rfl hd_X4_appendText ⟨Nat.le_of_ble_eq_true rfl, Nat.le_of_ble_eq_true rfl⟩ ⟨Nat.le_of_ble_eq_true rfl, Nat.le_of_ble_eq_true rfl⟩ (vG_X4 C0 hH) rfl (Nat.le_of_ble_eq_true rfl) dL_appendText_4 (fun H locs q ce hH hq hv hcl => ?_)
  have hH := hH.perm (perm_o o a b h f ca ol t9 u hh S wr).symm
  refine cat C0 htab [⟨0, 9, 12, 15⟩] ⟨0, 9, 15, 17⟩ [] rfl (fun z hz => by rw [List.mem_singleton.mp hz]; exact ⟨by decide, "java/lang/IllegalArgumentException", by decide +kernel, by decide⟩) (by decide) (by decide) (by decide) (by decide +kernel) hq hv hcl ?_
  refine lv_astore_n (lv' := [(3, .ref q), (0, .ref (h 2)), (1, .int x1), (2, .ref o)]) hx hb dL_appendText_15 rfl hl (by decide) rfl (fun ls hl => ?_)
  refine lv_iconst (v := 2) hx hb dL_appendText_16 (by decide) ?_
  exact hend _ _ _ _ hH dL_appendText_17
def rmL_runText : Room := { frames := 8, cells := 1, slots := 6, locals := 177 }
theorem hd_L_runText : yL_runText.cls ≠ "java/lang/invoke/MethodHandle" ∧ yL_runText.cls ≠ "java/lang/invoke/VarHandle" ∧ (parseMethodDescriptor yL_runText.desc).map (fun d => d.parameters.length) = some 2 := by decide +kernel
set_option maxHeartbeats 4000000 in
set_option maxRecDepth 100000 in
theorem mL_runText (l : Launch) (hfl : l.stackTraces = false) (D : va_G) (ca : Gp) (o : Nat) (a b h : Nat → Nat) (f : Nat → Nat → Nat) (wr : va_W) (ol : Nat → Int64) (t u hh : Mem) (S : Nat → Mem) {r : Int32} {t9 u9 h9 : Mem} {S9 : Nat → Mem} (hf : pX4_runText t u hh S  = some (r, (t9, u9, h9, S9))) : Mj l yL_runText wsL_runText rmL_runText D ca [.ref (h 2), .ref o] (oW o ca ol ++ gW a b h f ca t u hh S wr) (oW o ca (vp_updL ol 0 r.toInt64) ++ gW a b h f ca t9 u9 h9 S9 wr) 0 := by
  refine Mj_of (own := RL) (cc := cL_runText) (nL := 3) (hh := [(0, 8, 11, 17)]) (by decide) rfl rfl (Nat.le_of_ble_eq_true rfl) ?_
  intro p e s m args below meth c Q A ls C0 htab hH hl hend
  obtain ⟨hx, hb, hml, hown, hts⟩ := id C0.1
  have hl : lv_has ls 3 [(0, .ref (h 2)), (1, .ref o)] := hl
  refine lv_aload_n hx hb dL_runText_0 rfl (lv_at hl 1 rfl) ?_
  refine lv_iconst (v := 0) hx hb dL_runText_1 (by decide) ?_
  refine lv_aload_n hx hb dL_runText_2 rfl (lv_at hl 0 rfl) ?_
  have hH := hH.perm (perm_o o a b h f ca ol t u hh S wr)
  refine cl_iV C0 hH hl.1 (As := []) (rest := [.int 0, .ref o]) (mX4_runText l D ca a b h f (oW o ca ol ++ wr) t u hh S  hf) gL_runText_X4_runText rfl rfl rfl hd_X4_runText ⟨Nat.le_of_ble_eq_true rfl, Nat.le_of_ble_eq_true rfl⟩ ⟨Nat.zero_le _, Nat.zero_le _⟩ (vG_X4 C0 hH) rfl (Nat.le_of_ble_eq_true rfl) dL_runText_3 (fun H locs hH => ?_)
  have hH := hH.perm (perm_o o a b h f ca ol t9 u9 h9 S9 wr).symm
  refine lv_i2l (v := r.toInt64) hx hb dL_runText_6 rfl ?_
  refine sO C0 hH dL_runText_7 (fun H locs hH => ?_)
  refine lv_goto (tgt := 14) hx hb dL_runText_8 (by decide) ?_
  refine lv_iconst (v := 0) hx hb dL_runText_14 (by decide) ?_
  refine W.widen (k := 1) (n := 6) (Nat.zero_le _) (Nat.zero_le _) ?_
  exact hend _ _ _ _ hH dL_runText_15
set_option maxHeartbeats 4000000 in
set_option maxRecDepth 100000 in
theorem eL_runText_1 (l : Launch) (hfl : l.stackTraces = false) (D : va_G) (ca : Gp) (o : Nat) (a b h : Nat → Nat) (f : Nat → Nat → Nat) (wr : va_W) (ol : Nat → Int64) (t u hh : Mem) (S : Nat → Mem) {t9 : Mem} (hf : tX4_runText t u hh S  = some ("java/lang/IllegalStateException", t9)) : Mj l yL_runText wsL_runText rmL_runText D ca [.ref (h 2), .ref o] (oW o ca ol ++ gW a b h f ca t u hh S wr) (oW o ca ol ++ gW a b h f ca t9 u hh S wr) 1 := by
  refine Mj_of (own := RL) (cc := cL_runText) (nL := 3) (hh := [(0, 8, 11, 17)]) (by decide) rfl rfl (Nat.le_of_ble_eq_true rfl) ?_
  intro p e s m args below meth c Q A ls C0 htab hH hl hend
  obtain ⟨hx, hb, hml, hown, hts⟩ := id C0.1
  have hl : lv_has ls 3 [(0, .ref (h 2)), (1, .ref o)] := hl
  refine lv_aload_n hx hb dL_runText_0 rfl (lv_at hl 1 rfl) ?_
  refine lv_iconst (v := 0) hx hb dL_runText_1 (by decide) ?_
  refine lv_aload_n hx hb dL_runText_2 rfl (lv_at hl 0 rfl) ?_
  have hH := hH.perm (perm_o o a b h f ca ol t u hh S wr)
  refine cx_iV C0 hH hl.1 (As := []) (rest := [.int 0, .ref o]) (eX4_runText l hfl D ca a b h f (oW o ca ol ++ wr) t u hh S  hf) gL_runText_X4_runText rfl rfl rfl hd_X4_runText ⟨Nat.le_of_ble_eq_true rfl, Nat.le_of_ble_eq_true rfl⟩ ⟨Nat.le_of_ble_eq_true rfl, Nat.le_of_ble_eq_true rfl⟩ (vG_X4 C0 hH) rfl (Nat.le_of_ble_eq_true rfl) dL_runText_3 (fun H locs q ce hH hq hv hcl => ?_)
  have hH := hH.perm (perm_o o a b h f ca ol t9 u hh S wr).symm
  refine cat C0 htab [] ⟨0, 8, 11, 17⟩ [] rfl (fun z hz => by cases hz) (by decide) (by decide) (by decide) (by decide +kernel) hq hv hcl ?_
  refine lv_astore_n (lv' := [(2, .ref q), (0, .ref (h 2)), (1, .ref o)]) hx hb dL_runText_11 rfl hl (by decide) rfl (fun ls hl => ?_)
  refine lv_iconst (v := 1) hx hb dL_runText_12 (by decide) ?_
  exact hend _ _ _ _ hH dL_runText_13
def rmL_undo : Room := { frames := 7, cells := 1, slots := 6, locals := 162 }
theorem hd_L_undo : yL_undo.cls ≠ "java/lang/invoke/MethodHandle" ∧ yL_undo.cls ≠ "java/lang/invoke/VarHandle" ∧ (parseMethodDescriptor yL_undo.desc).map (fun d => d.parameters.length) = some 2 := by decide +kernel
set_option maxHeartbeats 4000000 in
set_option maxRecDepth 100000 in
theorem mL_undo (l : Launch) (hfl : l.stackTraces = false) (D : va_G) (ca : Gp) (o : Nat) (a b h : Nat → Nat) (f : Nat → Nat → Nat) (wr : va_W) (ol : Nat → Int64) (t u hh : Mem) (S : Nat → Mem) {r : Int32} {t9 u9 h9 : Mem} {S9 : Nat → Mem} (hf : pX4_undo t u hh S  = some (r, (t9, u9, h9, S9))) : Mj l yL_undo wsL_undo rmL_undo D ca [.ref (h 2), .ref o] (oW o ca ol ++ gW a b h f ca t u hh S wr) (oW o ca (vp_updL ol 0 r.toInt64) ++ gW a b h f ca t9 u9 h9 S9 wr) 0 := by
  refine Mj_of (own := RL) (cc := cL_undo) (nL := 3) (hh := [(0, 8, 11, 17)]) (by decide) rfl rfl (Nat.le_of_ble_eq_true rfl) ?_
  intro p e s m args below meth c Q A ls C0 htab hH hl hend
  obtain ⟨hx, hb, hml, hown, hts⟩ := id C0.1
  have hl : lv_has ls 3 [(0, .ref (h 2)), (1, .ref o)] := hl
  refine lv_aload_n hx hb dL_undo_0 rfl (lv_at hl 1 rfl) ?_
  refine lv_iconst (v := 0) hx hb dL_undo_1 (by decide) ?_
  refine lv_aload_n hx hb dL_undo_2 rfl (lv_at hl 0 rfl) ?_
  have hH := hH.perm (perm_o o a b h f ca ol t u hh S wr)
  refine cl_iV C0 hH hl.1 (As := []) (rest := [.int 0, .ref o]) (mX4_undo l D ca a b h f (oW o ca ol ++ wr) t u hh S  hf) gL_undo_X4_undo rfl rfl rfl hd_X4_undo ⟨Nat.le_of_ble_eq_true rfl, Nat.le_of_ble_eq_true rfl⟩ ⟨Nat.zero_le _, Nat.zero_le _⟩ (vG_X4 C0 hH) rfl (Nat.le_of_ble_eq_true rfl) dL_undo_3 (fun H locs hH => ?_)
  have hH := hH.perm (perm_o o a b h f ca ol t9 u9 h9 S9 wr).symm
  refine lv_i2l (v := r.toInt64) hx hb dL_undo_6 rfl ?_
  refine sO C0 hH dL_undo_7 (fun H locs hH => ?_)
  refine lv_goto (tgt := 14) hx hb dL_undo_8 (by decide) ?_
  refine lv_iconst (v := 0) hx hb dL_undo_14 (by decide) ?_
  refine W.widen (k := 1) (n := 6) (Nat.zero_le _) (Nat.zero_le _) ?_
  exact hend _ _ _ _ hH dL_undo_15
set_option maxHeartbeats 4000000 in
set_option maxRecDepth 100000 in
theorem eL_undo_1 (l : Launch) (hfl : l.stackTraces = false) (D : va_G) (ca : Gp) (o : Nat) (a b h : Nat → Nat) (f : Nat → Nat → Nat) (wr : va_W) (ol : Nat → Int64) (t u hh : Mem) (S : Nat → Mem) {t9 : Mem} (hf : tX4_undo t u hh S  = some ("java/lang/IllegalStateException", t9)) : Mj l yL_undo wsL_undo rmL_undo D ca [.ref (h 2), .ref o] (oW o ca ol ++ gW a b h f ca t u hh S wr) (oW o ca ol ++ gW a b h f ca t9 u hh S wr) 1 := by
  refine Mj_of (own := RL) (cc := cL_undo) (nL := 3) (hh := [(0, 8, 11, 17)]) (by decide) rfl rfl (Nat.le_of_ble_eq_true rfl) ?_
  intro p e s m args below meth c Q A ls C0 htab hH hl hend
  obtain ⟨hx, hb, hml, hown, hts⟩ := id C0.1
  have hl : lv_has ls 3 [(0, .ref (h 2)), (1, .ref o)] := hl
  refine lv_aload_n hx hb dL_undo_0 rfl (lv_at hl 1 rfl) ?_
  refine lv_iconst (v := 0) hx hb dL_undo_1 (by decide) ?_
  refine lv_aload_n hx hb dL_undo_2 rfl (lv_at hl 0 rfl) ?_
  have hH := hH.perm (perm_o o a b h f ca ol t u hh S wr)
  refine cx_iV C0 hH hl.1 (As := []) (rest := [.int 0, .ref o]) (eX4_undo l hfl D ca a b h f (oW o ca ol ++ wr) t u hh S  hf) gL_undo_X4_undo rfl rfl rfl hd_X4_undo ⟨Nat.le_of_ble_eq_true rfl, Nat.le_of_ble_eq_true rfl⟩ ⟨Nat.le_of_ble_eq_true rfl, Nat.le_of_ble_eq_true rfl⟩ (vG_X4 C0 hH) rfl (Nat.le_of_ble_eq_true rfl) dL_undo_3 (fun H locs q ce hH hq hv hcl => ?_)
  have hH := hH.perm (perm_o o a b h f ca ol t9 u hh S wr).symm
  refine cat C0 htab [] ⟨0, 8, 11, 17⟩ [] rfl (fun z hz => by cases hz) (by decide) (by decide) (by decide) (by decide +kernel) hq hv hcl ?_
  refine lv_astore_n (lv' := [(2, .ref q), (0, .ref (h 2)), (1, .ref o)]) hx hb dL_undo_11 rfl hl (by decide) rfl (fun ls hl => ?_)
  refine lv_iconst (v := 1) hx hb dL_undo_12 (by decide) ?_
  exact hend _ _ _ _ hH dL_undo_13
def rmL_line : Room := { frames := 7, cells := 1, slots := 6, locals := 113 }
theorem hd_L_line : yL_line.cls ≠ "java/lang/invoke/MethodHandle" ∧ yL_line.cls ≠ "java/lang/invoke/VarHandle" ∧ (parseMethodDescriptor yL_line.desc).map (fun d => d.parameters.length) = some 5 := by decide +kernel
set_option maxHeartbeats 4000000 in
set_option maxRecDepth 100000 in
theorem mL_line (l : Launch) (hfl : l.stackTraces = false) (D : va_G) (ca : Gp) (o : Nat) (a b h : Nat → Nat) (f : Nat → Nat → Nat) (wr : va_W) (ol : Nat → Int64) (t u hh : Mem) (S : Nat → Mem) (x1 : Int32) (x2 : Int32) (x3 : Int32) {r : Int32} (hf : pX4_line t u hh S x1 x2 x3 = some r) : Mj l yL_line wsL_line rmL_line D ca [.ref (h 2), .int x1, .int x2, .int x3, .ref o] (oW o ca ol ++ gW a b h f ca t u hh S wr) (oW o ca (vp_updL ol 0 r.toInt64) ++ gW a b h f ca t u hh S wr) 0 := by
  refine Mj_of (own := RL) (cc := cL_line) (nL := 6) (hh := [(0, 12, 15, 13), (0, 12, 19, 15)]) (by decide) rfl rfl (Nat.le_of_ble_eq_true rfl) ?_
  intro p e s m args below meth c Q A ls C0 htab hH hl hend
  obtain ⟨hx, hb, hml, hown, hts⟩ := id C0.1
  have hl : lv_has ls 6 [(0, .ref (h 2)), (1, .int x1), (2, .int x2), (3, .int x3), (4, .ref o)] := hl
  refine lv_aload hx hb dL_line_0 (lv_at hl 4 rfl) ?_
  refine lv_iconst (v := 0) hx hb dL_line_2 (by decide) ?_
  refine lv_aload_n hx hb dL_line_3 rfl (lv_at hl 0 rfl) ?_
  refine lv_iload_n hx hb dL_line_4 rfl (lv_at hl 1 rfl) ?_
  refine lv_iload_n hx hb dL_line_5 rfl (lv_at hl 2 rfl) ?_
  refine lv_iload_n hx hb dL_line_6 rfl (lv_at hl 3 rfl) ?_
  have hH := hH.perm (perm_o o a b h f ca ol t u hh S wr)
  refine cl_iV C0 hH hl.1 (As := [.int x1, .int x2, .int x3]) (rest := [.int 0, .ref o]) (mX4_line l D ca a b h f (oW o ca ol ++ wr) t u hh S x1 x2 x3 hf) gL_line_X4_line rfl rfl rfl hd_X4_line ⟨Nat.le_of_ble_eq_true rfl, Nat.le_of_ble_eq_true rfl⟩ ⟨Nat.zero_le _, Nat.zero_le _⟩ (vG_X4 C0 hH) rfl (Nat.le_of_ble_eq_true rfl) dL_line_7 (fun H locs hH => ?_)
  have hH := hH.perm (perm_o o a b h f ca ol t u hh S wr).symm
  refine lv_i2l (v := r.toInt64) hx hb dL_line_10 rfl ?_
  refine sO C0 hH dL_line_11 (fun H locs hH => ?_)
  refine lv_goto (tgt := 23) hx hb dL_line_12 (by decide) ?_
  refine lv_iconst (v := 0) hx hb dL_line_23 (by decide) ?_
  refine W.widen (k := 1) (n := 6) (Nat.zero_le _) (Nat.zero_le _) ?_
  exact hend _ _ _ _ hH dL_line_24
set_option maxHeartbeats 4000000 in
set_option maxRecDepth 100000 in
theorem eL_line_1 (l : Launch) (hfl : l.stackTraces = false) (D : va_G) (ca : Gp) (o : Nat) (a b h : Nat → Nat) (f : Nat → Nat → Nat) (wr : va_W) (ol : Nat → Int64) (t u hh : Mem) (S : Nat → Mem) (x1 : Int32) (x2 : Int32) (x3 : Int32) {t9 : Mem} (hf : tX4_line t u hh S x1 x2 x3 = some ("java/lang/IndexOutOfBoundsException", t9)) : Mj l yL_line wsL_line rmL_line D ca [.ref (h 2), .int x1, .int x2, .int x3, .ref o] (oW o ca ol ++ gW a b h f ca t u hh S wr) (oW o ca ol ++ gW a b h f ca t9 u hh S wr) 1 := by
  refine Mj_of (own := RL) (cc := cL_line) (nL := 6) (hh := [(0, 12, 15, 13), (0, 12, 19, 15)]) (by decide) rfl rfl (Nat.le_of_ble_eq_true rfl) ?_
  intro p e s m args below meth c Q A ls C0 htab hH hl hend
  obtain ⟨hx, hb, hml, hown, hts⟩ := id C0.1
  have hl : lv_has ls 6 [(0, .ref (h 2)), (1, .int x1), (2, .int x2), (3, .int x3), (4, .ref o)] := hl
  refine lv_aload hx hb dL_line_0 (lv_at hl 4 rfl) ?_
  refine lv_iconst (v := 0) hx hb dL_line_2 (by decide) ?_
  refine lv_aload_n hx hb dL_line_3 rfl (lv_at hl 0 rfl) ?_
  refine lv_iload_n hx hb dL_line_4 rfl (lv_at hl 1 rfl) ?_
  refine lv_iload_n hx hb dL_line_5 rfl (lv_at hl 2 rfl) ?_
  refine lv_iload_n hx hb dL_line_6 rfl (lv_at hl 3 rfl) ?_
  have hH := hH.perm (perm_o o a b h f ca ol t u hh S wr)
  refine cx_iV C0 hH hl.1 (As := [.int x1, .int x2, .int x3]) (rest := [.int 0, .ref o]) (eX4_line l hfl D ca a b h f (oW o ca ol ++ wr) t u hh S x1 x2 x3 hf) gL_line_X4_line rfl rfl rfl hd_X4_line ⟨Nat.le_of_ble_eq_true rfl, Nat.le_of_ble_eq_true rfl⟩ ⟨Nat.le_of_ble_eq_true rfl, Nat.le_of_ble_eq_true rfl⟩ (vG_X4 C0 hH) rfl (Nat.le_of_ble_eq_true rfl) dL_line_7 (fun H locs q ce hH hq hv hcl => ?_)
  have hH := hH.perm (perm_o o a b h f ca ol t9 u hh S wr).symm
  refine cat C0 htab [] ⟨0, 12, 15, 13⟩ [⟨0, 12, 19, 15⟩] rfl (fun z hz => by cases hz) (by decide) (by decide) (by decide) (by decide +kernel) hq hv hcl ?_
  refine lv_astore (lv' := [(5, .ref q), (0, .ref (h 2)), (1, .int x1), (2, .int x2), (3, .int x3), (4, .ref o)]) hx hb dL_line_15 hl (by decide) rfl (fun ls hl => ?_)
  refine lv_iconst (v := 1) hx hb dL_line_17 (by decide) ?_
  exact hend _ _ _ _ hH dL_line_18
set_option maxHeartbeats 4000000 in
set_option maxRecDepth 100000 in
theorem eL_line_2 (l : Launch) (hfl : l.stackTraces = false) (D : va_G) (ca : Gp) (o : Nat) (a b h : Nat → Nat) (f : Nat → Nat → Nat) (wr : va_W) (ol : Nat → Int64) (t u hh : Mem) (S : Nat → Mem) (x1 : Int32) (x2 : Int32) (x3 : Int32) {t9 : Mem} (hf : tX4_line t u hh S x1 x2 x3 = some ("java/lang/IllegalArgumentException", t9)) : Mj l yL_line wsL_line rmL_line D ca [.ref (h 2), .int x1, .int x2, .int x3, .ref o] (oW o ca ol ++ gW a b h f ca t u hh S wr) (oW o ca ol ++ gW a b h f ca t9 u hh S wr) 2 := by
  refine Mj_of (own := RL) (cc := cL_line) (nL := 6) (hh := [(0, 12, 15, 13), (0, 12, 19, 15)]) (by decide) rfl rfl (Nat.le_of_ble_eq_true rfl) ?_
  intro p e s m args below meth c Q A ls C0 htab hH hl hend
  obtain ⟨hx, hb, hml, hown, hts⟩ := id C0.1
  have hl : lv_has ls 6 [(0, .ref (h 2)), (1, .int x1), (2, .int x2), (3, .int x3), (4, .ref o)] := hl
  refine lv_aload hx hb dL_line_0 (lv_at hl 4 rfl) ?_
  refine lv_iconst (v := 0) hx hb dL_line_2 (by decide) ?_
  refine lv_aload_n hx hb dL_line_3 rfl (lv_at hl 0 rfl) ?_
  refine lv_iload_n hx hb dL_line_4 rfl (lv_at hl 1 rfl) ?_
  refine lv_iload_n hx hb dL_line_5 rfl (lv_at hl 2 rfl) ?_
  refine lv_iload_n hx hb dL_line_6 rfl (lv_at hl 3 rfl) ?_
  have hH := hH.perm (perm_o o a b h f ca ol t u hh S wr)
  refine cx_iV C0 hH hl.1 (As := [.int x1, .int x2, .int x3]) (rest := [.int 0, .ref o]) (eX4_line l hfl D ca a b h f (oW o ca ol ++ wr) t u hh S x1 x2 x3 hf) gL_line_X4_line rfl rfl rfl hd_X4_line ⟨Nat.le_of_ble_eq_true rfl, Nat.le_of_ble_eq_true rfl⟩ ⟨Nat.le_of_ble_eq_true rfl, Nat.le_of_ble_eq_true rfl⟩ (vG_X4 C0 hH) rfl (Nat.le_of_ble_eq_true rfl) dL_line_7 (fun H locs q ce hH hq hv hcl => ?_)
  have hH := hH.perm (perm_o o a b h f ca ol t9 u hh S wr).symm
  refine cat C0 htab [⟨0, 12, 15, 13⟩] ⟨0, 12, 19, 15⟩ [] rfl (fun z hz => by rw [List.mem_singleton.mp hz]; exact ⟨by decide, "java/lang/IndexOutOfBoundsException", by decide +kernel, by decide⟩) (by decide) (by decide) (by decide) (by decide +kernel) hq hv hcl ?_
  refine lv_astore (lv' := [(5, .ref q), (0, .ref (h 2)), (1, .int x1), (2, .int x2), (3, .int x3), (4, .ref o)]) hx hb dL_line_19 hl (by decide) rfl (fun ls hl => ?_)
  refine lv_iconst (v := 2) hx hb dL_line_21 (by decide) ?_
  exact hend _ _ _ _ hH dL_line_22
def rmL_dirtyOf : Room := { frames := 8, cells := 1, slots := 6, locals := 131 }
theorem hd_L_dirtyOf : yL_dirtyOf.cls ≠ "java/lang/invoke/MethodHandle" ∧ yL_dirtyOf.cls ≠ "java/lang/invoke/VarHandle" ∧ (parseMethodDescriptor yL_dirtyOf.desc).map (fun d => d.parameters.length) = some 3 := by decide +kernel
set_option maxHeartbeats 4000000 in
set_option maxRecDepth 100000 in
theorem mL_dirtyOf (l : Launch) (hfl : l.stackTraces = false) (D : va_G) (ca : Gp) (o : Nat) (a b h : Nat → Nat) (f : Nat → Nat → Nat) (wr : va_W) (ol : Nat → Int64) (t u hh : Mem) (S : Nat → Mem) (x1 : Int32) {r : Int32} (hf : pX4_dirtyOf t u hh S x1 = some r) : Mj l yL_dirtyOf wsL_dirtyOf rmL_dirtyOf D ca [.ref (h 2), .int x1, .ref o] (oW o ca ol ++ gW a b h f ca t u hh S wr) (oW o ca (vp_updL ol 0 r.toInt64) ++ gW a b h f ca t u hh S wr) 0 := by
  refine Mj_of (own := RL) (cc := cL_dirtyOf) (nL := 4) (hh := [(0, 9, 12, 13)]) (by decide) rfl rfl (Nat.le_of_ble_eq_true rfl) ?_
  intro p e s m args below meth c Q A ls C0 htab hH hl hend
  obtain ⟨hx, hb, hml, hown, hts⟩ := id C0.1
  have hl : lv_has ls 4 [(0, .ref (h 2)), (1, .int x1), (2, .ref o)] := hl
  refine lv_aload_n hx hb dL_dirtyOf_0 rfl (lv_at hl 2 rfl) ?_
  refine lv_iconst (v := 0) hx hb dL_dirtyOf_1 (by decide) ?_
  refine lv_aload_n hx hb dL_dirtyOf_2 rfl (lv_at hl 0 rfl) ?_
  refine lv_iload_n hx hb dL_dirtyOf_3 rfl (lv_at hl 1 rfl) ?_
  have hH := hH.perm (perm_o o a b h f ca ol t u hh S wr)
  refine cl_iV C0 hH hl.1 (As := [.int x1]) (rest := [.int 0, .ref o]) (mX4_dirtyOf l D ca a b h f (oW o ca ol ++ wr) t u hh S x1 hf) gL_dirtyOf_X4_dirtyOf rfl rfl rfl hd_X4_dirtyOf ⟨Nat.le_of_ble_eq_true rfl, Nat.le_of_ble_eq_true rfl⟩ ⟨Nat.zero_le _, Nat.zero_le _⟩ (vG_X4 C0 hH) rfl (Nat.le_of_ble_eq_true rfl) dL_dirtyOf_4 (fun H locs hH => ?_)
  have hH := hH.perm (perm_o o a b h f ca ol t u hh S wr).symm
  refine lv_i2l (v := r.toInt64) hx hb dL_dirtyOf_7 rfl ?_
  refine sO C0 hH dL_dirtyOf_8 (fun H locs hH => ?_)
  refine lv_goto (tgt := 15) hx hb dL_dirtyOf_9 (by decide) ?_
  refine lv_iconst (v := 0) hx hb dL_dirtyOf_15 (by decide) ?_
  refine W.widen (k := 1) (n := 6) (Nat.zero_le _) (Nat.zero_le _) ?_
  exact hend _ _ _ _ hH dL_dirtyOf_16
set_option maxHeartbeats 4000000 in
set_option maxRecDepth 100000 in
theorem eL_dirtyOf_1 (l : Launch) (hfl : l.stackTraces = false) (D : va_G) (ca : Gp) (o : Nat) (a b h : Nat → Nat) (f : Nat → Nat → Nat) (wr : va_W) (ol : Nat → Int64) (t u hh : Mem) (S : Nat → Mem) (x1 : Int32) {t9 : Mem} (hf : tX4_dirtyOf t u hh S x1 = some ("java/lang/IndexOutOfBoundsException", t9)) : Mj l yL_dirtyOf wsL_dirtyOf rmL_dirtyOf D ca [.ref (h 2), .int x1, .ref o] (oW o ca ol ++ gW a b h f ca t u hh S wr) (oW o ca ol ++ gW a b h f ca t9 u hh S wr) 1 := by
  refine Mj_of (own := RL) (cc := cL_dirtyOf) (nL := 4) (hh := [(0, 9, 12, 13)]) (by decide) rfl rfl (Nat.le_of_ble_eq_true rfl) ?_
  intro p e s m args below meth c Q A ls C0 htab hH hl hend
  obtain ⟨hx, hb, hml, hown, hts⟩ := id C0.1
  have hl : lv_has ls 4 [(0, .ref (h 2)), (1, .int x1), (2, .ref o)] := hl
  refine lv_aload_n hx hb dL_dirtyOf_0 rfl (lv_at hl 2 rfl) ?_
  refine lv_iconst (v := 0) hx hb dL_dirtyOf_1 (by decide) ?_
  refine lv_aload_n hx hb dL_dirtyOf_2 rfl (lv_at hl 0 rfl) ?_
  refine lv_iload_n hx hb dL_dirtyOf_3 rfl (lv_at hl 1 rfl) ?_
  have hH := hH.perm (perm_o o a b h f ca ol t u hh S wr)
  refine cx_iV C0 hH hl.1 (As := [.int x1]) (rest := [.int 0, .ref o]) (eX4_dirtyOf l hfl D ca a b h f (oW o ca ol ++ wr) t u hh S x1 hf) gL_dirtyOf_X4_dirtyOf rfl rfl rfl hd_X4_dirtyOf ⟨Nat.le_of_ble_eq_true rfl, Nat.le_of_ble_eq_true rfl⟩ ⟨Nat.le_of_ble_eq_true rfl, Nat.le_of_ble_eq_true rfl⟩ (vG_X4 C0 hH) rfl (Nat.le_of_ble_eq_true rfl) dL_dirtyOf_4 (fun H locs q ce hH hq hv hcl => ?_)
  have hH := hH.perm (perm_o o a b h f ca ol t9 u hh S wr).symm
  refine cat C0 htab [] ⟨0, 9, 12, 13⟩ [] rfl (fun z hz => by cases hz) (by decide) (by decide) (by decide) (by decide +kernel) hq hv hcl ?_
  refine lv_astore_n (lv' := [(3, .ref q), (0, .ref (h 2)), (1, .int x1), (2, .ref o)]) hx hb dL_dirtyOf_12 rfl hl (by decide) rfl (fun ls hl => ?_)
  refine lv_iconst (v := 1) hx hb dL_dirtyOf_13 (by decide) ?_
  exact hend _ _ _ _ hH dL_dirtyOf_14
def rmL_onDisk : Room := { frames := 8, cells := 1, slots := 6, locals := 131 }
theorem hd_L_onDisk : yL_onDisk.cls ≠ "java/lang/invoke/MethodHandle" ∧ yL_onDisk.cls ≠ "java/lang/invoke/VarHandle" ∧ (parseMethodDescriptor yL_onDisk.desc).map (fun d => d.parameters.length) = some 3 := by decide +kernel
set_option maxHeartbeats 4000000 in
set_option maxRecDepth 100000 in
theorem mL_onDisk (l : Launch) (hfl : l.stackTraces = false) (D : va_G) (ca : Gp) (o : Nat) (a b h : Nat → Nat) (f : Nat → Nat → Nat) (wr : va_W) (ol : Nat → Int64) (t u hh : Mem) (S : Nat → Mem) (x1 : Int32) {r : Int32} (hf : pX4_onDisk t u hh S x1 = some r) : Mj l yL_onDisk wsL_onDisk rmL_onDisk D ca [.ref (h 2), .int x1, .ref o] (oW o ca ol ++ gW a b h f ca t u hh S wr) (oW o ca (vp_updL ol 0 r.toInt64) ++ gW a b h f ca t u hh S wr) 0 := by
  refine Mj_of (own := RL) (cc := cL_onDisk) (nL := 4) (hh := [(0, 9, 12, 13)]) (by decide) rfl rfl (Nat.le_of_ble_eq_true rfl) ?_
  intro p e s m args below meth c Q A ls C0 htab hH hl hend
  obtain ⟨hx, hb, hml, hown, hts⟩ := id C0.1
  have hl : lv_has ls 4 [(0, .ref (h 2)), (1, .int x1), (2, .ref o)] := hl
  refine lv_aload_n hx hb dL_onDisk_0 rfl (lv_at hl 2 rfl) ?_
  refine lv_iconst (v := 0) hx hb dL_onDisk_1 (by decide) ?_
  refine lv_aload_n hx hb dL_onDisk_2 rfl (lv_at hl 0 rfl) ?_
  refine lv_iload_n hx hb dL_onDisk_3 rfl (lv_at hl 1 rfl) ?_
  have hH := hH.perm (perm_o o a b h f ca ol t u hh S wr)
  refine cl_iV C0 hH hl.1 (As := [.int x1]) (rest := [.int 0, .ref o]) (mX4_onDisk l D ca a b h f (oW o ca ol ++ wr) t u hh S x1 hf) gL_onDisk_X4_onDisk rfl rfl rfl hd_X4_onDisk ⟨Nat.le_of_ble_eq_true rfl, Nat.le_of_ble_eq_true rfl⟩ ⟨Nat.zero_le _, Nat.zero_le _⟩ (vG_X4 C0 hH) rfl (Nat.le_of_ble_eq_true rfl) dL_onDisk_4 (fun H locs hH => ?_)
  have hH := hH.perm (perm_o o a b h f ca ol t u hh S wr).symm
  refine lv_i2l (v := r.toInt64) hx hb dL_onDisk_7 rfl ?_
  refine sO C0 hH dL_onDisk_8 (fun H locs hH => ?_)
  refine lv_goto (tgt := 15) hx hb dL_onDisk_9 (by decide) ?_
  refine lv_iconst (v := 0) hx hb dL_onDisk_15 (by decide) ?_
  refine W.widen (k := 1) (n := 6) (Nat.zero_le _) (Nat.zero_le _) ?_
  exact hend _ _ _ _ hH dL_onDisk_16
set_option maxHeartbeats 4000000 in
set_option maxRecDepth 100000 in
theorem eL_onDisk_1 (l : Launch) (hfl : l.stackTraces = false) (D : va_G) (ca : Gp) (o : Nat) (a b h : Nat → Nat) (f : Nat → Nat → Nat) (wr : va_W) (ol : Nat → Int64) (t u hh : Mem) (S : Nat → Mem) (x1 : Int32) {t9 : Mem} (hf : tX4_onDisk t u hh S x1 = some ("java/lang/IndexOutOfBoundsException", t9)) : Mj l yL_onDisk wsL_onDisk rmL_onDisk D ca [.ref (h 2), .int x1, .ref o] (oW o ca ol ++ gW a b h f ca t u hh S wr) (oW o ca ol ++ gW a b h f ca t9 u hh S wr) 1 := by
  refine Mj_of (own := RL) (cc := cL_onDisk) (nL := 4) (hh := [(0, 9, 12, 13)]) (by decide) rfl rfl (Nat.le_of_ble_eq_true rfl) ?_
  intro p e s m args below meth c Q A ls C0 htab hH hl hend
  obtain ⟨hx, hb, hml, hown, hts⟩ := id C0.1
  have hl : lv_has ls 4 [(0, .ref (h 2)), (1, .int x1), (2, .ref o)] := hl
  refine lv_aload_n hx hb dL_onDisk_0 rfl (lv_at hl 2 rfl) ?_
  refine lv_iconst (v := 0) hx hb dL_onDisk_1 (by decide) ?_
  refine lv_aload_n hx hb dL_onDisk_2 rfl (lv_at hl 0 rfl) ?_
  refine lv_iload_n hx hb dL_onDisk_3 rfl (lv_at hl 1 rfl) ?_
  have hH := hH.perm (perm_o o a b h f ca ol t u hh S wr)
  refine cx_iV C0 hH hl.1 (As := [.int x1]) (rest := [.int 0, .ref o]) (eX4_onDisk l hfl D ca a b h f (oW o ca ol ++ wr) t u hh S x1 hf) gL_onDisk_X4_onDisk rfl rfl rfl hd_X4_onDisk ⟨Nat.le_of_ble_eq_true rfl, Nat.le_of_ble_eq_true rfl⟩ ⟨Nat.le_of_ble_eq_true rfl, Nat.le_of_ble_eq_true rfl⟩ (vG_X4 C0 hH) rfl (Nat.le_of_ble_eq_true rfl) dL_onDisk_4 (fun H locs q ce hH hq hv hcl => ?_)
  have hH := hH.perm (perm_o o a b h f ca ol t9 u hh S wr).symm
  refine cat C0 htab [] ⟨0, 9, 12, 13⟩ [] rfl (fun z hz => by cases hz) (by decide) (by decide) (by decide) (by decide +kernel) hq hv hcl ?_
  refine lv_astore_n (lv' := [(3, .ref q), (0, .ref (h 2)), (1, .int x1), (2, .ref o)]) hx hb dL_onDisk_12 rfl hl (by decide) rfl (fun ls hl => ?_)
  refine lv_iconst (v := 1) hx hb dL_onDisk_13 (by decide) ?_
  exact hend _ _ _ _ hH dL_onDisk_14
def rmL_isFound : Room := { frames := 8, cells := 1, slots := 6, locals := 131 }
theorem hd_L_isFound : yL_isFound.cls ≠ "java/lang/invoke/MethodHandle" ∧ yL_isFound.cls ≠ "java/lang/invoke/VarHandle" ∧ (parseMethodDescriptor yL_isFound.desc).map (fun d => d.parameters.length) = some 3 := by decide +kernel
set_option maxHeartbeats 4000000 in
set_option maxRecDepth 100000 in
theorem mL_isFound (l : Launch) (hfl : l.stackTraces = false) (D : va_G) (ca : Gp) (o : Nat) (a b h : Nat → Nat) (f : Nat → Nat → Nat) (wr : va_W) (ol : Nat → Int64) (t u hh : Mem) (S : Nat → Mem) (x1 : Int32) {r : Int32} (hf : pX4_isFound t u hh S x1 = some r) : Mj l yL_isFound wsL_isFound rmL_isFound D ca [.ref (h 2), .int x1, .ref o] (oW o ca ol ++ gW a b h f ca t u hh S wr) (oW o ca (vp_updL ol 0 (if r = 0 then 0 else 1 : Int64)) ++ gW a b h f ca t u hh S wr) 0 := by
  refine Mj_of (own := RL) (cc := cL_isFound) (nL := 4) (hh := [(0, 16, 19, 13)]) (by decide) rfl rfl (Nat.le_of_ble_eq_true rfl) ?_
  intro p e s m args below meth c Q A ls C0 htab hH hl hend
  obtain ⟨hx, hb, hml, hown, hts⟩ := id C0.1
  have hl : lv_has ls 4 [(0, .ref (h 2)), (1, .int x1), (2, .ref o)] := hl
  refine lv_aload_n hx hb dL_isFound_0 rfl (lv_at hl 2 rfl) ?_
  refine lv_iconst (v := 0) hx hb dL_isFound_1 (by decide) ?_
  refine lv_aload_n hx hb dL_isFound_2 rfl (lv_at hl 0 rfl) ?_
  refine lv_iload_n hx hb dL_isFound_3 rfl (lv_at hl 1 rfl) ?_
  have hH := hH.perm (perm_o o a b h f ca ol t u hh S wr)
  refine cl_iV C0 hH hl.1 (As := [.int x1]) (rest := [.int 0, .ref o]) (mX4_isFound l D ca a b h f (oW o ca ol ++ wr) t u hh S x1 hf) gL_isFound_X4_isFound rfl rfl rfl hd_X4_isFound ⟨Nat.le_of_ble_eq_true rfl, Nat.le_of_ble_eq_true rfl⟩ ⟨Nat.zero_le _, Nat.zero_le _⟩ (vG_X4 C0 hH) rfl (Nat.le_of_ble_eq_true rfl) dL_isFound_4 (fun H locs hH => ?_)
  have hH := hH.perm (perm_o o a b h f ca ol t u hh S wr).symm
  refine lv_if_eq (tgt := 14) hx hb dL_isFound_7 (by decide) (fun c1 => ?_) (fun c1 => ?_)
  · rw [if_pos c1] at hend
    refine lv_lconst (v := 0) hx hb dL_isFound_14 rfl ?_
    refine sO C0 hH dL_isFound_15 (fun H locs hH => ?_)
    refine lv_goto (tgt := 22) hx hb dL_isFound_16 (by decide) ?_
    refine lv_iconst (v := 0) hx hb dL_isFound_22 (by decide) ?_
    refine W.widen (k := 1) (n := 6) (Nat.zero_le _) (Nat.zero_le _) ?_
    exact hend _ _ _ _ hH dL_isFound_23
  · rw [if_neg c1] at hend
    refine lv_lconst (v := 1) hx hb dL_isFound_10 rfl ?_
    refine lv_goto (tgt := 15) hx hb dL_isFound_11 (by decide) ?_
    refine sO C0 hH dL_isFound_15 (fun H locs hH => ?_)
    refine lv_goto (tgt := 22) hx hb dL_isFound_16 (by decide) ?_
    refine lv_iconst (v := 0) hx hb dL_isFound_22 (by decide) ?_
    refine W.widen (k := 1) (n := 6) (Nat.zero_le _) (Nat.zero_le _) ?_
    exact hend _ _ _ _ hH dL_isFound_23
set_option maxHeartbeats 4000000 in
set_option maxRecDepth 100000 in
theorem eL_isFound_1 (l : Launch) (hfl : l.stackTraces = false) (D : va_G) (ca : Gp) (o : Nat) (a b h : Nat → Nat) (f : Nat → Nat → Nat) (wr : va_W) (ol : Nat → Int64) (t u hh : Mem) (S : Nat → Mem) (x1 : Int32) {t9 : Mem} (hf : tX4_isFound t u hh S x1 = some ("java/lang/IndexOutOfBoundsException", t9)) : Mj l yL_isFound wsL_isFound rmL_isFound D ca [.ref (h 2), .int x1, .ref o] (oW o ca ol ++ gW a b h f ca t u hh S wr) (oW o ca ol ++ gW a b h f ca t9 u hh S wr) 1 := by
  refine Mj_of (own := RL) (cc := cL_isFound) (nL := 4) (hh := [(0, 16, 19, 13)]) (by decide) rfl rfl (Nat.le_of_ble_eq_true rfl) ?_
  intro p e s m args below meth c Q A ls C0 htab hH hl hend
  obtain ⟨hx, hb, hml, hown, hts⟩ := id C0.1
  have hl : lv_has ls 4 [(0, .ref (h 2)), (1, .int x1), (2, .ref o)] := hl
  refine lv_aload_n hx hb dL_isFound_0 rfl (lv_at hl 2 rfl) ?_
  refine lv_iconst (v := 0) hx hb dL_isFound_1 (by decide) ?_
  refine lv_aload_n hx hb dL_isFound_2 rfl (lv_at hl 0 rfl) ?_
  refine lv_iload_n hx hb dL_isFound_3 rfl (lv_at hl 1 rfl) ?_
  have hH := hH.perm (perm_o o a b h f ca ol t u hh S wr)
  refine cx_iV C0 hH hl.1 (As := [.int x1]) (rest := [.int 0, .ref o]) (eX4_isFound l hfl D ca a b h f (oW o ca ol ++ wr) t u hh S x1 hf) gL_isFound_X4_isFound rfl rfl rfl hd_X4_isFound ⟨Nat.le_of_ble_eq_true rfl, Nat.le_of_ble_eq_true rfl⟩ ⟨Nat.le_of_ble_eq_true rfl, Nat.le_of_ble_eq_true rfl⟩ (vG_X4 C0 hH) rfl (Nat.le_of_ble_eq_true rfl) dL_isFound_4 (fun H locs q ce hH hq hv hcl => ?_)
  have hH := hH.perm (perm_o o a b h f ca ol t9 u hh S wr).symm
  refine cat C0 htab [] ⟨0, 16, 19, 13⟩ [] rfl (fun z hz => by cases hz) (by decide) (by decide) (by decide) (by decide +kernel) hq hv hcl ?_
  refine lv_astore_n (lv' := [(3, .ref q), (0, .ref (h 2)), (1, .int x1), (2, .ref o)]) hx hb dL_isFound_19 rfl hl (by decide) rfl (fun ls hl => ?_)
  refine lv_iconst (v := 1) hx hb dL_isFound_20 (by decide) ?_
  exact hend _ _ _ _ hH dL_isFound_21
def rmL_ifWritten : Room := { frames := 8, cells := 1, slots := 6, locals := 132 }
theorem hd_L_ifWritten : yL_ifWritten.cls ≠ "java/lang/invoke/MethodHandle" ∧ yL_ifWritten.cls ≠ "java/lang/invoke/VarHandle" ∧ (parseMethodDescriptor yL_ifWritten.desc).map (fun d => d.parameters.length) = some 3 := by decide +kernel
set_option maxHeartbeats 4000000 in
set_option maxRecDepth 100000 in
theorem mL_ifWritten (l : Launch) (hfl : l.stackTraces = false) (D : va_G) (ca : Gp) (o : Nat) (a b h : Nat → Nat) (f : Nat → Nat → Nat) (wr : va_W) (ol : Nat → Int64) (t u hh : Mem) (S : Nat → Mem) (x1 : Int32) {r : Int32} (hf : pX4_ifWritten t u hh S x1 = some r) : Mj l yL_ifWritten wsL_ifWritten rmL_ifWritten D ca [.ref (h 2), .int x1, .ref o] (oW o ca ol ++ gW a b h f ca t u hh S wr) (oW o ca (vp_updL ol 0 r.toInt64) ++ gW a b h f ca t u hh S wr) 0 := by
  refine Mj_of (own := RL) (cc := cL_ifWritten) (nL := 4) (hh := [(0, 9, 12, 13)]) (by decide) rfl rfl (Nat.le_of_ble_eq_true rfl) ?_
  intro p e s m args below meth c Q A ls C0 htab hH hl hend
  obtain ⟨hx, hb, hml, hown, hts⟩ := id C0.1
  have hl : lv_has ls 4 [(0, .ref (h 2)), (1, .int x1), (2, .ref o)] := hl
  refine lv_aload_n hx hb dL_ifWritten_0 rfl (lv_at hl 2 rfl) ?_
  refine lv_iconst (v := 0) hx hb dL_ifWritten_1 (by decide) ?_
  refine lv_aload_n hx hb dL_ifWritten_2 rfl (lv_at hl 0 rfl) ?_
  refine lv_iload_n hx hb dL_ifWritten_3 rfl (lv_at hl 1 rfl) ?_
  have hH := hH.perm (perm_o o a b h f ca ol t u hh S wr)
  refine cl_iV C0 hH hl.1 (As := [.int x1]) (rest := [.int 0, .ref o]) (mX4_ifWritten l D ca a b h f (oW o ca ol ++ wr) t u hh S x1 hf) gL_ifWritten_X4_ifWritten rfl rfl rfl hd_X4_ifWritten ⟨Nat.le_of_ble_eq_true rfl, Nat.le_of_ble_eq_true rfl⟩ ⟨Nat.zero_le _, Nat.zero_le _⟩ (vG_X4 C0 hH) rfl (Nat.le_of_ble_eq_true rfl) dL_ifWritten_4 (fun H locs hH => ?_)
  have hH := hH.perm (perm_o o a b h f ca ol t u hh S wr).symm
  refine lv_i2l (v := r.toInt64) hx hb dL_ifWritten_7 rfl ?_
  refine sO C0 hH dL_ifWritten_8 (fun H locs hH => ?_)
  refine lv_goto (tgt := 15) hx hb dL_ifWritten_9 (by decide) ?_
  refine lv_iconst (v := 0) hx hb dL_ifWritten_15 (by decide) ?_
  refine W.widen (k := 1) (n := 6) (Nat.zero_le _) (Nat.zero_le _) ?_
  exact hend _ _ _ _ hH dL_ifWritten_16
set_option maxHeartbeats 4000000 in
set_option maxRecDepth 100000 in
theorem eL_ifWritten_1 (l : Launch) (hfl : l.stackTraces = false) (D : va_G) (ca : Gp) (o : Nat) (a b h : Nat → Nat) (f : Nat → Nat → Nat) (wr : va_W) (ol : Nat → Int64) (t u hh : Mem) (S : Nat → Mem) (x1 : Int32) {t9 : Mem} (hf : tX4_ifWritten t u hh S x1 = some ("java/lang/IndexOutOfBoundsException", t9)) : Mj l yL_ifWritten wsL_ifWritten rmL_ifWritten D ca [.ref (h 2), .int x1, .ref o] (oW o ca ol ++ gW a b h f ca t u hh S wr) (oW o ca ol ++ gW a b h f ca t9 u hh S wr) 1 := by
  refine Mj_of (own := RL) (cc := cL_ifWritten) (nL := 4) (hh := [(0, 9, 12, 13)]) (by decide) rfl rfl (Nat.le_of_ble_eq_true rfl) ?_
  intro p e s m args below meth c Q A ls C0 htab hH hl hend
  obtain ⟨hx, hb, hml, hown, hts⟩ := id C0.1
  have hl : lv_has ls 4 [(0, .ref (h 2)), (1, .int x1), (2, .ref o)] := hl
  refine lv_aload_n hx hb dL_ifWritten_0 rfl (lv_at hl 2 rfl) ?_
  refine lv_iconst (v := 0) hx hb dL_ifWritten_1 (by decide) ?_
  refine lv_aload_n hx hb dL_ifWritten_2 rfl (lv_at hl 0 rfl) ?_
  refine lv_iload_n hx hb dL_ifWritten_3 rfl (lv_at hl 1 rfl) ?_
  have hH := hH.perm (perm_o o a b h f ca ol t u hh S wr)
  refine cx_iV C0 hH hl.1 (As := [.int x1]) (rest := [.int 0, .ref o]) (eX4_ifWritten l hfl D ca a b h f (oW o ca ol ++ wr) t u hh S x1 hf) gL_ifWritten_X4_ifWritten rfl rfl rfl hd_X4_ifWritten ⟨Nat.le_of_ble_eq_true rfl, Nat.le_of_ble_eq_true rfl⟩ ⟨Nat.le_of_ble_eq_true rfl, Nat.le_of_ble_eq_true rfl⟩ (vG_X4 C0 hH) rfl (Nat.le_of_ble_eq_true rfl) dL_ifWritten_4 (fun H locs q ce hH hq hv hcl => ?_)
  have hH := hH.perm (perm_o o a b h f ca ol t9 u hh S wr).symm
  refine cat C0 htab [] ⟨0, 9, 12, 13⟩ [] rfl (fun z hz => by cases hz) (by decide) (by decide) (by decide) (by decide +kernel) hq hv hcl ?_
  refine lv_astore_n (lv' := [(3, .ref q), (0, .ref (h 2)), (1, .int x1), (2, .ref o)]) hx hb dL_ifWritten_12 rfl hl (by decide) rfl (fun ls hl => ?_)
  refine lv_iconst (v := 1) hx hb dL_ifWritten_13 (by decide) ?_
  exact hend _ _ _ _ hH dL_ifWritten_14
def rmL_count : Room := { frames := 7, cells := 1, slots := 6, locals := 111 }
theorem hd_L_count : yL_count.cls ≠ "java/lang/invoke/MethodHandle" ∧ yL_count.cls ≠ "java/lang/invoke/VarHandle" ∧ (parseMethodDescriptor yL_count.desc).map (fun d => d.parameters.length) = some 3 := by decide +kernel
set_option maxHeartbeats 4000000 in
set_option maxRecDepth 100000 in
theorem mL_count (l : Launch) (hfl : l.stackTraces = false) (D : va_G) (ca : Gp) (o : Nat) (a b h : Nat → Nat) (f : Nat → Nat → Nat) (wr : va_W) (ol : Nat → Int64) (t u hh : Mem) (S : Nat → Mem) (x1 : Int32) {r : Int32} (hf : pX4_count t u hh S x1 = some r) : Mj l yL_count wsL_count rmL_count D ca [.ref (h 2), .int x1, .ref o] (oW o ca ol ++ gW a b h f ca t u hh S wr) (oW o ca (vp_updL ol 0 r.toInt64) ++ gW a b h f ca t u hh S wr) 0 := by
  refine Mj_of (own := RL) (cc := cL_count) (nL := 4) (hh := [(0, 9, 12, 15)]) (by decide) rfl rfl (Nat.le_of_ble_eq_true rfl) ?_
  intro p e s m args below meth c Q A ls C0 htab hH hl hend
  obtain ⟨hx, hb, hml, hown, hts⟩ := id C0.1
  have hl : lv_has ls 4 [(0, .ref (h 2)), (1, .int x1), (2, .ref o)] := hl
  refine lv_aload_n hx hb dL_count_0 rfl (lv_at hl 2 rfl) ?_
  refine lv_iconst (v := 0) hx hb dL_count_1 (by decide) ?_
  refine lv_aload_n hx hb dL_count_2 rfl (lv_at hl 0 rfl) ?_
  refine lv_iload_n hx hb dL_count_3 rfl (lv_at hl 1 rfl) ?_
  have hH := hH.perm (perm_o o a b h f ca ol t u hh S wr)
  refine cl_iV C0 hH hl.1 (As := [.int x1]) (rest := [.int 0, .ref o]) (mX4_count l D ca a b h f (oW o ca ol ++ wr) t u hh S x1 hf) gL_count_X4_count rfl rfl rfl hd_X4_count ⟨Nat.le_of_ble_eq_true rfl, Nat.le_of_ble_eq_true rfl⟩ ⟨Nat.zero_le _, Nat.zero_le _⟩ (vG_X4 C0 hH) rfl (Nat.le_of_ble_eq_true rfl) dL_count_4 (fun H locs hH => ?_)
  have hH := hH.perm (perm_o o a b h f ca ol t u hh S wr).symm
  refine lv_i2l (v := r.toInt64) hx hb dL_count_7 rfl ?_
  refine sO C0 hH dL_count_8 (fun H locs hH => ?_)
  refine lv_goto (tgt := 15) hx hb dL_count_9 (by decide) ?_
  refine lv_iconst (v := 0) hx hb dL_count_15 (by decide) ?_
  refine W.widen (k := 1) (n := 6) (Nat.zero_le _) (Nat.zero_le _) ?_
  exact hend _ _ _ _ hH dL_count_16
set_option maxHeartbeats 4000000 in
set_option maxRecDepth 100000 in
theorem eL_count_1 (l : Launch) (hfl : l.stackTraces = false) (D : va_G) (ca : Gp) (o : Nat) (a b h : Nat → Nat) (f : Nat → Nat → Nat) (wr : va_W) (ol : Nat → Int64) (t u hh : Mem) (S : Nat → Mem) (x1 : Int32) {t9 : Mem} (hf : tX4_count t u hh S x1 = some ("java/lang/IllegalArgumentException", t9)) : Mj l yL_count wsL_count rmL_count D ca [.ref (h 2), .int x1, .ref o] (oW o ca ol ++ gW a b h f ca t u hh S wr) (oW o ca ol ++ gW a b h f ca t9 u hh S wr) 1 := by
  refine Mj_of (own := RL) (cc := cL_count) (nL := 4) (hh := [(0, 9, 12, 15)]) (by decide) rfl rfl (Nat.le_of_ble_eq_true rfl) ?_
  intro p e s m args below meth c Q A ls C0 htab hH hl hend
  obtain ⟨hx, hb, hml, hown, hts⟩ := id C0.1
  have hl : lv_has ls 4 [(0, .ref (h 2)), (1, .int x1), (2, .ref o)] := hl
  refine lv_aload_n hx hb dL_count_0 rfl (lv_at hl 2 rfl) ?_
  refine lv_iconst (v := 0) hx hb dL_count_1 (by decide) ?_
  refine lv_aload_n hx hb dL_count_2 rfl (lv_at hl 0 rfl) ?_
  refine lv_iload_n hx hb dL_count_3 rfl (lv_at hl 1 rfl) ?_
  have hH := hH.perm (perm_o o a b h f ca ol t u hh S wr)
  refine cx_iV C0 hH hl.1 (As := [.int x1]) (rest := [.int 0, .ref o]) (eX4_count l hfl D ca a b h f (oW o ca ol ++ wr) t u hh S x1 hf) gL_count_X4_count rfl rfl rfl hd_X4_count ⟨Nat.le_of_ble_eq_true rfl, Nat.le_of_ble_eq_true rfl⟩ ⟨Nat.le_of_ble_eq_true rfl, Nat.le_of_ble_eq_true rfl⟩ (vG_X4 C0 hH) rfl (Nat.le_of_ble_eq_true rfl) dL_count_4 (fun H locs q ce hH hq hv hcl => ?_)
  have hH := hH.perm (perm_o o a b h f ca ol t9 u hh S wr).symm
  refine cat C0 htab [] ⟨0, 9, 12, 15⟩ [] rfl (fun z hz => by cases hz) (by decide) (by decide) (by decide) (by decide +kernel) hq hv hcl ?_
  refine lv_astore_n (lv' := [(3, .ref q), (0, .ref (h 2)), (1, .int x1), (2, .ref o)]) hx hb dL_count_12 rfl hl (by decide) rfl (fun ls hl => ?_)
  refine lv_iconst (v := 1) hx hb dL_count_13 (by decide) ?_
  exact hend _ _ _ _ hH dL_count_14
