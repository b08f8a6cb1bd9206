/-! THE METHODS THAT ANSWER A FLOAT: their quotient may be a NaN, whose bits the run draws. -/
def FRv (c8 c7 : Int32) : UInt32 := if c7 = 0 then FP.fconst0 else FP.fdiv (FP.i2f c8) (FP.i2f c7)
theorem Cx.drawn {p : Program} {s : State} {m : MethodId} {args : Array Value} {c : Code} {cc : ByteArray} {nL : Nat} {Ts : List Cond} {own : String} {D : va_G} {ca : Gp} {A : Nat → Prop} (h : Cx p s m args c cc nL Ts own D ca A) (dr : Drawn) : Cx p (s.setDrawn dr) m args c cc nL Ts own D ca A := by
  obtain ⟨⟨hx, hb, hml, hown, hts⟩, hK, hA, hE⟩ := h
  exact ⟨⟨hx, hb, hml, hown, dr_words hts _⟩, va_K.moved (u := s) (U := s.setDrawn dr) (Vm.Alike.refl s.vm) hK, hA, hE.drawn dr⟩
theorem HS.drawn {D : va_G} {A : Nat → Prop} {s : State} {w : va_W} {H : Heap} {locs : List Loc} (h : HS D A s w H locs) (dr : Drawn) : HS D A (s.setDrawn dr) w H locs := h
def Mf (l : Launch) (y : MethodName) (ws : List Cond) (rm : Room) (D : va_G) (ca : Gp) (av : List Value) (w w' : va_W) (P : UInt32 → Prop) : Prop := ∀ sz : Nat, MetD lw_cs l y ws rm (va_Pc av (PcM D ca w sz)) (va_Qf (fun (r : UInt32) (_ : Unit) => P r) (fun _ t => QcM D w w' sz t) (va_A w sz)) 0 0 (va_A w sz)
theorem Mf_of {l : Launch} {y : MethodName} {ws ws' : List Cond} {rm : Room} {D : va_G} {ca : Gp} {av : List Value} {w w' : va_W} {P : UInt32 → Prop} {cc : ByteArray} {nL : Nat} {own : String}
    (hy : plainName y.cls = true) (ho : y.cls = own) (hw : ws = Cond.code y cc nL (some .float) :: ws') (hlen : (lg_sl av).length ≤ nL)
    (body : ∀ (p : Program) (e : Env) (s : State) (m : MethodId) (args : Array Value) (below : List Frame) (meth : Method) (c : Code) (Q : State → Prop) (A : Nat → Prop) (ls : Array Slot), (∀ dr : Drawn, Cx p (s.setDrawn dr) m args c cc nL ws own D ca A) → s.drawn.sameBut s.drawn lw_cs → HS D A s w s.heap [] → lv_has ls nL (lv_args 0 av) →
      (∀ (r : UInt32) (dr : Drawn) (H : Heap) (locs : List Loc) (pc : Nat) (ls : Array Slot), P r → s.drawn.sameBut dr lw_cs → HS D A s w' H locs → decode cc pc = .ok (.freturn, 1) → W p l e rm (s.setDrawn dr) m args below meth c H locs 0 0 Q (F0 m pc ls [.float r])) → W p l e rm (s.setDrawn s.drawn) m args below meth c s.heap [] 0 0 Q (F0 m 0 ls [])) : Mf l y ws rm D ca av w w' P := by
  subst ho
  intro sz
  refine MetD.ofW (cc := cc) (maxL := nL) (ret := some .float) hy hw ?_
  intro p e s m args below meth c s₁ B hml hv hd0
  obtain ⟨rfl, hsz, hP, hK, hD0, hE⟩ := hv
  have hts := atoms_spec (ws := ws) B.pre
  have hown : s.vm.findClass y.cls = some m.cls := findClass_of_methodNamed B.named
  have hlocks := B.notSynchronized
  subst hsz
  have hl := lv_entry av (n := nL) hlen
  rw [lg_entry_eq]
  have C0 : Cx p s m av.toArray c cc nL ws y.cls D ca (va_A w s.heap.size) := ⟨⟨B.exec, B.bytes, hml, hown, hts⟩, hK, fun q h => Or.inr h, hE⟩
  refine body p e s m av.toArray below meth c _ (va_A w s.heap.size) _ (fun dr => C0.drawn dr) hd0 ⟨hP, hD0.self, va_S.rf⟩ hl ?_
  intro r dr H locs pc ls hr hd hH hdg
  refine W.endD hd ?_
  exact W.fret (v := r) B.exec B.bytes B.returns (fun t ht hW => ⟨⟨r, (), rfl, hr, by rw [ht]; exact hH.1, hH.2.1⟩, hH.2.2.F ht⟩) hH.2.2.2.2 hdg hlocks
theorem FRv_0 {c8 c7 : Int32} (h : c7 = 0) : alike32 FP.fconst0 (FRv c8 c7) = true := by
  unfold FRv
  rw [if_pos h]
  exact alike32_refl _
theorem FRv_1 {c8 c7 : Int32} {r : UInt32} (h : ¬ c7 = 0) (hr : alike32 r (FP.fdiv (FP.i2f c8) (FP.i2f c7)) = true) : alike32 r (FRv c8 c7) = true := by
  unfold FRv
  rw [if_neg h]
  exact hr

theorem inX4_blocksPerStripe_X4 : ∀ w ∈ wsX40, w ∈ wsX4_blocksPerStripe := by decide +kernel
theorem inX4_blocksPerStripe_X1 : ∀ w ∈ wsX10, w ∈ wsX4_blocksPerStripe := by decide +kernel
def rmX4_blocksPerStripe : Room := { frames := 0, cells := 0, slots := 0, locals := 0 }
theorem hd_X4_blocksPerStripe : yX4_blocksPerStripe.cls = RX4 ∧ yX4_blocksPerStripe.cls ≠ "java/lang/invoke/MethodHandle" ∧ yX4_blocksPerStripe.cls ≠ "java/lang/invoke/VarHandle" ∧ (parseMethodDescriptor yX4_blocksPerStripe.desc).map (fun d => d.parameters.length) = some 0 := by decide +kernel
set_option maxHeartbeats 4000000 in
set_option maxRecDepth 100000 in
theorem mX4_blocksPerStripe (l : Launch) (D : va_G) (ca : Gp) (a b h : Nat → Nat) (f : Nat → Nat → Nat) (wr : va_W) (t u hh : Mem) (S : Nat → Mem) : Mf l yX4_blocksPerStripe wsX4_blocksPerStripe rmX4_blocksPerStripe D ca [.ref (h 2)] (gW a b h f ca t u hh S wr) (gW a b h f ca t u hh S wr) (fun r => alike32 r (FRv (u 10 8) (u 10 7)) = true) := by
  refine Mf_of (own := RX4) (cc := cX4_blocksPerStripe) (nL := 2) (by decide) rfl rfl (Nat.le_of_ble_eq_true rfl) ?_
  intro p e s m args below meth c Q A ls C0 hd0 hH hl hend
  obtain ⟨hx, hb, hml, hown, hts⟩ := id (C0 s.drawn).1
  have hl : lv_has ls 2 [(0, .ref (h 2))] := hl
  refine lv_aload_n hx hb dX4_blocksPerStripe_0 rfl (lv_at hl 0 rfl) ?_
  refine gG_X4_now (C0 s.drawn) hH inX4_blocksPerStripe_X4 (by decide +kernel : Cond.fieldLink RX4 10 "GatheringCache" "now" "LGatheringCache$State;" ∈ wsX4_blocksPerStripe) dX4_blocksPerStripe_1 ?_
  refine gS_X1_counts (C0 s.drawn) hH.swap inX4_blocksPerStripe_X1 (by decide +kernel : Cond.fieldLink RX4 183 "GatheringCache$State" "counts" "[I" ∈ wsX4_blocksPerStripe) dX4_blocksPerStripe_4 ?_
  refine lv_bipush (v := 7) hx hb dX4_blocksPerStripe_7 (by decide) ?_
  refine lS_counts (C0 s.drawn) hH.swap (x := u 10 7) rfl dX4_blocksPerStripe_9 ?_
  refine lv_istore_n (lv' := [(1, .int (u 10 7)), (0, .ref (h 2))]) hx hb dX4_blocksPerStripe_10 rfl hl (by decide) rfl (fun ls hl => ?_)
  refine lv_iload_n hx hb dX4_blocksPerStripe_11 rfl (lv_at hl 0 rfl) ?_
  refine lv_if_ne (tgt := 17) hx hb dX4_blocksPerStripe_12 (by decide) (fun c1 => ?_) (fun c1 => ?_)
  · refine lv_aload_n hx hb dX4_blocksPerStripe_17 rfl (lv_at hl 1 rfl) ?_
    refine gG_X4_now (C0 s.drawn) hH inX4_blocksPerStripe_X4 (by decide +kernel : Cond.fieldLink RX4 10 "GatheringCache" "now" "LGatheringCache$State;" ∈ wsX4_blocksPerStripe) dX4_blocksPerStripe_18 ?_
    refine gS_X1_counts (C0 s.drawn) hH.swap inX4_blocksPerStripe_X1 (by decide +kernel : Cond.fieldLink RX4 183 "GatheringCache$State" "counts" "[I" ∈ wsX4_blocksPerStripe) dX4_blocksPerStripe_21 ?_
    refine lv_bipush (v := 8) hx hb dX4_blocksPerStripe_24 (by decide) ?_
    refine lS_counts (C0 s.drawn) hH.swap (x := u 10 8) rfl dX4_blocksPerStripe_26 ?_
    refine lv_i2f hx hb dX4_blocksPerStripe_27 ?_
    refine lv_iload_n hx hb dX4_blocksPerStripe_28 rfl (lv_at hl 0 rfl) ?_
    refine lv_i2f hx hb dX4_blocksPerStripe_29 ?_
    refine lv_fdiv_any hd0 lw_bits hx hb dX4_blocksPerStripe_30 (fun r d1 hal hd1 => ?_)
    exact hend r d1 _ _ _ _ (FRv_1 c1 hal) hd1 hH dX4_blocksPerStripe_31
  · refine lv_fconst0 hx hb dX4_blocksPerStripe_15 ?_
    exact hend _ s.drawn _ _ _ _ (FRv_0 c1) hd0 hH dX4_blocksPerStripe_16
