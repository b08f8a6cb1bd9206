/-! THE METHODS THAT ANSWER A FLOAT: their quotient may be a NaN, whose bits the run draws. -/
def FRv (c8 c7 : Int32) : UInt32 := if c7 = 0 then FP.fconst0 else FP.fdiv (FP.i2f c8) (FP.i2f c7)
theorem EV.drawn {ca : Gp} {A : Nat → Prop} {U : State} (h : EV ca A U) (dr : Drawn) : EV ca A (U.setDrawn dr) := by
  obtain ⟨h1, h2, h3, h4, h5, h6, h7⟩ := h
  exact ⟨fun q hq => va_Nw.same (u := U) (U := U.setDrawn dr) rfl rfl (h1 q hq), ⟨fun E hE => va_Nw.same (u := U) (U := U.setDrawn dr) rfl rfl (h2.1 E hE), fun q hq => va_Nc.moved (u := U) (U := U.setDrawn dr) (Vm.Alike.refl U.vm) (h2.2.1 q hq), fun n hn => va_Nw.same (u := U) (U := U.setDrawn dr) rfl rfl (h2.2.2.1 n hn), va_AO.moved (u := U) (U := U.setDrawn dr) (Vm.Alike.refl U.vm) h2.2.2.2⟩, vx_Zq.moved (u := U) (U := U.setDrawn dr) (Vm.Alike.refl U.vm) h3, vx_Zq.moved (u := U) (U := U.setDrawn dr) (Vm.Alike.refl U.vm) h4, va_Z.moved (u := U) (U := U.setDrawn dr) (Vm.Alike.refl U.vm) h5, fun k q hq => vk_R.same (u := U) (U := U.setDrawn dr) rfl (h6 k q hq), vk_S.moved (u := U) (U := U.setDrawn dr) (Vm.Alike.refl U.vm) h7⟩
theorem Cx.drawn {p : Program} {s : State} {m : MethodId} {args : Array Value} {c : Code} {cc : ByteArray} {nL : Nat} {Ts : List Cond} {own : String} {D : va_G} {ca : Gp} {A : Nat → Prop} (h : Cx p s m args c cc nL Ts own D ca A) (dr : Drawn) : Cx p (s.setDrawn dr) m args c cc nL Ts own D ca A := by
  obtain ⟨⟨hx, hb, hml, hown, hts⟩, hK, hA, hE⟩ := h
  exact ⟨⟨hx, hb, hml, hown, dr_words hts _⟩, va_K.moved (u := s) (U := s.setDrawn dr) (Vm.Alike.refl s.vm) hK, hA, hE.drawn dr⟩
theorem HS.drawn {D : va_G} {A : Nat → Prop} {s : State} {w : va_W} {H : Heap} {locs : List Loc} (h : HS D A s w H locs) (dr : Drawn) : HS D A (s.setDrawn dr) w H locs := h
def Mf (l : Launch) (y : MethodName) (ws : List Cond) (rm : Room) (D : va_G) (ca : Gp) (av : List Value) (w w' : va_W) (P : UInt32 → Prop) : Prop := ∀ sz : Nat, MetD lw_cs l y ws rm (va_Pc av (PcM D ca w sz)) (va_Qf (fun (r : UInt32) (_ : Unit) => P r) (fun _ t => QcM D w w' sz t) (va_A w sz)) 0 0 (va_A w sz)
theorem Mf_of {l : Launch} {y : MethodName} {ws ws' : List Cond} {rm : Room} {D : va_G} {ca : Gp} {av : List Value} {w w' : va_W} {P : UInt32 → Prop} {cc : ByteArray} {nL : Nat} {own : String}
    (hy : plainName y.cls = true) (ho : y.cls = own) (hw : ws = Cond.code y cc nL (some .float) :: ws') (hlen : (lg_sl av).length ≤ nL)
    (body : ∀ (p : Program) (e : Env) (s : State) (m : MethodId) (args : Array Value) (below : List Frame) (meth : Method) (c : Code) (Q : State → Prop) (A : Nat → Prop) (ls : Array Slot), (∀ dr : Drawn, Cx p (s.setDrawn dr) m args c cc nL ws own D ca A) → s.drawn.sameBut s.drawn lw_cs → HS D A s w s.heap [] → lv_has ls nL (lv_args 0 av) →
      (∀ (r : UInt32) (dr : Drawn) (H : Heap) (locs : List Loc) (pc : Nat) (ls : Array Slot), P r → s.drawn.sameBut dr lw_cs → HS D A s w' H locs → decode cc pc = .ok (.freturn, 1) → W p l e rm (s.setDrawn dr) m args below meth c H locs 0 0 Q (F0 m pc ls [.float r])) → W p l e rm (s.setDrawn s.drawn) m args below meth c s.heap [] 0 0 Q (F0 m 0 ls [])) : Mf l y ws rm D ca av w w' P := by
  subst ho
  intro sz
  refine MetD.ofW (cc := cc) (maxL := nL) (ret := some .float) hy hw ?_
  intro p e s m args below meth c s₁ B hml hv hd0
  obtain ⟨rfl, hsz, hP, hK, hD0, hE⟩ := hv
  have hts := atoms_spec (ws := ws) B.pre
  have hown : s.vm.findClass y.cls = some m.cls := findClass_of_methodNamed B.named
  have hlocks := B.notSynchronized
  subst hsz
  have hl := lv_entry av (n := nL) hlen
  rw [lg_entry_eq]
  have C0 : Cx p s m av.toArray c cc nL ws y.cls D ca (va_A w s.heap.size) := ⟨⟨B.exec, B.bytes, hml, hown, hts⟩, hK, fun q h => Or.inr h, hE⟩
  refine body p e s m av.toArray below meth c _ (va_A w s.heap.size) _ (fun dr => C0.drawn dr) hd0 ⟨hP, hD0.self, va_S.rf⟩ hl ?_
  intro r dr H locs pc ls hr hd hH hdg
  refine W.endD hd ?_
  exact W.fret (v := r) B.exec B.bytes B.returns (fun t ht hW => ⟨⟨r, (), rfl, hr, by rw [ht]; exact hH.1, hH.2.1⟩, hH.2.2.F ht⟩) hH.2.2.2.2 hdg hlocks
theorem FRv_0 {c8 c7 : Int32} (h : c7 = 0) : alike32 FP.fconst0 (FRv c8 c7) = true := by
  unfold FRv
  rw [if_pos h]
  exact alike32_refl _
theorem FRv_1 {c8 c7 : Int32} {r : UInt32} (h : ¬ c7 = 0) (hr : alike32 r (FP.fdiv (FP.i2f c8) (FP.i2f c7)) = true) : alike32 r (FRv c8 c7) = true := by
  unfold FRv
  rw [if_neg h]
  exact hr

theorem inX4_blocksPerStripe_X4 : ∀ w ∈ wsX40, w ∈ wsX4_blocksPerStripe := by decide +kernel
theorem inX4_blocksPerStripe_X1 : ∀ w ∈ wsX10, w ∈ wsX4_blocksPerStripe := by decide +kernel
theorem inX5_blocksPerStripe_X5 : ∀ w ∈ wsX50, w ∈ wsX5_blocksPerStripe := by decide +kernel
def rmX4_blocksPerStripe : Room := { frames := 0, cells := 0, slots := 0, locals := 0 }
theorem hd_X4_blocksPerStripe : yX4_blocksPerStripe.cls = RX4 ∧ yX4_blocksPerStripe.cls ≠ "java/lang/invoke/MethodHandle" ∧ yX4_blocksPerStripe.cls ≠ "java/lang/invoke/VarHandle" ∧ (parseMethodDescriptor yX4_blocksPerStripe.desc).map (fun d => d.parameters.length) = some 0 := by decide +kernel
def rmX5_blocksPerStripe : Room := { frames := 0, cells := 0, slots := 0, locals := 0 }
theorem hd_X5_blocksPerStripe : yX5_blocksPerStripe.cls = RX5 ∧ yX5_blocksPerStripe.cls ≠ "java/lang/invoke/MethodHandle" ∧ yX5_blocksPerStripe.cls ≠ "java/lang/invoke/VarHandle" ∧ (parseMethodDescriptor yX5_blocksPerStripe.desc).map (fun d => d.parameters.length) = some 0 := by decide +kernel
set_option maxHeartbeats 4000000 in
set_option maxRecDepth 100000 in
theorem mX4_blocksPerStripe (l : Launch) (D : va_G) (ca : Gp) (a b h : Nat → Nat) (f : Nat → Nat → Nat) (wr : va_W) (t u hh : Mem) (S : Nat → Mem) : Mf l yX4_blocksPerStripe wsX4_blocksPerStripe rmX4_blocksPerStripe D ca [.ref (h 2)] (gW a b h f ca t u hh S wr) (gW a b h f ca t u hh S wr) (fun r => alike32 r (FRv (u 10 8) (u 10 7)) = true) := by
  refine Mf_of (own := RX4) (cc := cX4_blocksPerStripe) (nL := 2) (by decide) rfl rfl (Nat.le_of_ble_eq_true rfl) ?_
  intro p e s m args below meth c Q A ls C0 hd0 hH hl hend
  obtain ⟨hx, hb, hml, hown, hts⟩ := id (C0 s.drawn).1
  have hl : lv_has ls 2 [(0, .ref (h 2))] := hl
  refine lv_aload_n hx hb dX4_blocksPerStripe_0 rfl (lv_at hl 0 rfl) ?_
  refine gG_X4_now (C0 s.drawn) hH inX4_blocksPerStripe_X4 (by decide +kernel : Cond.fieldLink RX4 10 "GatheringCache" "now" "LGatheringCache$State;" ∈ wsX4_blocksPerStripe) dX4_blocksPerStripe_1 ?_
  refine gS_X1_counts (C0 s.drawn) hH.swap inX4_blocksPerStripe_X1 (by decide +kernel : Cond.fieldLink RX4 183 "GatheringCache$State" "counts" "[I" ∈ wsX4_blocksPerStripe) dX4_blocksPerStripe_4 ?_
  refine lv_bipush (v := 7) hx hb dX4_blocksPerStripe_7 (by decide) ?_
  refine lS_counts (C0 s.drawn) hH.swap (x := u 10 7) rfl dX4_blocksPerStripe_9 ?_
  refine lv_istore_n (lv' := [(1, .int (u 10 7)), (0, .ref (h 2))]) hx hb dX4_blocksPerStripe_10 rfl hl (by decide) rfl (fun ls hl => ?_)
  refine lv_iload_n hx hb dX4_blocksPerStripe_11 rfl (lv_at hl 0 rfl) ?_
  refine lv_if_ne (tgt := 17) hx hb dX4_blocksPerStripe_12 (by decide) (fun c1 => ?_) (fun c1 => ?_)
  · refine lv_aload_n hx hb dX4_blocksPerStripe_17 rfl (lv_at hl 1 rfl) ?_
    refine gG_X4_now (C0 s.drawn) hH inX4_blocksPerStripe_X4 (by decide +kernel : Cond.fieldLink RX4 10 "GatheringCache" "now" "LGatheringCache$State;" ∈ wsX4_blocksPerStripe) dX4_blocksPerStripe_18 ?_
    refine gS_X1_counts (C0 s.drawn) hH.swap inX4_blocksPerStripe_X1 (by decide +kernel : Cond.fieldLink RX4 183 "GatheringCache$State" "counts" "[I" ∈ wsX4_blocksPerStripe) dX4_blocksPerStripe_21 ?_
    refine lv_bipush (v := 8) hx hb dX4_blocksPerStripe_24 (by decide) ?_
    refine lS_counts (C0 s.drawn) hH.swap (x := u 10 8) rfl dX4_blocksPerStripe_26 ?_
    refine lv_i2f hx hb dX4_blocksPerStripe_27 ?_
    refine lv_iload_n hx hb dX4_blocksPerStripe_28 rfl (lv_at hl 0 rfl) ?_
    refine lv_i2f hx hb dX4_blocksPerStripe_29 ?_
    refine lv_fdiv_any hd0 lw_bits hx hb dX4_blocksPerStripe_30 (fun r d1 hal hd1 => ?_)
    exact hend r d1 _ _ _ _ (FRv_1 c1 hal) hd1 hH dX4_blocksPerStripe_31
  · refine lv_fconst0 hx hb dX4_blocksPerStripe_15 ?_
    exact hend _ s.drawn _ _ _ _ (FRv_0 c1) hd0 hH dX4_blocksPerStripe_16
set_option maxHeartbeats 4000000 in
set_option maxRecDepth 100000 in
theorem mX5_blocksPerStripe (l : Launch) (D : va_G) (ca : Gp) (a : Nat → Nat) (wr : va_W) (u : Mem) : Mf l yX5_blocksPerStripe wsX5_blocksPerStripe rmX5_blocksPerStripe D ca [.ref (a 0)] (mW a ca u ++ wr) (mW a ca (mset u 0 0 0) ++ wr) (fun r => alike32 r (FRv (u 1 14) (u 1 13)) = true) := by
  refine Mf_of (own := RX5) (cc := cX5_blocksPerStripe) (nL := 1) (by decide) rfl rfl (Nat.le_of_ble_eq_true rfl) ?_
  intro p e s m args below meth c Q A ls C0 hd0 hH hl hend
  obtain ⟨hx, hb, hml, hown, hts⟩ := id (C0 s.drawn).1
  have hl : lv_has ls 1 [(0, .ref (a 0))] := hl
  refine lv_aload_n hx hb dX5_blocksPerStripe_0 rfl (lv_at hl 0 rfl) ?_
  refine lv_iconst (v := 0) hx hb dX5_blocksPerStripe_1 (by decide) ?_
  refine pM_X5_thrown (C0 s.drawn) hH inX5_blocksPerStripe_X5 (u1 := mset u 0 0 0) rfl (by decide +kernel : Cond.fieldLink RX5 16 "GatheringCacheModel" "thrown" "I" ∈ wsX5_blocksPerStripe) dX5_blocksPerStripe_2 (fun H locs hH => ?_)
  have hH : HS D A s (mW a ca (mset u 0 0 0) ++ wr) H locs := hH
  refine lv_aload_n hx hb dX5_blocksPerStripe_5 rfl (lv_at hl 0 rfl) ?_
  refine gM_X5_s (C0 s.drawn) hH inX5_blocksPerStripe_X5 (by decide +kernel : Cond.fieldLink RX5 7 "GatheringCacheModel" "s" "[I" ∈ wsX5_blocksPerStripe) dX5_blocksPerStripe_6 ?_
  refine lv_bipush (v := 13) hx hb dX5_blocksPerStripe_9 (by decide) ?_
  refine lM_s (C0 s.drawn) hH (x := u 1 13) rfl dX5_blocksPerStripe_11 ?_
  refine lv_if_ne (tgt := 19) hx hb dX5_blocksPerStripe_12 (by decide) (fun c1 => ?_) (fun c1 => ?_)
  · refine lv_aload_n hx hb dX5_blocksPerStripe_19 rfl (lv_at hl 0 rfl) ?_
    refine gM_X5_s (C0 s.drawn) hH inX5_blocksPerStripe_X5 (by decide +kernel : Cond.fieldLink RX5 7 "GatheringCacheModel" "s" "[I" ∈ wsX5_blocksPerStripe) dX5_blocksPerStripe_20 ?_
    refine lv_bipush (v := 14) hx hb dX5_blocksPerStripe_23 (by decide) ?_
    refine lM_s (C0 s.drawn) hH (x := u 1 14) rfl dX5_blocksPerStripe_25 ?_
    refine lv_i2f hx hb dX5_blocksPerStripe_26 ?_
    refine lv_aload_n hx hb dX5_blocksPerStripe_27 rfl (lv_at hl 0 rfl) ?_
    refine gM_X5_s (C0 s.drawn) hH inX5_blocksPerStripe_X5 (by decide +kernel : Cond.fieldLink RX5 7 "GatheringCacheModel" "s" "[I" ∈ wsX5_blocksPerStripe) dX5_blocksPerStripe_28 ?_
    refine lv_bipush (v := 13) hx hb dX5_blocksPerStripe_31 (by decide) ?_
    refine lM_s (C0 s.drawn) hH (x := u 1 13) rfl dX5_blocksPerStripe_33 ?_
    refine lv_i2f hx hb dX5_blocksPerStripe_34 ?_
    refine lv_fdiv_any hd0 lw_bits hx hb dX5_blocksPerStripe_35 (fun r d1 hal hd1 => ?_)
    exact hend r d1 _ _ _ _ (FRv_1 c1 hal) hd1 hH dX5_blocksPerStripe_36
  · refine lv_fconst0 hx hb dX5_blocksPerStripe_15 ?_
    refine lv_goto (tgt := 36) hx hb dX5_blocksPerStripe_16 (by decide) ?_
    exact hend _ s.drawn _ _ _ _ (FRv_0 c1) hd0 hH dX5_blocksPerStripe_36
/-- two floats alike the same one, widened: the same, or both no numbers -/
theorem nan64_val {x : UInt64} (h : isNaN64 x = true) : FP.Core.val64 x = .nan := by
  refine (FP.Core.dIsNaN_iff x).mp ?_
  rw [FP.Core.isNaN_bits]
  have h := isNaN64_iff.mp h
  rw [show (0x7fffffffffffffff : Nat) = 2 ^ 63 - 1 from rfl, Nat.and_two_pow_sub_one_eq_mod] at h
  exact h
theorem val_nan64 {x : UInt64} (h : FP.Core.val64 x = .nan) : isNaN64 x = true := by
  refine isNaN64_iff.mpr ?_
  rw [show (0x7fffffffffffffff : Nat) = 2 ^ 63 - 1 from rfl, Nat.and_two_pow_sub_one_eq_mod]
  exact (FP.Core.isNaN_bits x).mp ((FP.Core.dIsNaN_iff x).mpr h)
theorem nan32_val {x : UInt32} (h : isNaN32 x = true) : FP.Core.fIsNaN x = true := by
  rw [FP.Core.isNaN_bits32]
  have h := isNaN32_iff.mp h
  rw [show (0x7fffffff : Nat) = 2 ^ 31 - 1 from rfl, Nat.and_two_pow_sub_one_eq_mod] at h
  exact h
theorem f2d_nan64 {x : UInt32} (h : isNaN32 x = true) : isNaN64 (FP.f2d x) = true := by
  refine val_nan64 ((FP.Core.dIsNaN_iff _).mp ?_)
  have h1 := FP.f2d_nan x
  rw [show FP.fIsNaN x = true from nan32_val h] at h1
  exact h1
theorem alike_two {r1 r2 V : UInt32} {p q : UInt64} (h1 : alike32 r1 V = true) (h2 : alike32 r2 V = true) (hp : alike64 p (FP.f2d r1) = true) (hq : alike64 q (FP.f2d r2) = true) : p = q ∨ (isNaN64 p = true ∧ isNaN64 q = true) := by
  unfold alike32 at h1 h2
  unfold alike64 at hp hq
  simp only [Bool.or_eq_true, decide_eq_true_eq, Bool.and_eq_true] at h1 h2 hp hq
  have key : ∀ {r : UInt32} {z : UInt64}, isNaN32 r = true → (z = FP.f2d r ∨ isNaN64 z = true ∧ isNaN64 (FP.f2d r) = true) → isNaN64 z = true := by
    intro r z hr hz
    rcases hz with rfl | hz
    · exact f2d_nan64 hr
    · exact hz.1
  by_cases hn : isNaN32 V = true
  · have n1 : isNaN32 r1 = true := by
      rcases h1 with rfl | h1
      · exact hn
      · exact h1.1
    have n2 : isNaN32 r2 = true := by
      rcases h2 with rfl | h2
      · exact hn
      · exact h2.1
    exact Or.inr ⟨key n1 hp, key n2 hq⟩
  · have e1 : r1 = V := by
      rcases h1 with h1 | h1
      · exact h1
      · exact absurd h1.2 hn
    have e2 : r2 = V := by
      rcases h2 with h2 | h2
      · exact h2
      · exact absurd h2.2 hn
    subst e1
    subst e2
    rcases hp with rfl | hp
    · rcases hq with rfl | hq
      · exact Or.inl rfl
      · exact Or.inr ⟨hq.2, hq.1⟩
    · rcases hq with rfl | hq
      · exact Or.inr ⟨hp.1, hp.2⟩
      · exact Or.inr ⟨hp.1, hq.1⟩
theorem cmp_nan {p q : UInt64} (h : isNaN64 p = true) : Op.cmpValue (FP.dcmp p q) CmpOp.l = -1 := by
  rw [show FP.dcmp p q = none from (FP.Core.dcmp_none p q).mpr (Or.inl (nan64_val h))]
  rfl
theorem cmp_self {p : UInt64} (h : ¬ isNaN64 p = true) : Op.cmpValue (FP.dcmp p p) CmpOp.l = 0 := by
  rw [show FP.dcmp p p = some .eq from FP.Core.dcmp_self (fun e => h (val_nan64 e))]
  rfl
