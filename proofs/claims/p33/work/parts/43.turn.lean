/-! ONE TURN OF THE LAW'S LOOP, AND THE LOOP. -/
abbrev GL : Type := Mem × Mem × Mem × (Nat → Mem) × (Nat → Int32)
/-- nothing but what the rows hold -/
def wid (k : Nat) : Nat := if k = 0 then 4 else if k = 6 then 2 else if k < 6 then 12 else if k < 10 then 64 else if k = 10 then 9 else 0
def cn (u : Mem) : Mem := fun k i => if i < wid k then u k i else 0
theorem vp_cong {c : ClassId} {n : Nat} {f g : Nat → Int32} (h : ∀ i, i < n → f i = g i) : vp_cell c (n, .inl f) = vp_cell c (n, .inl g) := by
  rw [vp_cell_i, vp_cell_i]
  unfold arrV
  have e : (fun j : Fin n => Value.int (f j.val)) = fun j : Fin n => Value.int (g j.val) := funext fun j => by rw [h j.val j.isLt]
  rw [e]
theorem at_cong {D : va_G} {cl : List vw_C} {q : Nat} {c : ClassId} {n : Nat} {f g : Nat → Int32} {H : Heap} (h : ∀ i, i < n → f i = g i) (hP : va_at D cl (q, .inl (c, n, .inl f)) H) : va_at D cl (q, .inl (c, n, .inl g)) H := by
  unfold va_at at hP ⊢
  dsimp only at hP ⊢
  rw [← vp_cong h]
  exact hP
theorem cn_at {u : Mem} {k i : Nat} (h : i < wid k) : cn u k i = u k i := by
  unfold cn
  rw [if_pos h]
theorem sW_cn {D : va_G} {cl : List vw_C} {a : Nat → Nat} {ca : Gp} {u : Mem} {H : Heap} (h : ∀ q ∈ sW a ca u, va_at D cl q H) : ∀ q ∈ sW a ca (cn u), va_at D cl q H := by
  unfold sW at h ⊢
  simp only [List.forall_mem_cons] at h ⊢
  obtain ⟨h0, h1, h2, h3, h4, h5, h6, h7, h8, h9, h10, h11⟩ := h
  refine ⟨?_, at_cong (fun i hi => (cn_at (k := 1) hi).symm) h1, at_cong (fun i hi => (cn_at (k := 2) hi).symm) h2, at_cong (fun i hi => (cn_at (k := 3) hi).symm) h3, at_cong (fun i hi => (cn_at (k := 4) hi).symm) h4, at_cong (fun i hi => (cn_at (k := 5) hi).symm) h5, ?_, at_cong (fun i hi => (cn_at (k := 7) hi).symm) h7, at_cong (fun i hi => (cn_at (k := 8) hi).symm) h8, at_cong (fun i hi => (cn_at (k := 9) hi).symm) h9, at_cong (fun i hi => (cn_at (k := 10) hi).symm) h10, h11⟩
  · exact h0
  · exact h6
theorem fst_cn {a : Nat → Nat} {ca : Gp} {u : Mem} : (sW a ca (cn u)).map Prod.fst = (sW a ca u).map Prod.fst := rfl
theorem HS_cn {D : va_G} {A : Nat → Prop} {s : State} {H : Heap} {locs : List Loc} {a b h : Nat → Nat} {f : Nat → Nat → Nat} {ca : Gp} {t u hh : Mem} {S : Nat → Mem} {wr : va_W} (hH : HS D A s (gW a b h f ca t u hh S wr) H locs) : HS D A s (gW a b h f ca t (cn u) hh S wr) H locs := by
  have hH := hH.swap
  obtain ⟨h1, h2, h3⟩ := hH
  have h1 := va_P_mem.mp h1
  obtain ⟨h4, h5⟩ := va_D_pw.mp h2
  have hf : (sW a ca (cn u) ++ (tW b ca t ++ hW a b h f ca hh S wr)).map Prod.fst = (sW a ca u ++ (tW b ca t ++ hW a b h f ca hh S wr)).map Prod.fst := by
    simp only [List.map_append, fst_cn]
  have g : HS D A s (sW a ca (cn u) ++ (tW b ca t ++ hW a b h f ca hh S wr)) H locs := by
    refine ⟨va_P_mem.mpr fun q hq => ?_, va_D_pw.mpr ⟨?_, fun q hq => ?_⟩, h3⟩
    · rcases List.mem_append.mp hq with hq | hq
      · exact sW_cn (fun q hq => h1 q (List.mem_append_left _ hq)) q hq
      · exact h1 q (List.mem_append_right _ hq)
    · have h6 : ((sW a ca u ++ (tW b ca t ++ hW a b h f ca hh S wr)).map Prod.fst).Pairwise (fun x y => x ≠ y) := List.pairwise_map.mpr h4
      rw [← hf] at h6
      exact List.pairwise_map.mp h6
    · have hm : q.1 ∈ (sW a ca (cn u) ++ (tW b ca t ++ hW a b h f ca hh S wr)).map Prod.fst := List.mem_map.mpr ⟨q, hq, rfl⟩
      rw [hf] at hm
      obtain ⟨q2, hq2, e2⟩ := List.mem_map.mp hm
      rw [← e2]
      exact h5 q2 hq2
  exact g.swap
def pcell (L : Nat) (xs : Nat → Int32) (k : Int32) : Option Int32 := if nI L ≤ k then some (1812433253 * (k + 283)) else if inB k L = true then some (xs k.toNatClampNeg) else none
def rmL_cell : Room := { frames := 0, cells := 0, slots := 0, locals := 0 }
theorem hd_L_cell : yL_cell.cls ≠ "java/lang/invoke/MethodHandle" ∧ yL_cell.cls ≠ "java/lang/invoke/VarHandle" ∧ (parseMethodDescriptor yL_cell.desc).map (fun d => d.parameters.length) = some 2 := by decide +kernel
def PcX (D : va_G) (ca : Gp) (w : va_W) (b0 L : Nat) (xs : Nat → Int32) (sz : Nat) : State → Prop := fun U => PcM D ca w sz U ∧ va_X b0 L xs U U.heap ∧ b0 < U.heap.size ∧ ¬ va_A w sz b0
theorem PcX_blind {D : va_G} {ca : Gp} {w : va_W} {b0 L : Nat} {xs : Nat → Int32} {sz : Nat} {av : List Value} : FrameBlind (va_Pc av (PcX D ca w b0 L xs sz)) := by
  intro a U g mk h
  obtain ⟨q0, hm, hx⟩ := h
  have q1 := PcM_blind (av := av) a U g mk ⟨q0, hm⟩
  exact ⟨q0, q1.2, va_X.moved (u := U) (U := U.calling g mk a) (Vm.Alike.refl U.vm) hx.1, hx.2⟩
set_option maxHeartbeats 4000000 in
theorem mL_cell (l : Launch) (D : va_G) (ca : Gp) (w : va_W) (b0 L : Nat) (xs : Nat → Int32) (x1 : Int32) {r : Int32} (hf : pcell L xs x1 = some r) (sz : Nat) : Met l yL_cell wsL_cell rmL_cell (va_Pc [.ref b0, .int x1] (PcX D ca w b0 L xs sz)) (va_Qi (fun (r' : Int32) (_ : Unit) => r' = r) (fun _ t => QcM D w w sz t) (va_A w sz)) 0 0 (va_A w sz) := by
  refine Met.ofW (cc := cL_cell) (maxL := 2) (ret := some .int) (by decide) rfl ?_
  intro p e s m args below meth c s₁ B hml hv
  obtain ⟨rfl, ⟨hsz, hP, hK, hD0, hE⟩, hX, hbl, hbA⟩ := hv
  have hts := atoms_spec (ws := wsL_cell) B.pre
  have hown : s.vm.findClass RL = some m.cls := findClass_of_methodNamed B.named
  have hlocks := B.notSynchronized
  have hx := B.exec
  have hb := B.bytes
  subst hsz
  have hl := lv_entry [.ref b0, .int x1] (n := 2) (Nat.le_of_ble_eq_true rfl)
  rw [lg_entry_eq]
  have hH : HS D (va_A w s.heap.size) s w s.heap [] := ⟨hP, hD0.self, va_S.rf⟩
  generalize (lg_sl ([.ref b0, .int x1]) ++ List.replicate (2 - (lg_sl ([.ref b0, .int x1])).length) Slot.unset).toArray = ls at hl ⊢
  have hl : lv_has ls 2 [(0, .ref b0), (1, .int x1)] := hl
  have hend : ∀ (ls : Array Slot), W p l e rmL_cell s m #[Value.ref b0, Value.int x1] below meth c s.heap [] 0 0 (MQ below (va_Qi (fun (r' : Int32) (_ : Unit) => r' = r) (fun _ t => QcM D w w s.heap.size t) (va_A w s.heap.size)) #[Value.ref b0, Value.int x1] s 0 0 (va_A w s.heap.size)) (F0 m 20 ls [.int r]) := fun ls => W.zret (v := r) B.exec B.bytes B.returns rfl (fun t ht hW => ⟨⟨r, (), rfl, rfl, by rw [ht]; exact hH.1, hH.2.1⟩, hH.2.2.F ht⟩) hH.2.2.2.2 dL_cell_20 hlocks
  unfold pcell at hf
  refine lv_iload_n hx hb dL_cell_0 rfl (lv_at hl 1 rfl) ?_
  refine lv_aload_n hx hb dL_cell_1 rfl (lv_at hl 0 rfl) ?_
  refine va_slen hx hb hX hbl hbA hH.2.2 dL_cell_2 ?_
  refine lv_icmp_ge (tgt := 12) hx hb dL_cell_3 (by decide) (fun c1 => ?_) (fun c1 => ?_)
  · rw [if_pos (show nI L ≤ x1 from c1)] at hf
    obtain rfl := Option.some.inj hf
    refine lv_ldc (own := RL) (v := 1812433253) hx hb hown (hts (.constant RL 7 (1812433253)) (by decide +kernel)) dL_cell_12 ?_
    refine lv_iload_n hx hb dL_cell_14 rfl (lv_at hl 1 rfl) ?_
    refine lv_sipush (v := 283) hx hb dL_cell_15 (by decide) ?_
    refine lv_iadd hx hb dL_cell_18 ?_
    refine lv_imul hx hb dL_cell_19 ?_
    exact hend ls
  · rw [if_neg (show ¬ nI L ≤ x1 from c1)] at hf
    obtain ⟨hi, hf⟩ := gd hf
    obtain rfl := Option.some.inj hf
    refine lv_aload_n hx hb dL_cell_6 rfl (lv_at hl 0 rfl) ?_
    refine lv_iload_n hx hb dL_cell_7 rfl (lv_at hl 1 rfl) ?_
    refine va_sld hx hb hX hbl hbA hH.2.2 (inB_in hi) dL_cell_8 ?_
    refine lv_goto (tgt := 20) hx hb dL_cell_9 (by decide) ?_
    exact hend ls
section LROWS
variable {p : Program} {l : Launch} {e : Env} {R : Room} {s : State} {m : MethodId} {args : Array Value} {below : List Frame} {meth : Method} {c : Code} {H : Heap} {locs : List Loc} {cells slots : Nat} {Q : State → Prop} {cc : ByteArray} {pc nL : Nat} {ls : Array Slot} {rest st0 : List Value} {D : va_G} {ca : Gp} {A : Nat → Prop} {Ts : List Cond} {own : String} {w w' : va_W}
theorem cl_cell (C0 : Cx p s m args c cc nL Ts own D ca A) (hH : HS D A s w H locs) (hl : ls.size = nL) {b0 L index : Nat} {xs : Nat → Int32} {x1 r : Int32} (hX : va_X b0 L xs s s.heap) (hbl : b0 < s.heap.size) (hbA : ¬ A b0) (hf : pcell L xs x1 = some r)
    (hG : GoodIn Ts (va_wsS own index yL_cell wsL_cell)) (hR : rmL_cell.frames + 1 ≤ R.frames ∧ 8 + (2 + 11) + rmL_cell.locals ≤ R.locals) (hroom : cells ≤ R.cells ∧ slots ≤ R.slots)
    (hcat : (rest.map fun v => v.category).sum ≤ 8) (hdg : decode cc pc = .ok (.invokestatic index, 3))
    (kk : ∀ (H1 : Heap) (locs1 : List Loc), HS D A s w H1 locs1 → W p l e R s m args below meth c H1 locs1 cells slots Q (F0 m (pc + 3) ls (.int r :: rest))) : W p l e R s m args below meth c H locs cells slots Q (F0 m pc ls (.int x1 :: .ref b0 :: rest)) := by
  obtain ⟨hx, hb, hml, hown, hts⟩ := C0.1
  have hXH : va_X b0 L xs s H := hX.kept (hH.2.2.2.1 b0 hbl hbA)
  have hbH : b0 < H.size := Nat.lt_of_lt_of_le hbl hH.2.2.1
  refine va_calli (va_runS (As := [.ref b0, .int x1]) (rest := rest) ⟨hx, hb, hml, hown, hts⟩ (mL_cell l D ca w b0 L xs x1 hf H.size) (va_cwS 2 hts hG rfl rfl rfl hd_L_cell hR) ⟨PcX_blind, fun U hU hW => ⟨rfl, PcM_at C0 hH U hU hW, by rw [hU]; exact va_X.moved hW.alike hXH, by rw [hU]; exact hbH, fun q => hbA (hH.free C0 b0 q)⟩⟩ rfl rfl hl rfl (lv_room hcat) hdg ⟨hroom.1, hroom.2⟩) hH.2.2 (fun q _ h => hH.free C0 q h) (hH.free C0) (fun r1 u t H1 locs1 ht hvm hw hB hz1 hk1 hS => ?_)
  subst hw
  exact kk H1 locs1 (hH.back C0 ht hB hS)
theorem cl_lS {y : MethodName} {bytes : ByteArray} {maxL index : Nat} {ret : Option FieldType} {ws ws' : List Cond} {rm : Room} {As : List Value} {r : Int64}
    (C0 : Cx p s m args c cc nL Ts own D ca A) (hH : HS D A s w H locs) (hl : ls.size = nL) (hM : Ml l y ws rm D ca As w w' r)
    (hG : GoodIn Ts (va_wsS own index y ws)) (hw : ws = Cond.code y bytes maxL ret :: ws') (hrc : rm.cells = 0) (hrs : rm.slots = 0)
    (hd : y.cls ≠ "java/lang/invoke/MethodHandle" ∧ y.cls ≠ "java/lang/invoke/VarHandle" ∧ (parseMethodDescriptor y.desc).map (fun d => d.parameters.length) = some As.length) (hR : rm.frames + 1 ≤ R.frames ∧ 8 + (maxL + 11) + rm.locals ≤ R.locals) (hf : cells ≤ R.cells ∧ slots ≤ R.slots)
    (hst : st0 = As.reverse ++ rest) (hcat : (rest.map fun v => v.category).sum ≤ 8) (hdg : decode cc pc = .ok (.invokestatic index, 3))
    (kk : ∀ (H1 : Heap) (locs1 : List Loc), HS D A s w' H1 locs1 → W p l e R s m args below meth c H1 locs1 cells slots Q (F0 m (pc + 3) ls (.long r :: rest))) : W p l e R s m args below meth c H locs cells slots Q (F0 m pc ls st0) := by
  obtain ⟨hx, hb, hml, hown, hts⟩ := C0.1
  refine va_calll (va_runS (As := As) (rest := rest) ⟨hx, hb, hml, hown, hts⟩ (hM H.size) (va_cwS As.length hts hG hw hrc hrs hd hR) ⟨PcM_blind, fun U hU hW => ⟨rfl, PcM_at C0 hH U hU hW⟩⟩ rfl rfl hl hst (lv_room hcat) hdg ⟨hf.1, hf.2⟩) hH.2.2 (fun q _ h => hH.free C0 q h) (hH.free C0) (fun r1 u t H1 locs1 ht hvm hw hB hz1 hk1 hS => ?_)
  subst hw
  exact kk H1 locs1 (hH.back C0 ht hB hS)
/-- a call of a method that may draw -/
theorem cl_iSD {y : MethodName} {bytes : ByteArray} {maxL index : Nat} {ret : Option FieldType} {ws ws' : List Cond} {rm : Room} {As : List Value} {r : Int32} {d0 : Drawn}
    (hd0 : s.drawn.sameBut d0 lw_cs) (C0 : Cx p s m args c cc nL Ts own D ca A) (hH : HS D A s w H locs) (hl : ls.size = nL) (hM : MiD l y ws rm D ca As w w' r)
    (hG : GoodIn Ts (va_wsS own index y ws)) (hw : ws = Cond.code y bytes maxL ret :: ws') (hrc : rm.cells = 0) (hrs : rm.slots = 0)
    (hd : y.cls ≠ "java/lang/invoke/MethodHandle" ∧ y.cls ≠ "java/lang/invoke/VarHandle" ∧ (parseMethodDescriptor y.desc).map (fun d => d.parameters.length) = some As.length) (hR : rm.frames + 1 ≤ R.frames ∧ 8 + (maxL + 11) + rm.locals ≤ R.locals) (hf : cells ≤ R.cells ∧ slots ≤ R.slots)
    (hst : st0 = As.reverse ++ rest) (hcat : (rest.map fun v => v.category).sum ≤ 8) (hdg : decode cc pc = .ok (.invokestatic index, 3))
    (kk : ∀ (d1 : Drawn) (H1 : Heap) (locs1 : List Loc), s.drawn.sameBut d1 lw_cs → HS D A s w' H1 locs1 → W p l e R (s.setDrawn d1) m args below meth c H1 locs1 cells slots Q (F0 m (pc + 3) ls (.int r :: rest))) : W p l e R (s.setDrawn d0) m args below meth c H locs cells slots Q (F0 m pc ls st0) := by
  have C1 := C0.drawn d0
  obtain ⟨hx, hb, hml, hown, hts⟩ := C1.1
  refine va_calliD hd0 (va_runS_D (As := As) (rest := rest) ⟨hx, hb, hml, hown, hts⟩ (hM H.size) (va_cwS As.length hts hG hw hrc hrs hd hR) ⟨PcM_blind, fun U hU hW => ⟨rfl, PcM_at C1 hH U hU hW⟩⟩ rfl rfl hl hst (lv_room hcat) hdg ⟨hf.1, hf.2⟩) hH.2.2 (fun q _ h => hH.free C0 q h) (hH.free C0) (fun r1 u t H1 locs1 ht hvm hr hB hz1 hk1 hS d3 hd3 => ?_)
  subst hr
  exact kk d3 H1 locs1 hd3 (hH.back C0 ht hB hS)
/-- two longs compared -/
theorem lcm {x y : Int64} {v : Int32} (hexec : p.tables.exec = Jvm.exec) (hb : c.code = cc) (hdg : decode cc pc = .ok (.lcmp, 1)) (hv : lg_cmp x y = v) (k : W p l e R s m args below meth c H locs cells slots Q (F0 m (pc + 1) ls (.int v :: rest))) : W p l e R s m args below meth c H locs cells slots Q (F0 m pc ls (.long y :: .long x :: rest)) := by
  subst hv
  exact W.lcmp hexec hb hdg k
end LROWS
def pL_law_273 (x3 : Int32) (x4 : Int32) (t : Mem) (u : Mem) (hh : Mem) (S : Nat → Mem) (lat : Nat → Int32) : Option GL :=
  if x3 = 0 then
    none
  else
    some (t, cn u, hh, S, lat)
def pL_law_272 (x4 : Int32) (s0 : Int32) (t : Mem) (u : Mem) (hh : Mem) (S : Nat → Mem) (lat : Nat → Int32) : Option GL :=
  pL_law_273 s0 x4 t u hh S lat
def pL_law_271 (x4 : Int32) (t : Mem) (u : Mem) (hh : Mem) (S : Nat → Mem) (lat : Nat → Int32) : Option GL :=
  pL_law_272 x4 0 t u hh S lat
def pL_law_198 (x3 : Int32) (x4 : Int32) (x5 : Int32) (x6 : Int32) (x9 : Int64) (s1 : Int32) (s2 : Int32) (t : Mem) (u : Mem) (hh : Mem) (S : Nat → Mem) (lat : Nat → Int32) : Option GL :=
  (stl lat s1 s2).bind fun lat501 =>
  if x3 = 0 then
    pL_law_273 x3 x4 t u hh S lat501
  else
    if ((x5 >>> (8 &&& 31)) &&& 3) = 0 then
      (pL_told t u hh S).bind fun y504 =>
      (pX4_savedStates t u hh S).bind fun y505 =>
      bdG (pX4_undo t u hh S) fun y506 t507 u508 h509 S510 =>
      if y506 = (y505 - 1) then
        (pL_told t507 (cn u508) h509 S510).bind fun y512 =>
        if (lg_cmp y512 x9) = 0 then
          bdG (pL_acts t507 (cn u508) h509 S510 x5 x6) fun y514 t515 u516 h517 S518 =>
          if y514 = 0 then
            pL_law_271 x4 t515 u516 h517 S518 lat501
          else
            (pL_told t515 u516 h517 S518).bind fun y520 =>
            if (lg_cmp y520 y504) = 0 then
              pL_law_272 x4 1 t515 u516 h517 S518 lat501
            else
              pL_law_271 x4 t515 u516 h517 S518 lat501
        else
          pL_law_271 x4 t507 (cn u508) h509 S510 lat501
      else
        pL_law_271 x4 t507 (cn u508) h509 S510 lat501
    else
      pL_law_273 x3 x4 t u hh S lat501
def pL_law_160 (x4 : Int32) (x5 : Int32) (x6 : Int32) (x7 : Int32) (x8 : Int32) (x9 : Int64) (s0 : Int32) (t : Mem) (u : Mem) (hh : Mem) (S : Nat → Mem) (lat : Nat → Int32) : Option GL :=
  (pX4_count t u hh S 2).bind fun y401 =>
  (pX4_count t u hh S 3).bind fun y402 =>
  if (y401 + y402) ≤ x8 then
    (ldl lat x7).bind fun y404 =>
    pL_law_198 s0 x4 x5 x6 x9 x7 y404 t u hh S lat
  else
    (pL_up (x6 >>> (9 &&& 31)) 1000).bind fun y405 =>
    pL_law_198 s0 x4 x5 x6 x9 x7 y405 t u hh S lat
def pL_law_159 (x4 : Int32) (x5 : Int32) (x6 : Int32) (x7 : Int32) (x8 : Int32) (x9 : Int64) (t : Mem) (u : Mem) (hh : Mem) (S : Nat → Mem) (lat : Nat → Int32) : Option GL :=
  pL_law_160 x4 x5 x6 x7 x8 x9 0 t u hh S lat
def pL_law_152 (x4 : Int32) (x5 : Int32) (x6 : Int32) (x7 : Int32) (x8 : Int32) (x9 : Int64) (s0 : Int32) (s1 : Int32) (t : Mem) (u : Mem) (hh : Mem) (S : Nat → Mem) (lat : Nat → Int32) : Option GL :=
  if s0 = s1 then
    pL_law_160 x4 x5 x6 x7 x8 x9 1 t u hh S lat
  else
    pL_law_159 x4 x5 x6 x7 x8 x9 t u hh S lat
def pL_law_94 (x4 : Int32) (x5 : Int32) (x6 : Int32) (s0 : Int32) (t : Mem) (u : Mem) (hh : Mem) (S : Nat → Mem) (lat : Nat → Int32) : Option GL :=
  (pX4_count t u hh S 2).bind fun y101 =>
  (pX4_count t u hh S 3).bind fun y102 =>
  (pL_told t u hh S).bind fun y103 =>
  (pX4_savedStates t u hh S).bind fun y104 =>
  bdG (pL_acts t u hh S x5 x6) fun y105 t106 u107 h108 S109 =>
  if y105 = 0 then
    pL_law_159 x4 x5 x6 s0 (y101 + y102) y103 t106 u107 h108 S109 lat
  else
    (pX4_savedStates t106 u107 h108 S109).bind fun y111 =>
    if 6 ≤ y104 then
      pL_law_152 x4 x5 x6 s0 (y101 + y102) y103 y111 6 t106 u107 h108 S109 lat
    else
      pL_law_152 x4 x5 x6 s0 (y101 + y102) y103 y111 (y104 + 1) t106 u107 h108 S109 lat
def pL_turn (t : Mem) (u : Mem) (hh : Mem) (S : Nat → Mem) (lat : Nat → Int32) (x4 x5 x6 : Int32) : Option GL :=
  if (x6 &&& 3) = 0 then
    (pL_up (x6 >>> (2 &&& 31)) 64).bind fun y4 =>
    pL_law_94 x4 x5 x6 y4 t u hh S lat
  else
    (pL_up (x6 >>> (2 &&& 31)) 4).bind fun y2 =>
    (pL_up (x6 >>> (4 &&& 31)) 5).bind fun y3 =>
    pL_law_94 x4 x5 x6 ((16 * y2) + y3) t u hh S lat
set_option maxHeartbeats 8000000 in
set_option maxRecDepth 100000 in
theorem tl_L_turn {p : Program} {l : Launch} {e : Env} {s : State} {m : MethodId} {args : Array Value} {below : List Frame} {meth : Method} {c : Code} {Q : State → Prop} {D : va_G} {ca : Gp} {A : Nat → Prop} {a b h : Nat → Nat} {f : Nat → Nat → Nat} {wr : va_W} {q b0 cells slots : Nat} {t u hh : Mem} {S : Nat → Mem} {lat : Nat → Int32} {t9 u9 h9 : Mem} {S9 : Nat → Mem} {lat9 : Nat → Int32} {x4 x5 x6 : Int32} {H : Heap} {locs : List Loc} {ls : Array Slot} (C0 : Cx p s m args c cL_law 15 wsL_law RL D ca A) (hroom : cells ≤ room_1.cells ∧ slots ≤ room_1.slots) (hend : ∀ (H : Heap) (locs : List Loc) (ls : Array Slot), HS D A s (gW a b h f ca t9 u9 h9 S9 ((q, .inl (ca.1 0, 64, .inl lat9)) :: wr)) H locs → lv_has ls 15 [(0, .ref b0), (1, .ref (h 2)), (2, .ref q), (4, .int x4)] → W p l e room_1 s m args below meth c H locs cells slots Q (F0 m 277 ls [])) (hf : pL_turn t u hh S lat x4 x5 x6 = some (t9, u9, h9, S9, lat9)) (hH : HS D A s (gW a b h f ca t u hh S ((q, .inl (ca.1 0, 64, .inl lat)) :: wr)) H locs) (hl : lv_has ls 15 [(0, .ref b0), (1, .ref (h 2)), (2, .ref q), (4, .int x4), (5, .int x5), (6, .int x6)]) : W p l e room_1 s m args below meth c H locs cells slots Q (F0 m 55 ls []) := by
  obtain ⟨hx, hb, hml, hown, hts⟩ := id C0.1
  have J273 : ∀ (x3 : Int32) (t : Mem) (u : Mem) (hh : Mem) (S : Nat → Mem) (lat : Nat → Int32) (H : Heap) (locs : List Loc) (ls : Array Slot), pL_law_273 x3 x4 t u hh S lat = some (t9, u9, h9, S9, lat9) → HS D A s (gW a b h f ca t u hh S ((q, .inl (ca.1 0, 64, .inl lat)) :: wr)) H locs → lv_has ls 15 [(0, .ref b0), (1, .ref (h 2)), (2, .ref q), (3, .int x3), (4, .int x4)] → W p l e room_1 s m args below meth c H locs cells slots Q (F0 m 273 ls []) := by
    intro x3 t u hh S lat H locs ls hf hH hl
    unfold pL_law_273 at hf
    refine lv_iload_n hx hb dL_law_273 rfl (lv_at hl 3 rfl) ?_
    refine lv_if_eq (tgt := 289) hx hb dL_law_274 (by decide) (fun c801 => ?_) (fun c801 => ?_)
    · rw [if_pos c801] at hf
      cases hf
    · rw [if_neg c801] at hf
      have hH := HS_cn hH
      cases hf
      exact hend _ _ _ hH (lv_sub hl [0, 1, 2, 4] rfl)
  have J272 : ∀ (s0 : Int32) (t : Mem) (u : Mem) (hh : Mem) (S : Nat → Mem) (lat : Nat → Int32) (H : Heap) (locs : List Loc) (ls : Array Slot), pL_law_272 x4 s0 t u hh S lat = some (t9, u9, h9, S9, lat9) → HS D A s (gW a b h f ca t u hh S ((q, .inl (ca.1 0, 64, .inl lat)) :: wr)) H locs → lv_has ls 15 [(0, .ref b0), (1, .ref (h 2)), (2, .ref q), (4, .int x4)] → W p l e room_1 s m args below meth c H locs cells slots Q (F0 m 272 ls [.int s0]) := by
    intro s0 t u hh S lat H locs ls hf hH hl
    unfold pL_law_272 at hf
    refine lv_istore_n (lv' := [(3, .int s0), (0, .ref b0), (1, .ref (h 2)), (2, .ref q), (4, .int x4)]) hx hb dL_law_272 rfl hl (by decide) rfl (fun ls hl => ?_)
    exact J273 _ _ _ _ _ _ _ _ _ hf hH (lv_sub hl [1, 2, 3, 0, 4] rfl)
  have J271 : ∀ (t : Mem) (u : Mem) (hh : Mem) (S : Nat → Mem) (lat : Nat → Int32) (H : Heap) (locs : List Loc) (ls : Array Slot), pL_law_271 x4 t u hh S lat = some (t9, u9, h9, S9, lat9) → HS D A s (gW a b h f ca t u hh S ((q, .inl (ca.1 0, 64, .inl lat)) :: wr)) H locs → lv_has ls 15 [(0, .ref b0), (1, .ref (h 2)), (2, .ref q), (4, .int x4)] → W p l e room_1 s m args below meth c H locs cells slots Q (F0 m 271 ls []) := by
    intro t u hh S lat H locs ls hf hH hl
    unfold pL_law_271 at hf
    refine lv_iconst (v := 0) hx hb dL_law_271 (by decide) ?_
    exact J272 _ _ _ _ _ _ _ _ _ hf hH (lv_sub hl [0, 1, 2, 3] rfl)
  have J198 : ∀ (x3 : Int32) (x5 : Int32) (x6 : Int32) (x9 : Int64) (s1 : Int32) (s2 : Int32) (t : Mem) (u : Mem) (hh : Mem) (S : Nat → Mem) (lat : Nat → Int32) (H : Heap) (locs : List Loc) (ls : Array Slot), pL_law_198 x3 x4 x5 x6 x9 s1 s2 t u hh S lat = some (t9, u9, h9, S9, lat9) → HS D A s (gW a b h f ca t u hh S ((q, .inl (ca.1 0, 64, .inl lat)) :: wr)) H locs → lv_has ls 15 [(0, .ref b0), (1, .ref (h 2)), (2, .ref q), (3, .int x3), (4, .int x4), (5, .int x5), (6, .int x6), (9, .long x9)] → W p l e room_1 s m args below meth c H locs cells slots Q (F0 m 198 ls [.int s2, .int s1, .ref q]) := by
    intro x3 x5 x6 x9 s1 s2 t u hh S lat H locs ls hf hH hl
    unfold pL_law_198 at hf
    obtain ⟨lat501, h_lat501, hf⟩ := bnd hf
    refine sQ C0 hH h_lat501 dL_law_198 (fun H locs hH => ?_)
    refine lv_iload_n hx hb dL_law_199 rfl (lv_at hl 3 rfl) ?_
    refine lv_if_eq (tgt := 273) hx hb dL_law_200 (by decide) (fun c502 => ?_) (fun c502 => ?_)
    · rw [if_pos c502] at hf
      exact J273 _ _ _ _ _ _ _ _ _ hf hH (lv_sub hl [0, 1, 2, 3, 4] rfl)
    · rw [if_neg c502] at hf
      refine lv_iload hx hb dL_law_203 (lv_at hl 5 rfl) ?_
      refine lv_bipush (v := 8) hx hb dL_law_205 (by decide) ?_
      refine lv_ishr hx hb dL_law_207 ?_
      refine lv_iconst (v := 3) hx hb dL_law_208 (by decide) ?_
      refine lv_iand hx hb dL_law_209 ?_
      refine lv_if_ne (tgt := 273) hx hb dL_law_210 (by decide) (fun c503 => ?_) (fun c503 => ?_)
      · rw [if_neg c503] at hf
        exact J273 _ _ _ _ _ _ _ _ _ hf hH (lv_sub hl [0, 1, 2, 3, 4] rfl)
      · rw [if_pos c503] at hf
        refine lv_aload_n hx hb dL_law_213 rfl (lv_at hl 1 rfl) ?_
        obtain ⟨y504, h_y504, hf⟩ := bnd hf
        refine cl_lS C0 hH hl.1 (As := [.ref (h 2)]) (rest := []) (mL_told l D ca a b h f ((q, .inl (ca.1 0, 64, .inl lat501)) :: wr) t u hh S h_y504) gL_law_L_told rfl rfl rfl hd_L_told ⟨Nat.le_of_ble_eq_true rfl, Nat.le_of_ble_eq_true rfl⟩ hroom rfl (Nat.le_of_ble_eq_true rfl) dL_law_214 (fun H locs hH => ?_)
        refine lv_lstore (lv' := [(12, .long y504), (0, .ref b0), (1, .ref (h 2)), (2, .ref q), (3, .int x3), (4, .int x4), (5, .int x5), (6, .int x6), (9, .long x9)]) hx hb dL_law_217 hl (by decide) rfl (fun ls hl => ?_)
        refine lv_aload_n hx hb dL_law_219 rfl (lv_at hl 2 rfl) ?_
        obtain ⟨y505, h_y505, hf⟩ := bnd hf
        refine cl_iV C0 hH hl.1 (As := []) (rest := []) (mX4_savedStates l D ca a b h f ((q, .inl (ca.1 0, 64, .inl lat501)) :: wr) t u hh S h_y505) gL_law_X4_savedStates rfl rfl rfl hd_X4_savedStates ⟨Nat.le_of_ble_eq_true rfl, Nat.le_of_ble_eq_true rfl⟩ hroom (vG_X4 C0 hH) rfl (Nat.le_of_ble_eq_true rfl) dL_law_220 (fun H locs hH => ?_)
        refine lv_iconst (v := 1) hx hb dL_law_223 (by decide) ?_
        refine lv_isub hx hb dL_law_224 ?_
        refine lv_istore (lv' := [(14, .int (y505 - 1)), (12, .long y504), (0, .ref b0), (1, .ref (h 2)), (2, .ref q), (3, .int x3), (4, .int x4), (5, .int x5), (6, .int x6), (9, .long x9)]) hx hb dL_law_225 hl (by decide) rfl (fun ls hl => ?_)
        refine lv_aload_n hx hb dL_law_227 rfl (lv_at hl 3 rfl) ?_
        obtain ⟨y506, t507, u508, h509, S510, h_y506, hf⟩ := bndG hf
        refine cl_iV C0 hH hl.1 (As := []) (rest := []) (mX4_undo l D ca a b h f ((q, .inl (ca.1 0, 64, .inl lat501)) :: wr) t u hh S h_y506) gL_law_X4_undo rfl rfl rfl hd_X4_undo ⟨Nat.le_of_ble_eq_true rfl, Nat.le_of_ble_eq_true rfl⟩ hroom (vG_X4 C0 hH) rfl (Nat.le_of_ble_eq_true rfl) dL_law_228 (fun H locs hH => ?_)
        have hH := HS_cn hH
        refine lv_iload hx hb dL_law_231 (lv_at hl 0 rfl) ?_
        refine lv_icmp_ne (tgt := 271) hx hb dL_law_233 (by decide) (fun c511 => ?_) (fun c511 => ?_)
        · rw [if_neg c511] at hf
          exact J271 _ _ _ _ _ _ _ _ hf hH (lv_sub hl [2, 3, 4, 6] rfl)
        · rw [if_pos c511] at hf
          refine lv_aload_n hx hb dL_law_236 rfl (lv_at hl 3 rfl) ?_
          obtain ⟨y512, h_y512, hf⟩ := bnd hf
          refine cl_lS C0 hH hl.1 (As := [.ref (h 2)]) (rest := []) (mL_told l D ca a b h f ((q, .inl (ca.1 0, 64, .inl lat501)) :: wr) t507 (cn u508) h509 S510 h_y512) gL_law_L_told rfl rfl rfl hd_L_told ⟨Nat.le_of_ble_eq_true rfl, Nat.le_of_ble_eq_true rfl⟩ hroom rfl (Nat.le_of_ble_eq_true rfl) dL_law_237 (fun H locs hH => ?_)
          refine lv_lload hx hb dL_law_240 (lv_at hl 9 rfl) ?_
          refine lcm (v := (lg_cmp y512 x9)) hx hb dL_law_242 rfl ?_
          refine lv_if_ne (tgt := 271) hx hb dL_law_243 (by decide) (fun c513 => ?_) (fun c513 => ?_)
          · rw [if_neg c513] at hf
            exact J271 _ _ _ _ _ _ _ _ hf hH (lv_sub hl [2, 3, 4, 6] rfl)
          · rw [if_pos c513] at hf
            refine lv_aload_n hx hb dL_law_246 rfl (lv_at hl 3 rfl) ?_
            refine lv_iload hx hb dL_law_247 (lv_at hl 7 rfl) ?_
            refine lv_iload hx hb dL_law_249 (lv_at hl 8 rfl) ?_
            obtain ⟨y514, t515, u516, h517, S518, h_y514, hf⟩ := bndG hf
            refine cl_iS C0 hH hl.1 (As := [.ref (h 2), .int x5, .int x6]) (rest := []) (mL_acts l D ca a b h f ((q, .inl (ca.1 0, 64, .inl lat501)) :: wr) t507 (cn u508) h509 S510 x5 x6 h_y514) gL_law_L_acts rfl rfl rfl hd_L_acts ⟨Nat.le_of_ble_eq_true rfl, Nat.le_of_ble_eq_true rfl⟩ hroom rfl (Nat.le_of_ble_eq_true rfl) dL_law_251 (fun H locs hH => ?_)
            refine lv_if_eq (tgt := 271) hx hb dL_law_254 (by decide) (fun c519 => ?_) (fun c519 => ?_)
            · rw [if_pos c519] at hf
              exact J271 _ _ _ _ _ _ _ _ hf hH (lv_sub hl [2, 3, 4, 6] rfl)
            · rw [if_neg c519] at hf
              refine lv_aload_n hx hb dL_law_257 rfl (lv_at hl 3 rfl) ?_
              obtain ⟨y520, h_y520, hf⟩ := bnd hf
              refine cl_lS C0 hH hl.1 (As := [.ref (h 2)]) (rest := []) (mL_told l D ca a b h f ((q, .inl (ca.1 0, 64, .inl lat501)) :: wr) t515 u516 h517 S518 h_y520) gL_law_L_told rfl rfl rfl hd_L_told ⟨Nat.le_of_ble_eq_true rfl, Nat.le_of_ble_eq_true rfl⟩ hroom rfl (Nat.le_of_ble_eq_true rfl) dL_law_258 (fun H locs hH => ?_)
              refine lv_lload hx hb dL_law_261 (lv_at hl 1 rfl) ?_
              refine lcm (v := (lg_cmp y520 y504)) hx hb dL_law_263 rfl ?_
              refine lv_if_ne (tgt := 271) hx hb dL_law_264 (by decide) (fun c521 => ?_) (fun c521 => ?_)
              · rw [if_neg c521] at hf
                exact J271 _ _ _ _ _ _ _ _ hf hH (lv_sub hl [2, 3, 4, 6] rfl)
              · rw [if_pos c521] at hf
                refine lv_iconst (v := 1) hx hb dL_law_267 (by decide) ?_
                refine lv_goto (tgt := 272) hx hb dL_law_268 (by decide) ?_
                exact J272 _ _ _ _ _ _ _ _ _ hf hH (lv_sub hl [2, 3, 4, 6] rfl)
  have J160 : ∀ (x5 : Int32) (x6 : Int32) (x7 : Int32) (x8 : Int32) (x9 : Int64) (s0 : Int32) (t : Mem) (u : Mem) (hh : Mem) (S : Nat → Mem) (lat : Nat → Int32) (H : Heap) (locs : List Loc) (ls : Array Slot), pL_law_160 x4 x5 x6 x7 x8 x9 s0 t u hh S lat = some (t9, u9, h9, S9, lat9) → HS D A s (gW a b h f ca t u hh S ((q, .inl (ca.1 0, 64, .inl lat)) :: wr)) H locs → lv_has ls 15 [(0, .ref b0), (1, .ref (h 2)), (2, .ref q), (4, .int x4), (5, .int x5), (6, .int x6), (7, .int x7), (8, .int x8), (9, .long x9)] → W p l e room_1 s m args below meth c H locs cells slots Q (F0 m 160 ls [.int s0]) := by
    intro x5 x6 x7 x8 x9 s0 t u hh S lat H locs ls hf hH hl
    unfold pL_law_160 at hf
    refine lv_istore_n (lv' := [(3, .int s0), (0, .ref b0), (1, .ref (h 2)), (2, .ref q), (4, .int x4), (5, .int x5), (6, .int x6), (7, .int x7), (8, .int x8), (9, .long x9)]) hx hb dL_law_160 rfl hl (by decide) rfl (fun ls hl => ?_)
    refine lv_aload_n hx hb dL_law_161 rfl (lv_at hl 3 rfl) ?_
    refine lv_iload hx hb dL_law_162 (lv_at hl 7 rfl) ?_
    refine lv_aload_n hx hb dL_law_164 rfl (lv_at hl 2 rfl) ?_
    refine lv_iconst (v := 2) hx hb dL_law_165 (by decide) ?_
    obtain ⟨y401, h_y401, hf⟩ := bnd hf
    refine cl_iV C0 hH hl.1 (As := [.int 2]) (rest := [.int x7, .ref q]) (mX4_count l D ca a b h f ((q, .inl (ca.1 0, 64, .inl lat)) :: wr) t u hh S 2 h_y401) gL_law_X4_count rfl rfl rfl hd_X4_count ⟨Nat.le_of_ble_eq_true rfl, Nat.le_of_ble_eq_true rfl⟩ hroom (vG_X4 C0 hH) rfl (Nat.le_of_ble_eq_true rfl) dL_law_166 (fun H locs hH => ?_)
    refine lv_aload_n hx hb dL_law_169 rfl (lv_at hl 2 rfl) ?_
    refine lv_iconst (v := 3) hx hb dL_law_170 (by decide) ?_
    obtain ⟨y402, h_y402, hf⟩ := bnd hf
    refine cl_iV C0 hH hl.1 (As := [.int 3]) (rest := [.int y401, .int x7, .ref q]) (mX4_count l D ca a b h f ((q, .inl (ca.1 0, 64, .inl lat)) :: wr) t u hh S 3 h_y402) gL_law_X4_count rfl rfl rfl hd_X4_count ⟨Nat.le_of_ble_eq_true rfl, Nat.le_of_ble_eq_true rfl⟩ hroom (vG_X4 C0 hH) rfl (Nat.le_of_ble_eq_true rfl) dL_law_171 (fun H locs hH => ?_)
    refine lv_iadd hx hb dL_law_174 ?_
    refine lv_iload hx hb dL_law_175 (lv_at hl 8 rfl) ?_
    refine lv_icmp_le (tgt := 194) hx hb dL_law_177 (by decide) (fun c403 => ?_) (fun c403 => ?_)
    · rw [if_pos c403] at hf
      refine lv_aload_n hx hb dL_law_194 rfl (lv_at hl 3 rfl) ?_
      refine lv_iload hx hb dL_law_195 (lv_at hl 7 rfl) ?_
      obtain ⟨y404, h_y404, hf⟩ := bnd hf
      refine lQ C0 hH h_y404 dL_law_197 ?_
      exact J198 _ _ _ _ _ _ _ _ _ _ _ _ _ _ hf hH (lv_sub hl [1, 2, 3, 0, 4, 5, 6, 9] rfl)
    · rw [if_neg c403] at hf
      refine lv_iload hx hb dL_law_180 (lv_at hl 6 rfl) ?_
      refine lv_bipush (v := 9) hx hb dL_law_182 (by decide) ?_
      refine lv_ishr hx hb dL_law_184 ?_
      refine lv_sipush (v := 1000) hx hb dL_law_185 (by decide) ?_
      obtain ⟨y405, h_y405, hf⟩ := bnd hf
      refine cl_iS C0 hH hl.1 (As := [.int (x6 >>> (9 &&& 31)), .int 1000]) (rest := [.int x7, .ref q]) (mL_up l D ca _ (x6 >>> (9 &&& 31)) 1000 h_y405) gL_law_L_up rfl rfl rfl hd_L_up ⟨Nat.le_of_ble_eq_true rfl, Nat.le_of_ble_eq_true rfl⟩ hroom rfl (Nat.le_of_ble_eq_true rfl) dL_law_188 (fun H locs hH => ?_)
      refine lv_goto (tgt := 198) hx hb dL_law_191 (by decide) ?_
      exact J198 _ _ _ _ _ _ _ _ _ _ _ _ _ _ hf hH (lv_sub hl [1, 2, 3, 0, 4, 5, 6, 9] rfl)
  have J159 : ∀ (x5 : Int32) (x6 : Int32) (x7 : Int32) (x8 : Int32) (x9 : Int64) (t : Mem) (u : Mem) (hh : Mem) (S : Nat → Mem) (lat : Nat → Int32) (H : Heap) (locs : List Loc) (ls : Array Slot), pL_law_159 x4 x5 x6 x7 x8 x9 t u hh S lat = some (t9, u9, h9, S9, lat9) → HS D A s (gW a b h f ca t u hh S ((q, .inl (ca.1 0, 64, .inl lat)) :: wr)) H locs → lv_has ls 15 [(0, .ref b0), (1, .ref (h 2)), (2, .ref q), (4, .int x4), (5, .int x5), (6, .int x6), (7, .int x7), (8, .int x8), (9, .long x9)] → W p l e room_1 s m args below meth c H locs cells slots Q (F0 m 159 ls []) := by
    intro x5 x6 x7 x8 x9 t u hh S lat H locs ls hf hH hl
    unfold pL_law_159 at hf
    refine lv_iconst (v := 0) hx hb dL_law_159 (by decide) ?_
    exact J160 _ _ _ _ _ _ _ _ _ _ _ _ _ _ hf hH (lv_sub hl [0, 1, 2, 3, 4, 5, 6, 7, 8] rfl)
  have J152 : ∀ (x5 : Int32) (x6 : Int32) (x7 : Int32) (x8 : Int32) (x9 : Int64) (s0 : Int32) (s1 : Int32) (t : Mem) (u : Mem) (hh : Mem) (S : Nat → Mem) (lat : Nat → Int32) (H : Heap) (locs : List Loc) (ls : Array Slot), pL_law_152 x4 x5 x6 x7 x8 x9 s0 s1 t u hh S lat = some (t9, u9, h9, S9, lat9) → HS D A s (gW a b h f ca t u hh S ((q, .inl (ca.1 0, 64, .inl lat)) :: wr)) H locs → lv_has ls 15 [(0, .ref b0), (1, .ref (h 2)), (2, .ref q), (4, .int x4), (5, .int x5), (6, .int x6), (7, .int x7), (8, .int x8), (9, .long x9)] → W p l e room_1 s m args below meth c H locs cells slots Q (F0 m 152 ls [.int s1, .int s0]) := by
    intro x5 x6 x7 x8 x9 s0 s1 t u hh S lat H locs ls hf hH hl
    unfold pL_law_152 at hf
    refine lv_icmp_ne (tgt := 159) hx hb dL_law_152 (by decide) (fun c201 => ?_) (fun c201 => ?_)
    · rw [if_neg c201] at hf
      exact J159 _ _ _ _ _ _ _ _ _ _ _ _ _ hf hH (lv_sub hl [0, 1, 2, 3, 4, 5, 6, 7, 8] rfl)
    · rw [if_pos c201] at hf
      refine lv_iconst (v := 1) hx hb dL_law_155 (by decide) ?_
      refine lv_goto (tgt := 160) hx hb dL_law_156 (by decide) ?_
      exact J160 _ _ _ _ _ _ _ _ _ _ _ _ _ _ hf hH (lv_sub hl [0, 1, 2, 3, 4, 5, 6, 7, 8] rfl)
  have J94 : ∀ (x5 : Int32) (x6 : Int32) (s0 : Int32) (t : Mem) (u : Mem) (hh : Mem) (S : Nat → Mem) (lat : Nat → Int32) (H : Heap) (locs : List Loc) (ls : Array Slot), pL_law_94 x4 x5 x6 s0 t u hh S lat = some (t9, u9, h9, S9, lat9) → HS D A s (gW a b h f ca t u hh S ((q, .inl (ca.1 0, 64, .inl lat)) :: wr)) H locs → lv_has ls 15 [(0, .ref b0), (1, .ref (h 2)), (2, .ref q), (4, .int x4), (5, .int x5), (6, .int x6)] → W p l e room_1 s m args below meth c H locs cells slots Q (F0 m 94 ls [.int s0]) := by
    intro x5 x6 s0 t u hh S lat H locs ls hf hH hl
    unfold pL_law_94 at hf
    refine lv_istore (lv' := [(7, .int s0), (0, .ref b0), (1, .ref (h 2)), (2, .ref q), (4, .int x4), (5, .int x5), (6, .int x6)]) hx hb dL_law_94 hl (by decide) rfl (fun ls hl => ?_)
    refine lv_aload_n hx hb dL_law_96 rfl (lv_at hl 2 rfl) ?_
    refine lv_iconst (v := 2) hx hb dL_law_97 (by decide) ?_
    obtain ⟨y101, h_y101, hf⟩ := bnd hf
    refine cl_iV C0 hH hl.1 (As := [.int 2]) (rest := []) (mX4_count l D ca a b h f ((q, .inl (ca.1 0, 64, .inl lat)) :: wr) t u hh S 2 h_y101) gL_law_X4_count rfl rfl rfl hd_X4_count ⟨Nat.le_of_ble_eq_true rfl, Nat.le_of_ble_eq_true rfl⟩ hroom (vG_X4 C0 hH) rfl (Nat.le_of_ble_eq_true rfl) dL_law_98 (fun H locs hH => ?_)
    refine lv_aload_n hx hb dL_law_101 rfl (lv_at hl 2 rfl) ?_
    refine lv_iconst (v := 3) hx hb dL_law_102 (by decide) ?_
    obtain ⟨y102, h_y102, hf⟩ := bnd hf
    refine cl_iV C0 hH hl.1 (As := [.int 3]) (rest := [.int y101]) (mX4_count l D ca a b h f ((q, .inl (ca.1 0, 64, .inl lat)) :: wr) t u hh S 3 h_y102) gL_law_X4_count rfl rfl rfl hd_X4_count ⟨Nat.le_of_ble_eq_true rfl, Nat.le_of_ble_eq_true rfl⟩ hroom (vG_X4 C0 hH) rfl (Nat.le_of_ble_eq_true rfl) dL_law_103 (fun H locs hH => ?_)
    refine lv_iadd hx hb dL_law_106 ?_
    refine lv_istore (lv' := [(8, .int (y101 + y102)), (7, .int s0), (0, .ref b0), (1, .ref (h 2)), (2, .ref q), (4, .int x4), (5, .int x5), (6, .int x6)]) hx hb dL_law_107 hl (by decide) rfl (fun ls hl => ?_)
    refine lv_aload_n hx hb dL_law_109 rfl (lv_at hl 3 rfl) ?_
    obtain ⟨y103, h_y103, hf⟩ := bnd hf
    refine cl_lS C0 hH hl.1 (As := [.ref (h 2)]) (rest := []) (mL_told l D ca a b h f ((q, .inl (ca.1 0, 64, .inl lat)) :: wr) t u hh S h_y103) gL_law_L_told rfl rfl rfl hd_L_told ⟨Nat.le_of_ble_eq_true rfl, Nat.le_of_ble_eq_true rfl⟩ hroom rfl (Nat.le_of_ble_eq_true rfl) dL_law_110 (fun H locs hH => ?_)
    refine lv_lstore (lv' := [(9, .long y103), (8, .int (y101 + y102)), (7, .int s0), (0, .ref b0), (1, .ref (h 2)), (2, .ref q), (4, .int x4), (5, .int x5), (6, .int x6)]) hx hb dL_law_113 hl (by decide) rfl (fun ls hl => ?_)
    refine lv_aload_n hx hb dL_law_115 rfl (lv_at hl 4 rfl) ?_
    obtain ⟨y104, h_y104, hf⟩ := bnd hf
    refine cl_iV C0 hH hl.1 (As := []) (rest := []) (mX4_savedStates l D ca a b h f ((q, .inl (ca.1 0, 64, .inl lat)) :: wr) t u hh S h_y104) gL_law_X4_savedStates rfl rfl rfl hd_X4_savedStates ⟨Nat.le_of_ble_eq_true rfl, Nat.le_of_ble_eq_true rfl⟩ hroom (vG_X4 C0 hH) rfl (Nat.le_of_ble_eq_true rfl) dL_law_116 (fun H locs hH => ?_)
    refine lv_istore (lv' := [(11, .int y104), (9, .long y103), (8, .int (y101 + y102)), (7, .int s0), (0, .ref b0), (1, .ref (h 2)), (2, .ref q), (4, .int x4), (5, .int x5), (6, .int x6)]) hx hb dL_law_119 hl (by decide) rfl (fun ls hl => ?_)
    refine lv_aload_n hx hb dL_law_121 rfl (lv_at hl 5 rfl) ?_
    refine lv_iload hx hb dL_law_122 (lv_at hl 8 rfl) ?_
    refine lv_iload hx hb dL_law_124 (lv_at hl 9 rfl) ?_
    obtain ⟨y105, t106, u107, h108, S109, h_y105, hf⟩ := bndG hf
    refine cl_iS C0 hH hl.1 (As := [.ref (h 2), .int x5, .int x6]) (rest := []) (mL_acts l D ca a b h f ((q, .inl (ca.1 0, 64, .inl lat)) :: wr) t u hh S x5 x6 h_y105) gL_law_L_acts rfl rfl rfl hd_L_acts ⟨Nat.le_of_ble_eq_true rfl, Nat.le_of_ble_eq_true rfl⟩ hroom rfl (Nat.le_of_ble_eq_true rfl) dL_law_126 (fun H locs hH => ?_)
    refine lv_if_eq (tgt := 159) hx hb dL_law_129 (by decide) (fun c110 => ?_) (fun c110 => ?_)
    · rw [if_pos c110] at hf
      exact J159 _ _ _ _ _ _ _ _ _ _ _ _ _ hf hH (lv_sub hl [4, 5, 6, 7, 8, 9, 3, 2, 1] rfl)
    · rw [if_neg c110] at hf
      refine lv_aload_n hx hb dL_law_132 rfl (lv_at hl 5 rfl) ?_
      obtain ⟨y111, h_y111, hf⟩ := bnd hf
      refine cl_iV C0 hH hl.1 (As := []) (rest := []) (mX4_savedStates l D ca a b h f ((q, .inl (ca.1 0, 64, .inl lat)) :: wr) t106 u107 h108 S109 h_y111) gL_law_X4_savedStates rfl rfl rfl hd_X4_savedStates ⟨Nat.le_of_ble_eq_true rfl, Nat.le_of_ble_eq_true rfl⟩ hroom (vG_X4 C0 hH) rfl (Nat.le_of_ble_eq_true rfl) dL_law_133 (fun H locs hH => ?_)
      refine lv_iload hx hb dL_law_136 (lv_at hl 0 rfl) ?_
      refine lv_bipush (v := 6) hx hb dL_law_138 (by decide) ?_
      refine lv_icmp_ge (tgt := 150) hx hb dL_law_140 (by decide) (fun c112 => ?_) (fun c112 => ?_)
      · rw [if_pos c112] at hf
        refine lv_bipush (v := 6) hx hb dL_law_150 (by decide) ?_
        exact J152 _ _ _ _ _ _ _ _ _ _ _ _ _ _ _ hf hH (lv_sub hl [4, 5, 6, 7, 8, 9, 3, 2, 1] rfl)
      · rw [if_neg c112] at hf
        refine lv_iload hx hb dL_law_143 (lv_at hl 0 rfl) ?_
        refine lv_iconst (v := 1) hx hb dL_law_145 (by decide) ?_
        refine lv_iadd hx hb dL_law_146 ?_
        refine lv_goto (tgt := 152) hx hb dL_law_147 (by decide) ?_
        exact J152 _ _ _ _ _ _ _ _ _ _ _ _ _ _ _ hf hH (lv_sub hl [4, 5, 6, 7, 8, 9, 3, 2, 1] rfl)
  unfold pL_turn at hf
  refine lv_iload hx hb dL_law_55 (lv_at hl 5 rfl) ?_
  refine lv_iconst (v := 3) hx hb dL_law_57 (by decide) ?_
  refine lv_iand hx hb dL_law_58 ?_
  refine lv_if_ne (tgt := 74) hx hb dL_law_59 (by decide) (fun c1 => ?_) (fun c1 => ?_)
  · rw [if_neg c1] at hf
    refine lv_bipush (v := 16) hx hb dL_law_74 (by decide) ?_
    refine lv_iload hx hb dL_law_76 (lv_at hl 5 rfl) ?_
    refine lv_iconst (v := 2) hx hb dL_law_78 (by decide) ?_
    refine lv_ishr hx hb dL_law_79 ?_
    refine lv_iconst (v := 4) hx hb dL_law_80 (by decide) ?_
    obtain ⟨y2, h_y2, hf⟩ := bnd hf
    refine cl_iS C0 hH hl.1 (As := [.int (x6 >>> (2 &&& 31)), .int 4]) (rest := [.int 16]) (mL_up l D ca _ (x6 >>> (2 &&& 31)) 4 h_y2) gL_law_L_up rfl rfl rfl hd_L_up ⟨Nat.le_of_ble_eq_true rfl, Nat.le_of_ble_eq_true rfl⟩ hroom rfl (Nat.le_of_ble_eq_true rfl) dL_law_81 (fun H locs hH => ?_)
    refine lv_imul hx hb dL_law_84 ?_
    refine lv_iload hx hb dL_law_85 (lv_at hl 5 rfl) ?_
    refine lv_iconst (v := 4) hx hb dL_law_87 (by decide) ?_
    refine lv_ishr hx hb dL_law_88 ?_
    refine lv_iconst (v := 5) hx hb dL_law_89 (by decide) ?_
    obtain ⟨y3, h_y3, hf⟩ := bnd hf
    refine cl_iS C0 hH hl.1 (As := [.int (x6 >>> (4 &&& 31)), .int 5]) (rest := [.int (16 * y2)]) (mL_up l D ca _ (x6 >>> (4 &&& 31)) 5 h_y3) gL_law_L_up rfl rfl rfl hd_L_up ⟨Nat.le_of_ble_eq_true rfl, Nat.le_of_ble_eq_true rfl⟩ hroom rfl (Nat.le_of_ble_eq_true rfl) dL_law_90 (fun H locs hH => ?_)
    refine lv_iadd hx hb dL_law_93 ?_
    exact J94 _ _ _ _ _ _ _ _ _ _ _ hf hH (lv_sub hl [0, 1, 2, 3, 4, 5] rfl)
  · rw [if_pos c1] at hf
    refine lv_iload hx hb dL_law_62 (lv_at hl 5 rfl) ?_
    refine lv_iconst (v := 2) hx hb dL_law_64 (by decide) ?_
    refine lv_ishr hx hb dL_law_65 ?_
    refine lv_bipush (v := 64) hx hb dL_law_66 (by decide) ?_
    obtain ⟨y4, h_y4, hf⟩ := bnd hf
    refine cl_iS C0 hH hl.1 (As := [.int (x6 >>> (2 &&& 31)), .int 64]) (rest := []) (mL_up l D ca _ (x6 >>> (2 &&& 31)) 64 h_y4) gL_law_L_up rfl rfl rfl hd_L_up ⟨Nat.le_of_ble_eq_true rfl, Nat.le_of_ble_eq_true rfl⟩ hroom rfl (Nat.le_of_ble_eq_true rfl) dL_law_68 (fun H locs hH => ?_)
    refine lv_goto (tgt := 94) hx hb dL_law_71 (by decide) ?_
    exact J94 _ _ _ _ _ _ _ _ _ _ _ hf hH (lv_sub hl [0, 1, 2, 3, 4, 5] rfl)
