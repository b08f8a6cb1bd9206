/-! holds: THE LAW LOOKS AT THE WHOLE OBJECT. -/
def ldl (f : Nat → Int32) (i : Int32) : Option Int32 := if inB i 64 = true then some (f i.toNatClampNeg) else none
def stl (f : Nat → Int32) (i v : Int32) : Option (Nat → Int32) := if inB i 64 = true then some (upd f i.toNatClampNeg v) else none
section QROWS
variable {p : Program} {l : Launch} {e : Env} {R : Room} {s : State} {m : MethodId} {args : Array Value} {below : List Frame} {meth : Method} {c : Code} {H : Heap} {locs : List Loc} {cells slots : Nat} {Q : State → Prop} {cc : ByteArray} {pc nL : Nat} {ls : Array Slot} {rest st0 : List Value} {D : va_G} {ca : Gp} {A : Nat → Prop} {Ts : List Cond} {own : String} {wr w w' : va_W} {a b h : Nat → Nat} {f : Nat → Nat → Nat} {t u hh : Mem} {S : Nat → Mem} {q : Nat} {lat : Nat → Int32}
theorem lQ (C0 : Cx p s m args c cc nL Ts own D ca A) (hH : HS D A s (gW a b h f ca t u hh S ((q, .inl (ca.1 0, 64, .inl lat)) :: wr)) H locs) {i x : Int32} (h9 : ldl lat i = some x) (hdg : decode cc pc = .ok (.iaload, 1)) (kk : W p l e R s m args below meth c H locs cells slots Q (F0 m (pc + 1) ls (.int x :: rest))) : W p l e R s m args below meth c H locs cells slots Q (F0 m pc ls (.int i :: .ref q :: rest)) := by
  unfold ldl at h9
  obtain ⟨hi, h9⟩ := gd h9
  obtain rfl := Option.some.inj h9
  exact va_iald C0.1.1 C0.1.2.1 C0.2.1 hH.1 82 0 rfl rfl (inB_in hi) hdg kk
theorem sQ (C0 : Cx p s m args c cc nL Ts own D ca A) (hH : HS D A s (gW a b h f ca t u hh S ((q, .inl (ca.1 0, 64, .inl lat)) :: wr)) H locs) {i x : Int32} {lat1 : Nat → Int32} (h9 : stl lat i x = some lat1) (hdg : decode cc pc = .ok (.iastore, 1)) (kk : ∀ (H1 : Heap) (locs1 : List Loc), HS D A s (gW a b h f ca t u hh S ((q, .inl (ca.1 0, 64, .inl lat1)) :: wr)) H1 locs1 → W p l e R s m args below meth c H1 locs1 cells slots Q (F0 m (pc + 1) ls rest)) : W p l e R s m args below meth c H locs cells slots Q (F0 m pc ls (.int x :: .int i :: .ref q :: rest)) := by
  unfold stl at h9
  obtain ⟨hi, h9⟩ := gd h9
  obtain rfl := Option.some.inj h9
  exact va_iast C0.1.1 C0.1.2.1 C0.2.1 hH.1 hH.2.1 hH.2.2 82 0 rfl rfl (inB_in hi) hdg (fun H1 locs1 hP hD hS => kk H1 locs1 ⟨hP, hD, hS⟩)
theorem cl_fV {y : MethodName} {bytes : ByteArray} {maxL index : Nat} {ret : Option FieldType} {ws ws' : List Cond} {rm : Room} {C : String} {b : Addr} {As : List Value} {PP : UInt32 → Prop} {d0 : Drawn}
    (hd0 : s.drawn.sameBut d0 lw_cs) (C0 : Cx p s m args c cc nL Ts own D ca A) (hH : HS D A s w H locs) (hl : ls.size = nL) (hM : Mf l y ws rm D ca (.ref b :: As) w w' PP)
    (hG : GoodIn Ts (wsV own index C y ws)) (hw : ws = Cond.code y bytes maxL ret :: ws') (hrc : rm.cells = 0) (hrs : rm.slots = 0)
    (hd : y.cls = C ∧ y.cls ≠ "java/lang/invoke/MethodHandle" ∧ y.cls ≠ "java/lang/invoke/VarHandle" ∧ (parseMethodDescriptor y.desc).map (fun d => d.parameters.length) = some As.length) (hR : rm.frames + 1 ≤ R.frames ∧ 8 + (maxL + 11) + rm.locals ≤ R.locals) (hf : cells ≤ R.cells ∧ slots ≤ R.slots)
    (hv : ∃ cell : Cell, H[b]? = some cell ∧ cell.vm.isStatics = false ∧ s.vm.findClass C = some cell.cls)
    (hst : st0 = As.reverse ++ .ref b :: rest) (hcat : (rest.map fun v => v.category).sum ≤ 8) (hdg : decode cc pc = .ok (.invokevirtual index, 3))
    (kk : ∀ (r : UInt32) (d1 : Drawn) (H1 : Heap) (locs1 : List Loc), PP r → s.drawn.sameBut d1 lw_cs → HS D A s w' H1 locs1 → W p l e R (s.setDrawn d1) m args below meth c H1 locs1 cells slots Q (F0 m (pc + 3) ls (.float r :: rest))) : W p l e R (s.setDrawn d0) m args below meth c H locs cells slots Q (F0 m pc ls st0) := by
  have C1 := C0.drawn d0
  obtain ⟨hx, hb, hml, hown, hts⟩ := C1.1
  refine va_callfD hd0 (va_runV_D (As := As) (rest := rest) ⟨hx, hb, hml, hown, hts⟩ (hM H.size) (cwV As.length hts hG hw hrc hrs hd hR) ⟨PcM_blind, hv, fun U hU hW => ⟨rfl, PcM_at C1 hH U hU hW⟩⟩ rfl rfl hl hst (lv_room hcat) hdg ⟨hf.1, hf.2⟩) hH.2.2 (fun q _ h => hH.free C0 q h) (hH.free C0) (fun r1 u t H1 locs1 ht hvm hr hB hz1 hk1 hS d3 hd3 => ?_)
  subst hw
  exact kk r1 d3 H1 locs1 hr hd3 (hH.back C0 ht hB hS)
end QROWS
def pL_holds_238 (t : Mem) (u : Mem) (hh : Mem) (S : Nat → Mem) (lat : Nat → Int32) (x4 : Int32) (k : Int32 → Int32 → Int32 → Int32 → Option Int32) (x2 : Int32) (x3 : Int32) (x5 : Int32) (x6 : Int32) : Option Int32 :=
  k x2 x3 x5 (x6 + 1)
def pL_holds_236 (t : Mem) (u : Mem) (hh : Mem) (S : Nat → Mem) (lat : Nat → Int32) (x4 : Int32) (k : Int32 → Int32 → Int32 → Int32 → Option Int32) (x2 : Int32) (x3 : Int32) (x6 : Int32) (s0 : Int32) : Option Int32 :=
  pL_holds_238 t u hh S lat x4 k x2 x3 s0 x6
def pL_holds_231 (t : Mem) (u : Mem) (hh : Mem) (S : Nat → Mem) (lat : Nat → Int32) (x4 : Int32) (k : Int32 → Int32 → Int32 → Int32 → Option Int32) (x2 : Int32) (x3 : Int32) (x6 : Int32) : Option Int32 :=
  pL_holds_236 t u hh S lat x4 k x2 x3 x6 1
def pL_holds_235 (t : Mem) (u : Mem) (hh : Mem) (S : Nat → Mem) (lat : Nat → Int32) (x4 : Int32) (k : Int32 → Int32 → Int32 → Int32 → Option Int32) (x2 : Int32) (x3 : Int32) (x6 : Int32) : Option Int32 :=
  pL_holds_236 t u hh S lat x4 k x2 x3 x6 0
def pL_holds_178 (t : Mem) (u : Mem) (hh : Mem) (S : Nat → Mem) (lat : Nat → Int32) (x4 : Int32) (k : Int32 → Int32 → Int32 → Int32 → Option Int32) (x2 : Int32) (x3 : Int32) (x6 : Int32) (x7 : Int32) (s0 : Int32) : Option Int32 :=
  if s0 = 0 then
    pL_holds_235 t u hh S lat x4 k x2 x3 x6
  else
    (pX4_isIn t u hh S).bind fun y402 =>
    if y402 = 0 then
      pL_holds_231 t u hh S lat x4 k x2 x3 x6
    else
      (pX4_line t u hh S (x6 / 3) (x6 - x6 / 3 * 3) 4).bind fun y404 =>
      if y404 = 1 then
        pL_holds_231 t u hh S lat x4 k x2 x3 x6
      else
        (pX4_onDisk t u hh S x7).bind fun y406 =>
        (pX4_line t u hh S (x6 / 3) (x6 - x6 / 3 * 3) 1).bind fun y407 =>
        if y406 = y407 then
          pL_holds_231 t u hh S lat x4 k x2 x3 x6
        else
          pL_holds_235 t u hh S lat x4 k x2 x3 x6
def pL_holds_177 (t : Mem) (u : Mem) (hh : Mem) (S : Nat → Mem) (lat : Nat → Int32) (x4 : Int32) (k : Int32 → Int32 → Int32 → Int32 → Option Int32) (x2 : Int32) (x3 : Int32) (x6 : Int32) (x7 : Int32) : Option Int32 :=
  pL_holds_178 t u hh S lat x4 k x2 x3 x6 x7 0
def pL_holds_283 (t : Mem) (u : Mem) (hh : Mem) (S : Nat → Mem) (lat : Nat → Int32) (x2 : Int32) (x3 : Int32) (x4 : Int32) (k : Int32 → Int32 → Option Int32) (x6 : Int32) (s0 : Int32) : Option Int32 :=
  k s0 (x6 + 1)
def pL_holds_282 (t : Mem) (u : Mem) (hh : Mem) (S : Nat → Mem) (lat : Nat → Int32) (x2 : Int32) (x3 : Int32) (x4 : Int32) (k : Int32 → Int32 → Option Int32) (x6 : Int32) : Option Int32 :=
  pL_holds_283 t u hh S lat x2 x3 x4 k x6 0
def pL_holds_392 (t : Mem) (u : Mem) (hh : Mem) (S : Nat → Mem) (lat : Nat → Int32) (x2 : Int32) (x3 : Int32) (k : Int32 → Int32 → Int32 → Option Int32) (x4 : Int32) (x6 : Int32) (s0 : Int32) : Option Int32 :=
  k x4 s0 (x6 + 1)
def pL_holds_387 (t : Mem) (u : Mem) (hh : Mem) (S : Nat → Mem) (lat : Nat → Int32) (x2 : Int32) (x3 : Int32) (k : Int32 → Int32 → Int32 → Option Int32) (x4 : Int32) (x6 : Int32) : Option Int32 :=
  pL_holds_392 t u hh S lat x2 x3 k x4 x6 1
def pL_holds_391 (t : Mem) (u : Mem) (hh : Mem) (S : Nat → Mem) (lat : Nat → Int32) (x2 : Int32) (x3 : Int32) (k : Int32 → Int32 → Int32 → Option Int32) (x4 : Int32) (x6 : Int32) : Option Int32 :=
  pL_holds_392 t u hh S lat x2 x3 k x4 x6 0
def pL_holds_384 (t : Mem) (u : Mem) (hh : Mem) (S : Nat → Mem) (lat : Nat → Int32) (x2 : Int32) (x3 : Int32) (k : Int32 → Int32 → Int32 → Option Int32) (x4 : Int32) (x6 : Int32) (s0 : Int32) (s1 : Int32) : Option Int32 :=
  if s0 = s1 then
    pL_holds_387 t u hh S lat x2 x3 k x4 x6
  else
    pL_holds_391 t u hh S lat x2 x3 k x4 x6
def pL_holds_336 (t : Mem) (u : Mem) (hh : Mem) (S : Nat → Mem) (lat : Nat → Int32) (x2 : Int32) (x3 : Int32) (k : Int32 → Int32 → Int32 → Option Int32) (x5 : Int32) (x6 : Int32) (x7 : Int32) (s0 : Int32) (s1 : Int32) : Option Int32 :=
  if x5 = 0 then
    pL_holds_391 t u hh S lat x2 x3 k (s0 + s1) x6
  else
    (pX4_isFound t u hh S x6).bind fun y1402 =>
    if y1402 = 0 then
      pL_holds_387 t u hh S lat x2 x3 k (s0 + s1) x6
    else
      (ldl lat x6).bind fun y1404 =>
      if x7 < 0 then
        (pX4_onDisk t u hh S x6).bind fun y1406 =>
        pL_holds_384 t u hh S lat x2 x3 k (s0 + s1) x6 y1404 y1406
      else
        (pX4_line t u hh S (x7 / 3) (x7 - x7 / 3 * 3) 1).bind fun y1407 =>
        pL_holds_384 t u hh S lat x2 x3 k (s0 + s1) x6 y1404 y1407
def pL_holds_318 (t : Mem) (u : Mem) (hh : Mem) (S : Nat → Mem) (lat : Nat → Int32) (x2 : Int32) (x3 : Int32) (k : Int32 → Int32 → Int32 → Option Int32) (x4 : Int32) (x5 : Int32) (x6 : Int32) (s0 : Int32) : Option Int32 :=
  (pX4_isFound t u hh S x6).bind fun y1301 =>
  if y1301 = 0 then
    pL_holds_336 t u hh S lat x2 x3 k x5 x6 s0 x4 1
  else
    pL_holds_336 t u hh S lat x2 x3 k x5 x6 s0 x4 0
def pL_holds_498 (t : Mem) (u : Mem) (hh : Mem) (S : Nat → Mem) (lat : Nat → Int32) (s0 : Int32) : Option Int32 :=
  if isz s0 = true then some s0 else none
def pL_holds_497 (t : Mem) (u : Mem) (hh : Mem) (S : Nat → Mem) (lat : Nat → Int32) : Option Int32 :=
  pL_holds_498 t u hh S lat 0
def pL_holds_490 (t : Mem) (u : Mem) (hh : Mem) (S : Nat → Mem) (lat : Nat → Int32) (s0 : Int32) (s1 : Int32) : Option Int32 :=
  if s0 = s1 then
    pL_holds_498 t u hh S lat 1
  else
    pL_holds_497 t u hh S lat
def pL_holds_485 (t : Mem) (u : Mem) (hh : Mem) (S : Nat → Mem) (lat : Nat → Int32) (s0 : Int32) : Option Int32 :=
  pL_holds_490 t u hh S lat s0 1
def pL_holds_489 (t : Mem) (u : Mem) (hh : Mem) (S : Nat → Mem) (lat : Nat → Int32) (s0 : Int32) : Option Int32 :=
  pL_holds_490 t u hh S lat s0 0
def pL_holds_467 (t : Mem) (u : Mem) (hh : Mem) (S : Nat → Mem) (lat : Nat → Int32) (x3 : Int32) (s0 : Int32) : Option Int32 :=
  if x3 = 0 then
    pL_holds_485 t u hh S lat s0
  else
    (pX4_isOn t u hh S).bind fun y2002 =>
    if y2002 = 0 then
      pL_holds_489 t u hh S lat s0
    else
      (pX4_isIn t u hh S).bind fun y2004 =>
      if y2004 = 0 then
        pL_holds_489 t u hh S lat s0
      else
        pL_holds_485 t u hh S lat s0
def pL_holds_450 (t : Mem) (u : Mem) (hh : Mem) (S : Nat → Mem) (lat : Nat → Int32) (x3 : Int32) (s0 : Int32) (s1 : Int32) (s2 : Int32) : Option Int32 :=
  if (s1 + s2) < s0 then
    pL_holds_497 t u hh S lat
  else
    (pX4_ticksToLoss t u hh S).bind fun y1902 =>
    if y1902 = (-1) then
      pL_holds_467 t u hh S lat x3 1
    else
      pL_holds_467 t u hh S lat x3 0
def pL_holds_294b (t : Mem) (u : Mem) (hh : Mem) (S : Nat → Mem) (lat : Nat → Int32) (x2 : Int32) (x3 : Int32) (k : Int32 → Int32 → Int32 → Option Int32) (x4 : Int32) (x5 : Int32) (x6 : Int32) : Option Int32 :=
  if 64 ≤ x6 then
    if x5 = 0 then
      pL_holds_497 t u hh S lat
    else
      (pX4_used t u hh S).bind fun y1203 =>
      if y1203 = x2 then
        (pX4_dirty t u hh S).bind fun y1205 =>
        if y1205 = x3 then
          (pX4_missing t u hh S).bind fun y1207 =>
          if y1207 = x4 then
            (pX4_count t u hh S 6).bind fun y1209 =>
            (pX4_isIn t u hh S).bind fun y1210 =>
            if y1210 = 0 then
              pL_holds_450 t u hh S lat x3 x4 y1209 x3
            else
              pL_holds_450 t u hh S lat x3 x4 y1209 0
          else
            pL_holds_497 t u hh S lat
        else
          pL_holds_497 t u hh S lat
      else
        pL_holds_497 t u hh S lat
  else
    (pX4_isIn t u hh S).bind fun y1212 =>
    if y1212 = 0 then
      pL_holds_318 t u hh S lat x2 x3 k x4 x5 x6 (-1)
    else
      (pL_lineOf t u hh S x6).bind fun y1214 =>
      pL_holds_318 t u hh S lat x2 x3 k x4 x5 x6 y1214
def pL_holds_294 (t : Mem) (u : Mem) (hh : Mem) (S : Nat → Mem) (lat : Nat → Int32) (x2 : Int32) (x3 : Int32) : Nat → Int32 → Int32 → Int32 → Option Int32
  | 0, _, _, _ => none
  | n + 1, x4, x5, x6 => pL_holds_294b t u hh S lat x2 x3 (pL_holds_294 t u hh S lat x2 x3 n) x4 x5 x6
def pL_holds_247b (t : Mem) (u : Mem) (hh : Mem) (S : Nat → Mem) (lat : Nat → Int32) (x2 : Int32) (x3 : Int32) (x4 : Int32) (k : Int32 → Int32 → Option Int32) (x5 : Int32) (x6 : Int32) : Option Int32 :=
  if 16 ≤ x6 then
    pL_holds_294 t u hh S lat x2 x3 FU x4 x5 0
  else
    if x5 = 0 then
      pL_holds_282 t u hh S lat x2 x3 x4 k x6
    else
      (pX4_dirtyOf t u hh S x6).bind fun y903 =>
      if y903 < 0 then
        pL_holds_282 t u hh S lat x2 x3 x4 k x6
      else
        (pX4_dirtyOf t u hh S x6).bind fun y905 =>
        if 3 < y905 then
          pL_holds_282 t u hh S lat x2 x3 x4 k x6
        else
          pL_holds_283 t u hh S lat x2 x3 x4 k x6 1
def pL_holds_247 (t : Mem) (u : Mem) (hh : Mem) (S : Nat → Mem) (lat : Nat → Int32) (x2 : Int32) (x3 : Int32) (x4 : Int32) : Nat → Int32 → Int32 → Option Int32
  | 0, _, _ => none
  | n + 1, x5, x6 => pL_holds_247b t u hh S lat x2 x3 x4 (pL_holds_247 t u hh S lat x2 x3 x4 n) x5 x6
def pL_holds_65b (t : Mem) (u : Mem) (hh : Mem) (S : Nat → Mem) (lat : Nat → Int32) (x4 : Int32) (k : Int32 → Int32 → Int32 → Int32 → Option Int32) (x2 : Int32) (x3 : Int32) (x5 : Int32) (x6 : Int32) : Option Int32 :=
  if 12 ≤ x6 then
    pL_holds_247 t u hh S lat x2 x3 x4 FU x5 0
  else
    (pX4_line t u hh S (x6 / 3) (x6 - x6 / 3 * 3) 0).bind fun y202 =>
    if y202 = (-1) then
      pL_holds_238 t u hh S lat x4 k x2 x3 x5 x6
    else
      (pX4_line t u hh S (x6 / 3) (x6 - x6 / 3 * 3) 4).bind fun y204 =>
      if x5 = 0 then
        pL_holds_177 t u hh S lat x4 k (x2 + 1) (x3 + y204) x6 y202
      else
        if ((y202 / 4) - (y202 / 4) / 4 * 4) = (x6 / 3) then
          (pL_lineOf t u hh S y202).bind fun y207 =>
          if y207 = x6 then
            (pX4_line t u hh S (x6 / 3) (x6 - x6 / 3 * 3) 2).bind fun y209 =>
            if y209 ≤ 0 then
              pL_holds_177 t u hh S lat x4 k (x2 + 1) (x3 + y204) x6 y202
            else
              (pX4_line t u hh S (x6 / 3) (x6 - x6 / 3 * 3) 3).bind fun y211 =>
              if y211 ≤ 0 then
                pL_holds_177 t u hh S lat x4 k (x2 + 1) (x3 + y204) x6 y202
              else
                pL_holds_178 t u hh S lat x4 k (x2 + 1) (x3 + y204) x6 y202 1
          else
            pL_holds_177 t u hh S lat x4 k (x2 + 1) (x3 + y204) x6 y202
        else
          pL_holds_177 t u hh S lat x4 k (x2 + 1) (x3 + y204) x6 y202
def pL_holds_65 (t : Mem) (u : Mem) (hh : Mem) (S : Nat → Mem) (lat : Nat → Int32) (x4 : Int32) : Nat → Int32 → Int32 → Int32 → Int32 → Option Int32
  | 0, _, _, _, _ => none
  | n + 1, x2, x3, x5, x6 => pL_holds_65b t u hh S lat x4 (pL_holds_65 t u hh S lat x4 n) x2 x3 x5 x6
def pL_holds_60 (t : Mem) (u : Mem) (hh : Mem) (S : Nat → Mem) (lat : Nat → Int32) (x2 : Int32) (x3 : Int32) (x4 : Int32) (s0 : Int32) : Option Int32 :=
  pL_holds_65 t u hh S lat x4 FU x2 x3 s0 0
def rmL_holds : Room := { frames := 4, cells := 0, slots := 0, locals := 88 }
theorem hd_L_holds : yL_holds.cls ≠ "java/lang/invoke/MethodHandle" ∧ yL_holds.cls ≠ "java/lang/invoke/VarHandle" ∧ (parseMethodDescriptor yL_holds.desc).map (fun d => d.parameters.length) = some 2 := by decide +kernel
set_option maxHeartbeats 4000000 in
set_option maxRecDepth 100000 in
theorem tl_L_holds {p : Program} {l : Launch} {e : Env} {s : State} {m : MethodId} {args : Array Value} {below : List Frame} {meth : Method} {c : Code} {Q : State → Prop} {D : va_G} {ca : Gp} {A : Nat → Prop} {a b h : Nat → Nat} {f : Nat → Nat → Nat} {wr : va_W} {q : Nat} {t u hh : Mem} {S : Nat → Mem} {lat : Nat → Int32} {r : Int32} (C0 : Cx p s m args c cL_holds 8 wsL_holds RL D ca A) (hend : ∀ (H : Heap) (locs : List Loc) (pc : Nat) (ls : Array Slot), HS D A s (gW a b h f ca t u hh S ((q, .inl (ca.1 0, 64, .inl lat)) :: wr)) H locs → narrow .boolean (.int r) = .int r → decode cL_holds pc = .ok (.ireturn, 1) → W p l e rmL_holds s m args below meth c H locs 0 0 Q (F0 m pc ls [.int r])) : ∀ (x2 : Int32) (x3 : Int32) (x4 : Int32) (s0 : Int32) (H : Heap) (locs : List Loc) (ls : Array Slot), pL_holds_60 t u hh S lat x2 x3 x4 s0 = some r → HS D A s (gW a b h f ca t u hh S ((q, .inl (ca.1 0, 64, .inl lat)) :: wr)) H locs → lv_has ls 8 [(0, .ref (h 2)), (1, .ref q), (2, .int x2), (3, .int x3), (4, .int x4)] → W p l e rmL_holds s m args below meth c H locs 0 0 Q (F0 m 60 ls [.int s0]) := by
  obtain ⟨hx, hb, hml, hown, hts⟩ := id C0.1
  have J498 : ∀ (s0 : Int32) (H : Heap) (locs : List Loc) (ls : Array Slot), pL_holds_498 t u hh S lat s0 = some r → HS D A s (gW a b h f ca t u hh S ((q, .inl (ca.1 0, 64, .inl lat)) :: wr)) H locs → lv_has ls 8 [] → W p l e rmL_holds s m args below meth c H locs 0 0 Q (F0 m 498 ls [.int s0]) := by
    intro s0 H locs ls hf hH hl
    unfold pL_holds_498 at hf
    obtain ⟨hz, hf⟩ := gd hf
    cases hf
    exact hend _ _ _ _ hH (isz_n hz) dL_holds_498
  have J497 : ∀ (H : Heap) (locs : List Loc) (ls : Array Slot), pL_holds_497 t u hh S lat  = some r → HS D A s (gW a b h f ca t u hh S ((q, .inl (ca.1 0, 64, .inl lat)) :: wr)) H locs → lv_has ls 8 [] → W p l e rmL_holds s m args below meth c H locs 0 0 Q (F0 m 497 ls []) := by
    intro H locs ls hf hH hl
    unfold pL_holds_497 at hf
    refine lv_iconst (v := 0) hx hb dL_holds_497 (by decide) ?_
    exact J498 _ _ _ _ hf hH (lv_sub hl [] rfl)
  have J490 : ∀ (s0 : Int32) (s1 : Int32) (H : Heap) (locs : List Loc) (ls : Array Slot), pL_holds_490 t u hh S lat s0 s1 = some r → HS D A s (gW a b h f ca t u hh S ((q, .inl (ca.1 0, 64, .inl lat)) :: wr)) H locs → lv_has ls 8 [] → W p l e rmL_holds s m args below meth c H locs 0 0 Q (F0 m 490 ls [.int s1, .int s0]) := by
    intro s0 s1 H locs ls hf hH hl
    unfold pL_holds_490 at hf
    refine lv_icmp_ne (tgt := 497) hx hb dL_holds_490 (by decide) (fun c2301 => ?_) (fun c2301 => ?_)
    · rw [if_neg c2301] at hf
      exact J497 _ _ _ hf hH (lv_sub hl [] rfl)
    · rw [if_pos c2301] at hf
      refine lv_iconst (v := 1) hx hb dL_holds_493 (by decide) ?_
      refine lv_goto (tgt := 498) hx hb dL_holds_494 (by decide) ?_
      exact J498 _ _ _ _ hf hH (lv_sub hl [] rfl)
  have J485 : ∀ (s0 : Int32) (H : Heap) (locs : List Loc) (ls : Array Slot), pL_holds_485 t u hh S lat s0 = some r → HS D A s (gW a b h f ca t u hh S ((q, .inl (ca.1 0, 64, .inl lat)) :: wr)) H locs → lv_has ls 8 [] → W p l e rmL_holds s m args below meth c H locs 0 0 Q (F0 m 485 ls [.int s0]) := by
    intro s0 H locs ls hf hH hl
    unfold pL_holds_485 at hf
    refine lv_iconst (v := 1) hx hb dL_holds_485 (by decide) ?_
    refine lv_goto (tgt := 490) hx hb dL_holds_486 (by decide) ?_
    exact J490 _ _ _ _ _ hf hH (lv_sub hl [] rfl)
  have J489 : ∀ (s0 : Int32) (H : Heap) (locs : List Loc) (ls : Array Slot), pL_holds_489 t u hh S lat s0 = some r → HS D A s (gW a b h f ca t u hh S ((q, .inl (ca.1 0, 64, .inl lat)) :: wr)) H locs → lv_has ls 8 [] → W p l e rmL_holds s m args below meth c H locs 0 0 Q (F0 m 489 ls [.int s0]) := by
    intro s0 H locs ls hf hH hl
    unfold pL_holds_489 at hf
    refine lv_iconst (v := 0) hx hb dL_holds_489 (by decide) ?_
    exact J490 _ _ _ _ _ hf hH (lv_sub hl [] rfl)
  have J467 : ∀ (x3 : Int32) (s0 : Int32) (H : Heap) (locs : List Loc) (ls : Array Slot), pL_holds_467 t u hh S lat x3 s0 = some r → HS D A s (gW a b h f ca t u hh S ((q, .inl (ca.1 0, 64, .inl lat)) :: wr)) H locs → lv_has ls 8 [(0, .ref (h 2)), (3, .int x3)] → W p l e rmL_holds s m args below meth c H locs 0 0 Q (F0 m 467 ls [.int s0]) := by
    intro x3 s0 H locs ls hf hH hl
    unfold pL_holds_467 at hf
    refine lv_iload_n hx hb dL_holds_467 rfl (lv_at hl 1 rfl) ?_
    refine lv_if_eq (tgt := 485) hx hb dL_holds_468 (by decide) (fun c2001 => ?_) (fun c2001 => ?_)
    · rw [if_pos c2001] at hf
      exact J485 _ _ _ _ hf hH (lv_sub hl [] rfl)
    · rw [if_neg c2001] at hf
      refine lv_aload_n hx hb dL_holds_471 rfl (lv_at hl 0 rfl) ?_
      obtain ⟨y2002, h_y2002, hf⟩ := bnd hf
      refine cl_iV C0 hH hl.1 (As := []) (rest := [.int s0]) (mX4_isOn l D ca a b h f ((q, .inl (ca.1 0, 64, .inl lat)) :: wr) t u hh S h_y2002) gL_holds_X4_isOn rfl rfl rfl hd_X4_isOn ⟨Nat.le_of_ble_eq_true rfl, Nat.le_of_ble_eq_true rfl⟩ ⟨Nat.zero_le _, Nat.zero_le _⟩ (vG_X4 C0 hH) rfl (Nat.le_of_ble_eq_true rfl) dL_holds_472 (fun H locs hH => ?_)
      refine lv_if_eq (tgt := 489) hx hb dL_holds_475 (by decide) (fun c2003 => ?_) (fun c2003 => ?_)
      · rw [if_pos c2003] at hf
        exact J489 _ _ _ _ hf hH (lv_sub hl [] rfl)
      · rw [if_neg c2003] at hf
        refine lv_aload_n hx hb dL_holds_478 rfl (lv_at hl 0 rfl) ?_
        obtain ⟨y2004, h_y2004, hf⟩ := bnd hf
        refine cl_iV C0 hH hl.1 (As := []) (rest := [.int s0]) (mX4_isIn l D ca a b h f ((q, .inl (ca.1 0, 64, .inl lat)) :: wr) t u hh S h_y2004) gL_holds_X4_isIn rfl rfl rfl hd_X4_isIn ⟨Nat.le_of_ble_eq_true rfl, Nat.le_of_ble_eq_true rfl⟩ ⟨Nat.zero_le _, Nat.zero_le _⟩ (vG_X4 C0 hH) rfl (Nat.le_of_ble_eq_true rfl) dL_holds_479 (fun H locs hH => ?_)
        refine lv_if_eq (tgt := 489) hx hb dL_holds_482 (by decide) (fun c2005 => ?_) (fun c2005 => ?_)
        · rw [if_pos c2005] at hf
          exact J489 _ _ _ _ hf hH (lv_sub hl [] rfl)
        · rw [if_neg c2005] at hf
          exact J485 _ _ _ _ hf hH (lv_sub hl [] rfl)
  have J450 : ∀ (x3 : Int32) (s0 : Int32) (s1 : Int32) (s2 : Int32) (H : Heap) (locs : List Loc) (ls : Array Slot), pL_holds_450 t u hh S lat x3 s0 s1 s2 = some r → HS D A s (gW a b h f ca t u hh S ((q, .inl (ca.1 0, 64, .inl lat)) :: wr)) H locs → lv_has ls 8 [(0, .ref (h 2)), (3, .int x3)] → W p l e rmL_holds s m args below meth c H locs 0 0 Q (F0 m 450 ls [.int s2, .int s1, .int s0]) := by
    intro x3 s0 s1 s2 H locs ls hf hH hl
    unfold pL_holds_450 at hf
    refine lv_iadd hx hb dL_holds_450 ?_
    refine lv_icmp_gt (tgt := 497) hx hb dL_holds_451 (by decide) (fun c1901 => ?_) (fun c1901 => ?_)
    · rw [if_pos c1901] at hf
      exact J497 _ _ _ hf hH (lv_sub hl [] rfl)
    · rw [if_neg c1901] at hf
      refine lv_aload_n hx hb dL_holds_454 rfl (lv_at hl 0 rfl) ?_
      obtain ⟨y1902, h_y1902, hf⟩ := bnd hf
      refine cl_iV C0 hH hl.1 (As := []) (rest := []) (mX4_ticksToLoss l D ca a b h f ((q, .inl (ca.1 0, 64, .inl lat)) :: wr) t u hh S h_y1902) gL_holds_X4_ticksToLoss rfl rfl rfl hd_X4_ticksToLoss ⟨Nat.le_of_ble_eq_true rfl, Nat.le_of_ble_eq_true rfl⟩ ⟨Nat.zero_le _, Nat.zero_le _⟩ (vG_X4 C0 hH) rfl (Nat.le_of_ble_eq_true rfl) dL_holds_455 (fun H locs hH => ?_)
      refine lv_iconst (v := (-1)) hx hb dL_holds_458 (by decide) ?_
      refine lv_icmp_ne (tgt := 466) hx hb dL_holds_459 (by decide) (fun c1903 => ?_) (fun c1903 => ?_)
      · rw [if_neg c1903] at hf
        refine lv_iconst (v := 0) hx hb dL_holds_466 (by decide) ?_
        exact J467 _ _ _ _ _ hf hH (lv_sub hl [0, 1] rfl)
      · rw [if_pos c1903] at hf
        refine lv_iconst (v := 1) hx hb dL_holds_462 (by decide) ?_
        refine lv_goto (tgt := 467) hx hb dL_holds_463 (by decide) ?_
        exact J467 _ _ _ _ _ hf hH (lv_sub hl [0, 1] rfl)
  have J294 : ∀ (x2 : Int32) (x3 : Int32) (n : Nat) (x4 : Int32) (x5 : Int32) (x6 : Int32) (H : Heap) (locs : List Loc) (ls : Array Slot), pL_holds_294 t u hh S lat x2 x3 n x4 x5 x6 = some r → HS D A s (gW a b h f ca t u hh S ((q, .inl (ca.1 0, 64, .inl lat)) :: wr)) H locs → lv_has ls 8 [(0, .ref (h 2)), (1, .ref q), (2, .int x2), (3, .int x3), (4, .int x4), (5, .int x5), (6, .int x6)] → W p l e rmL_holds s m args below meth c H locs 0 0 Q (F0 m 294 ls []) := by
    intro x2 x3 n
    induction n with
    | zero => intro x4 x5 x6 H locs ls hf; cases hf
    | succ n ih =>
      intro x4 x5 x6 H locs ls hf hH hl
      have hf : pL_holds_294b t u hh S lat x2 x3 (pL_holds_294 t u hh S lat x2 x3 n) x4 x5 x6 = some r := hf
      have J392 : ∀ (x4 : Int32) (x6 : Int32) (s0 : Int32) (H : Heap) (locs : List Loc) (ls : Array Slot), pL_holds_392 t u hh S lat x2 x3 (pL_holds_294 t u hh S lat x2 x3 n) x4 x6 s0 = some r → HS D A s (gW a b h f ca t u hh S ((q, .inl (ca.1 0, 64, .inl lat)) :: wr)) H locs → lv_has ls 8 [(0, .ref (h 2)), (1, .ref q), (2, .int x2), (3, .int x3), (4, .int x4), (6, .int x6)] → W p l e rmL_holds s m args below meth c H locs 0 0 Q (F0 m 392 ls [.int s0]) := by
        intro x4 x6 s0 H locs ls hf hH hl
        unfold pL_holds_392 at hf
        refine lv_istore (lv' := [(5, .int s0), (0, .ref (h 2)), (1, .ref q), (2, .int x2), (3, .int x3), (4, .int x4), (6, .int x6)]) hx hb dL_holds_392 hl (by decide) rfl (fun ls hl => ?_)
        refine lv_iinc (v := (x6 + 1)) (lv' := [(6, .int (x6 + 1)), (5, .int s0), (0, .ref (h 2)), (1, .ref q), (2, .int x2), (3, .int x3), (4, .int x4)]) hx hb dL_holds_394 hl (k := 6) rfl rfl (by decide) rfl (fun ls hl => ?_)
        refine lv_goto (tgt := 294) hx hb dL_holds_397 (by decide) ?_
        exact ih _ _ _ _ _ _ hf hH (lv_sub hl [2, 3, 4, 5, 6, 1, 0] rfl)
      have J387 : ∀ (x4 : Int32) (x6 : Int32) (H : Heap) (locs : List Loc) (ls : Array Slot), pL_holds_387 t u hh S lat x2 x3 (pL_holds_294 t u hh S lat x2 x3 n) x4 x6 = some r → HS D A s (gW a b h f ca t u hh S ((q, .inl (ca.1 0, 64, .inl lat)) :: wr)) H locs → lv_has ls 8 [(0, .ref (h 2)), (1, .ref q), (2, .int x2), (3, .int x3), (4, .int x4), (6, .int x6)] → W p l e rmL_holds s m args below meth c H locs 0 0 Q (F0 m 387 ls []) := by
        intro x4 x6 H locs ls hf hH hl
        unfold pL_holds_387 at hf
        refine lv_iconst (v := 1) hx hb dL_holds_387 (by decide) ?_
        refine lv_goto (tgt := 392) hx hb dL_holds_388 (by decide) ?_
        exact J392 _ _ _ _ _ _ hf hH (lv_sub hl [0, 1, 2, 3, 4, 5] rfl)
      have J391 : ∀ (x4 : Int32) (x6 : Int32) (H : Heap) (locs : List Loc) (ls : Array Slot), pL_holds_391 t u hh S lat x2 x3 (pL_holds_294 t u hh S lat x2 x3 n) x4 x6 = some r → HS D A s (gW a b h f ca t u hh S ((q, .inl (ca.1 0, 64, .inl lat)) :: wr)) H locs → lv_has ls 8 [(0, .ref (h 2)), (1, .ref q), (2, .int x2), (3, .int x3), (4, .int x4), (6, .int x6)] → W p l e rmL_holds s m args below meth c H locs 0 0 Q (F0 m 391 ls []) := by
        intro x4 x6 H locs ls hf hH hl
        unfold pL_holds_391 at hf
        refine lv_iconst (v := 0) hx hb dL_holds_391 (by decide) ?_
        exact J392 _ _ _ _ _ _ hf hH (lv_sub hl [0, 1, 2, 3, 4, 5] rfl)
      have J384 : ∀ (x4 : Int32) (x6 : Int32) (s0 : Int32) (s1 : Int32) (H : Heap) (locs : List Loc) (ls : Array Slot), pL_holds_384 t u hh S lat x2 x3 (pL_holds_294 t u hh S lat x2 x3 n) x4 x6 s0 s1 = some r → HS D A s (gW a b h f ca t u hh S ((q, .inl (ca.1 0, 64, .inl lat)) :: wr)) H locs → lv_has ls 8 [(0, .ref (h 2)), (1, .ref q), (2, .int x2), (3, .int x3), (4, .int x4), (6, .int x6)] → W p l e rmL_holds s m args below meth c H locs 0 0 Q (F0 m 384 ls [.int s1, .int s0]) := by
        intro x4 x6 s0 s1 H locs ls hf hH hl
        unfold pL_holds_384 at hf
        refine lv_icmp_ne (tgt := 391) hx hb dL_holds_384 (by decide) (fun c1501 => ?_) (fun c1501 => ?_)
        · rw [if_neg c1501] at hf
          exact J391 _ _ _ _ _ hf hH (lv_sub hl [0, 1, 2, 3, 4, 5] rfl)
        · rw [if_pos c1501] at hf
          exact J387 _ _ _ _ _ hf hH (lv_sub hl [0, 1, 2, 3, 4, 5] rfl)
      have J336 : ∀ (x5 : Int32) (x6 : Int32) (x7 : Int32) (s0 : Int32) (s1 : Int32) (H : Heap) (locs : List Loc) (ls : Array Slot), pL_holds_336 t u hh S lat x2 x3 (pL_holds_294 t u hh S lat x2 x3 n) x5 x6 x7 s0 s1 = some r → HS D A s (gW a b h f ca t u hh S ((q, .inl (ca.1 0, 64, .inl lat)) :: wr)) H locs → lv_has ls 8 [(0, .ref (h 2)), (1, .ref q), (2, .int x2), (3, .int x3), (5, .int x5), (6, .int x6), (7, .int x7)] → W p l e rmL_holds s m args below meth c H locs 0 0 Q (F0 m 336 ls [.int s1, .int s0]) := by
        intro x5 x6 x7 s0 s1 H locs ls hf hH hl
        unfold pL_holds_336 at hf
        refine lv_iadd hx hb dL_holds_336 ?_
        refine lv_istore (lv' := [(4, .int (s0 + s1)), (0, .ref (h 2)), (1, .ref q), (2, .int x2), (3, .int x3), (5, .int x5), (6, .int x6), (7, .int x7)]) hx hb dL_holds_337 hl (by decide) rfl (fun ls hl => ?_)
        refine lv_iload hx hb dL_holds_339 (lv_at hl 5 rfl) ?_
        refine lv_if_eq (tgt := 391) hx hb dL_holds_341 (by decide) (fun c1401 => ?_) (fun c1401 => ?_)
        · rw [if_pos c1401] at hf
          exact J391 _ _ _ _ _ hf hH (lv_sub hl [1, 2, 3, 4, 0, 6] rfl)
        · rw [if_neg c1401] at hf
          refine lv_aload_n hx hb dL_holds_344 rfl (lv_at hl 1 rfl) ?_
          refine lv_iload hx hb dL_holds_345 (lv_at hl 6 rfl) ?_
          obtain ⟨y1402, h_y1402, hf⟩ := bnd hf
          refine cl_iV C0 hH hl.1 (As := [.int x6]) (rest := []) (mX4_isFound l D ca a b h f ((q, .inl (ca.1 0, 64, .inl lat)) :: wr) t u hh S x6 h_y1402) gL_holds_X4_isFound rfl rfl rfl hd_X4_isFound ⟨Nat.le_of_ble_eq_true rfl, Nat.le_of_ble_eq_true rfl⟩ ⟨Nat.zero_le _, Nat.zero_le _⟩ (vG_X4 C0 hH) rfl (Nat.le_of_ble_eq_true rfl) dL_holds_347 (fun H locs hH => ?_)
          refine lv_if_eq (tgt := 387) hx hb dL_holds_350 (by decide) (fun c1403 => ?_) (fun c1403 => ?_)
          · rw [if_pos c1403] at hf
            exact J387 _ _ _ _ _ hf hH (lv_sub hl [1, 2, 3, 4, 0, 6] rfl)
          · rw [if_neg c1403] at hf
            refine lv_aload_n hx hb dL_holds_353 rfl (lv_at hl 2 rfl) ?_
            refine lv_iload hx hb dL_holds_354 (lv_at hl 6 rfl) ?_
            obtain ⟨y1404, h_y1404, hf⟩ := bnd hf
            refine lQ C0 hH h_y1404 dL_holds_356 ?_
            refine lv_iload hx hb dL_holds_357 (lv_at hl 7 rfl) ?_
            refine lv_if_lt (tgt := 378) hx hb dL_holds_359 (by decide) (fun c1405 => ?_) (fun c1405 => ?_)
            · rw [if_pos c1405] at hf
              refine lv_aload_n hx hb dL_holds_378 rfl (lv_at hl 1 rfl) ?_
              refine lv_iload hx hb dL_holds_379 (lv_at hl 6 rfl) ?_
              obtain ⟨y1406, h_y1406, hf⟩ := bnd hf
              refine cl_iV C0 hH hl.1 (As := [.int x6]) (rest := [.int y1404]) (mX4_onDisk l D ca a b h f ((q, .inl (ca.1 0, 64, .inl lat)) :: wr) t u hh S x6 h_y1406) gL_holds_X4_onDisk rfl rfl rfl hd_X4_onDisk ⟨Nat.le_of_ble_eq_true rfl, Nat.le_of_ble_eq_true rfl⟩ ⟨Nat.zero_le _, Nat.zero_le _⟩ (vG_X4 C0 hH) rfl (Nat.le_of_ble_eq_true rfl) dL_holds_381 (fun H locs hH => ?_)
              exact J384 _ _ _ _ _ _ _ hf hH (lv_sub hl [1, 2, 3, 4, 0, 6] rfl)
            · rw [if_neg c1405] at hf
              refine lv_aload_n hx hb dL_holds_362 rfl (lv_at hl 1 rfl) ?_
              refine lv_iload hx hb dL_holds_363 (lv_at hl 7 rfl) ?_
              refine lv_iconst (v := 3) hx hb dL_holds_365 (by decide) ?_
              refine lv_idiv hx hb dL_holds_366 (by decide) ?_
              refine lv_iload hx hb dL_holds_367 (lv_at hl 7 rfl) ?_
              refine lv_iconst (v := 3) hx hb dL_holds_369 (by decide) ?_
              refine lv_irem hx hb dL_holds_370 (by decide) ?_
              refine lv_iconst (v := 1) hx hb dL_holds_371 (by decide) ?_
              obtain ⟨y1407, h_y1407, hf⟩ := bnd hf
              refine cl_iV C0 hH hl.1 (As := [.int (x7 / 3), .int (x7 - x7 / 3 * 3), .int 1]) (rest := [.int y1404]) (mX4_line l D ca a b h f ((q, .inl (ca.1 0, 64, .inl lat)) :: wr) t u hh S (x7 / 3) (x7 - x7 / 3 * 3) 1 h_y1407) gL_holds_X4_line rfl rfl rfl hd_X4_line ⟨Nat.le_of_ble_eq_true rfl, Nat.le_of_ble_eq_true rfl⟩ ⟨Nat.zero_le _, Nat.zero_le _⟩ (vG_X4 C0 hH) rfl (Nat.le_of_ble_eq_true rfl) dL_holds_372 (fun H locs hH => ?_)
              refine lv_goto (tgt := 384) hx hb dL_holds_375 (by decide) ?_
              exact J384 _ _ _ _ _ _ _ hf hH (lv_sub hl [1, 2, 3, 4, 0, 6] rfl)
      have J318 : ∀ (x4 : Int32) (x5 : Int32) (x6 : Int32) (s0 : Int32) (H : Heap) (locs : List Loc) (ls : Array Slot), pL_holds_318 t u hh S lat x2 x3 (pL_holds_294 t u hh S lat x2 x3 n) x4 x5 x6 s0 = some r → HS D A s (gW a b h f ca t u hh S ((q, .inl (ca.1 0, 64, .inl lat)) :: wr)) H locs → lv_has ls 8 [(0, .ref (h 2)), (1, .ref q), (2, .int x2), (3, .int x3), (4, .int x4), (5, .int x5), (6, .int x6)] → W p l e rmL_holds s m args below meth c H locs 0 0 Q (F0 m 318 ls [.int s0]) := by
        intro x4 x5 x6 s0 H locs ls hf hH hl
        unfold pL_holds_318 at hf
        refine lv_istore (lv' := [(7, .int s0), (0, .ref (h 2)), (1, .ref q), (2, .int x2), (3, .int x3), (4, .int x4), (5, .int x5), (6, .int x6)]) hx hb dL_holds_318 hl (by decide) rfl (fun ls hl => ?_)
        refine lv_iload hx hb dL_holds_320 (lv_at hl 5 rfl) ?_
        refine lv_aload_n hx hb dL_holds_322 rfl (lv_at hl 1 rfl) ?_
        refine lv_iload hx hb dL_holds_323 (lv_at hl 7 rfl) ?_
        obtain ⟨y1301, h_y1301, hf⟩ := bnd hf
        refine cl_iV C0 hH hl.1 (As := [.int x6]) (rest := [.int x4]) (mX4_isFound l D ca a b h f ((q, .inl (ca.1 0, 64, .inl lat)) :: wr) t u hh S x6 h_y1301) gL_holds_X4_isFound rfl rfl rfl hd_X4_isFound ⟨Nat.le_of_ble_eq_true rfl, Nat.le_of_ble_eq_true rfl⟩ ⟨Nat.zero_le _, Nat.zero_le _⟩ (vG_X4 C0 hH) rfl (Nat.le_of_ble_eq_true rfl) dL_holds_325 (fun H locs hH => ?_)
        refine lv_if_eq (tgt := 335) hx hb dL_holds_328 (by decide) (fun c1302 => ?_) (fun c1302 => ?_)
        · rw [if_pos c1302] at hf
          refine lv_iconst (v := 1) hx hb dL_holds_335 (by decide) ?_
          exact J336 _ _ _ _ _ _ _ _ hf hH (lv_sub hl [1, 2, 3, 4, 6, 7, 0] rfl)
        · rw [if_neg c1302] at hf
          refine lv_iconst (v := 0) hx hb dL_holds_331 (by decide) ?_
          refine lv_goto (tgt := 336) hx hb dL_holds_332 (by decide) ?_
          exact J336 _ _ _ _ _ _ _ _ hf hH (lv_sub hl [1, 2, 3, 4, 6, 7, 0] rfl)
      unfold pL_holds_294b at hf
      refine lv_iload hx hb dL_holds_294 (lv_at hl 6 rfl) ?_
      refine lv_bipush (v := 64) hx hb dL_holds_296 (by decide) ?_
      refine lv_icmp_ge (tgt := 400) hx hb dL_holds_298 (by decide) (fun c1201 => ?_) (fun c1201 => ?_)
      · rw [if_pos c1201] at hf
        refine lv_iload hx hb dL_holds_400 (lv_at hl 5 rfl) ?_
        refine lv_if_eq (tgt := 497) hx hb dL_holds_402 (by decide) (fun c1202 => ?_) (fun c1202 => ?_)
        · rw [if_pos c1202] at hf
          exact J497 _ _ _ hf hH (lv_sub hl [] rfl)
        · rw [if_neg c1202] at hf
          refine lv_aload_n hx hb dL_holds_405 rfl (lv_at hl 0 rfl) ?_
          obtain ⟨y1203, h_y1203, hf⟩ := bnd hf
          refine cl_iV C0 hH hl.1 (As := []) (rest := []) (mX4_used l D ca a b h f ((q, .inl (ca.1 0, 64, .inl lat)) :: wr) t u hh S h_y1203) gL_holds_X4_used rfl rfl rfl hd_X4_used ⟨Nat.le_of_ble_eq_true rfl, Nat.le_of_ble_eq_true rfl⟩ ⟨Nat.zero_le _, Nat.zero_le _⟩ (vG_X4 C0 hH) rfl (Nat.le_of_ble_eq_true rfl) dL_holds_406 (fun H locs hH => ?_)
          refine lv_iload_n hx hb dL_holds_409 rfl (lv_at hl 2 rfl) ?_
          refine lv_icmp_ne (tgt := 497) hx hb dL_holds_410 (by decide) (fun c1204 => ?_) (fun c1204 => ?_)
          · rw [if_neg c1204] at hf
            exact J497 _ _ _ hf hH (lv_sub hl [] rfl)
          · rw [if_pos c1204] at hf
            refine lv_aload_n hx hb dL_holds_413 rfl (lv_at hl 0 rfl) ?_
            obtain ⟨y1205, h_y1205, hf⟩ := bnd hf
            refine cl_iV C0 hH hl.1 (As := []) (rest := []) (mX4_dirty l D ca a b h f ((q, .inl (ca.1 0, 64, .inl lat)) :: wr) t u hh S h_y1205) gL_holds_X4_dirty rfl rfl rfl hd_X4_dirty ⟨Nat.le_of_ble_eq_true rfl, Nat.le_of_ble_eq_true rfl⟩ ⟨Nat.zero_le _, Nat.zero_le _⟩ (vG_X4 C0 hH) rfl (Nat.le_of_ble_eq_true rfl) dL_holds_414 (fun H locs hH => ?_)
            refine lv_iload_n hx hb dL_holds_417 rfl (lv_at hl 3 rfl) ?_
            refine lv_icmp_ne (tgt := 497) hx hb dL_holds_418 (by decide) (fun c1206 => ?_) (fun c1206 => ?_)
            · rw [if_neg c1206] at hf
              exact J497 _ _ _ hf hH (lv_sub hl [] rfl)
            · rw [if_pos c1206] at hf
              refine lv_aload_n hx hb dL_holds_421 rfl (lv_at hl 0 rfl) ?_
              obtain ⟨y1207, h_y1207, hf⟩ := bnd hf
              refine cl_iV C0 hH hl.1 (As := []) (rest := []) (mX4_missing l D ca a b h f ((q, .inl (ca.1 0, 64, .inl lat)) :: wr) t u hh S h_y1207) gL_holds_X4_missing rfl rfl rfl hd_X4_missing ⟨Nat.le_of_ble_eq_true rfl, Nat.le_of_ble_eq_true rfl⟩ ⟨Nat.zero_le _, Nat.zero_le _⟩ (vG_X4 C0 hH) rfl (Nat.le_of_ble_eq_true rfl) dL_holds_422 (fun H locs hH => ?_)
              refine lv_iload hx hb dL_holds_425 (lv_at hl 4 rfl) ?_
              refine lv_icmp_ne (tgt := 497) hx hb dL_holds_427 (by decide) (fun c1208 => ?_) (fun c1208 => ?_)
              · rw [if_neg c1208] at hf
                exact J497 _ _ _ hf hH (lv_sub hl [] rfl)
              · rw [if_pos c1208] at hf
                refine lv_iload hx hb dL_holds_430 (lv_at hl 4 rfl) ?_
                refine lv_aload_n hx hb dL_holds_432 rfl (lv_at hl 0 rfl) ?_
                refine lv_bipush (v := 6) hx hb dL_holds_433 (by decide) ?_
                obtain ⟨y1209, h_y1209, hf⟩ := bnd hf
                refine cl_iV C0 hH hl.1 (As := [.int 6]) (rest := [.int x4]) (mX4_count l D ca a b h f ((q, .inl (ca.1 0, 64, .inl lat)) :: wr) t u hh S 6 h_y1209) gL_holds_X4_count rfl rfl rfl hd_X4_count ⟨Nat.le_of_ble_eq_true rfl, Nat.le_of_ble_eq_true rfl⟩ ⟨Nat.zero_le _, Nat.zero_le _⟩ (vG_X4 C0 hH) rfl (Nat.le_of_ble_eq_true rfl) dL_holds_435 (fun H locs hH => ?_)
                refine lv_aload_n hx hb dL_holds_438 rfl (lv_at hl 0 rfl) ?_
                obtain ⟨y1210, h_y1210, hf⟩ := bnd hf
                refine cl_iV C0 hH hl.1 (As := []) (rest := [.int y1209, .int x4]) (mX4_isIn l D ca a b h f ((q, .inl (ca.1 0, 64, .inl lat)) :: wr) t u hh S h_y1210) gL_holds_X4_isIn rfl rfl rfl hd_X4_isIn ⟨Nat.le_of_ble_eq_true rfl, Nat.le_of_ble_eq_true rfl⟩ ⟨Nat.zero_le _, Nat.zero_le _⟩ (vG_X4 C0 hH) rfl (Nat.le_of_ble_eq_true rfl) dL_holds_439 (fun H locs hH => ?_)
                refine lv_if_eq (tgt := 449) hx hb dL_holds_442 (by decide) (fun c1211 => ?_) (fun c1211 => ?_)
                · rw [if_pos c1211] at hf
                  refine lv_iload_n hx hb dL_holds_449 rfl (lv_at hl 3 rfl) ?_
                  exact J450 _ _ _ _ _ _ _ hf hH (lv_sub hl [0, 3] rfl)
                · rw [if_neg c1211] at hf
                  refine lv_iconst (v := 0) hx hb dL_holds_445 (by decide) ?_
                  refine lv_goto (tgt := 450) hx hb dL_holds_446 (by decide) ?_
                  exact J450 _ _ _ _ _ _ _ hf hH (lv_sub hl [0, 3] rfl)
      · rw [if_neg c1201] at hf
        refine lv_aload_n hx hb dL_holds_301 rfl (lv_at hl 0 rfl) ?_
        obtain ⟨y1212, h_y1212, hf⟩ := bnd hf
        refine cl_iV C0 hH hl.1 (As := []) (rest := []) (mX4_isIn l D ca a b h f ((q, .inl (ca.1 0, 64, .inl lat)) :: wr) t u hh S h_y1212) gL_holds_X4_isIn rfl rfl rfl hd_X4_isIn ⟨Nat.le_of_ble_eq_true rfl, Nat.le_of_ble_eq_true rfl⟩ ⟨Nat.zero_le _, Nat.zero_le _⟩ (vG_X4 C0 hH) rfl (Nat.le_of_ble_eq_true rfl) dL_holds_302 (fun H locs hH => ?_)
        refine lv_if_eq (tgt := 317) hx hb dL_holds_305 (by decide) (fun c1213 => ?_) (fun c1213 => ?_)
        · rw [if_pos c1213] at hf
          refine lv_iconst (v := (-1)) hx hb dL_holds_317 (by decide) ?_
          exact J318 _ _ _ _ _ _ _ hf hH (lv_sub hl [0, 1, 2, 3, 4, 5, 6] rfl)
        · rw [if_neg c1213] at hf
          refine lv_aload_n hx hb dL_holds_308 rfl (lv_at hl 0 rfl) ?_
          refine lv_iload hx hb dL_holds_309 (lv_at hl 6 rfl) ?_
          obtain ⟨y1214, h_y1214, hf⟩ := bnd hf
          refine cl_iS C0 hH hl.1 (As := [.ref (h 2), .int x6]) (rest := []) (mL_lineOf l D ca a b h f ((q, .inl (ca.1 0, 64, .inl lat)) :: wr) t u hh S x6 h_y1214) gL_holds_L_lineOf rfl rfl rfl hd_L_lineOf ⟨Nat.le_of_ble_eq_true rfl, Nat.le_of_ble_eq_true rfl⟩ ⟨Nat.zero_le _, Nat.zero_le _⟩ rfl (Nat.le_of_ble_eq_true rfl) dL_holds_311 (fun H locs hH => ?_)
          refine lv_goto (tgt := 318) hx hb dL_holds_314 (by decide) ?_
          exact J318 _ _ _ _ _ _ _ hf hH (lv_sub hl [0, 1, 2, 3, 4, 5, 6] rfl)
  have J247 : ∀ (x2 : Int32) (x3 : Int32) (x4 : Int32) (n : Nat) (x5 : Int32) (x6 : Int32) (H : Heap) (locs : List Loc) (ls : Array Slot), pL_holds_247 t u hh S lat x2 x3 x4 n x5 x6 = some r → HS D A s (gW a b h f ca t u hh S ((q, .inl (ca.1 0, 64, .inl lat)) :: wr)) H locs → lv_has ls 8 [(0, .ref (h 2)), (1, .ref q), (2, .int x2), (3, .int x3), (4, .int x4), (5, .int x5), (6, .int x6)] → W p l e rmL_holds s m args below meth c H locs 0 0 Q (F0 m 247 ls []) := by
    intro x2 x3 x4 n
    induction n with
    | zero => intro x5 x6 H locs ls hf; cases hf
    | succ n ih =>
      intro x5 x6 H locs ls hf hH hl
      have hf : pL_holds_247b t u hh S lat x2 x3 x4 (pL_holds_247 t u hh S lat x2 x3 x4 n) x5 x6 = some r := hf
      have J283 : ∀ (x6 : Int32) (s0 : Int32) (H : Heap) (locs : List Loc) (ls : Array Slot), pL_holds_283 t u hh S lat x2 x3 x4 (pL_holds_247 t u hh S lat x2 x3 x4 n) x6 s0 = some r → HS D A s (gW a b h f ca t u hh S ((q, .inl (ca.1 0, 64, .inl lat)) :: wr)) H locs → lv_has ls 8 [(0, .ref (h 2)), (1, .ref q), (2, .int x2), (3, .int x3), (4, .int x4), (6, .int x6)] → W p l e rmL_holds s m args below meth c H locs 0 0 Q (F0 m 283 ls [.int s0]) := by
        intro x6 s0 H locs ls hf hH hl
        unfold pL_holds_283 at hf
        refine lv_istore (lv' := [(5, .int s0), (0, .ref (h 2)), (1, .ref q), (2, .int x2), (3, .int x3), (4, .int x4), (6, .int x6)]) hx hb dL_holds_283 hl (by decide) rfl (fun ls hl => ?_)
        refine lv_iinc (v := (x6 + 1)) (lv' := [(6, .int (x6 + 1)), (5, .int s0), (0, .ref (h 2)), (1, .ref q), (2, .int x2), (3, .int x3), (4, .int x4)]) hx hb dL_holds_285 hl (k := 6) rfl rfl (by decide) rfl (fun ls hl => ?_)
        refine lv_goto (tgt := 247) hx hb dL_holds_288 (by decide) ?_
        exact ih _ _ _ _ _ hf hH (lv_sub hl [2, 3, 4, 5, 6, 1, 0] rfl)
      have J282 : ∀ (x6 : Int32) (H : Heap) (locs : List Loc) (ls : Array Slot), pL_holds_282 t u hh S lat x2 x3 x4 (pL_holds_247 t u hh S lat x2 x3 x4 n) x6 = some r → HS D A s (gW a b h f ca t u hh S ((q, .inl (ca.1 0, 64, .inl lat)) :: wr)) H locs → lv_has ls 8 [(0, .ref (h 2)), (1, .ref q), (2, .int x2), (3, .int x3), (4, .int x4), (6, .int x6)] → W p l e rmL_holds s m args below meth c H locs 0 0 Q (F0 m 282 ls []) := by
        intro x6 H locs ls hf hH hl
        unfold pL_holds_282 at hf
        refine lv_iconst (v := 0) hx hb dL_holds_282 (by decide) ?_
        exact J283 _ _ _ _ _ hf hH (lv_sub hl [0, 1, 2, 3, 4, 5] rfl)
      unfold pL_holds_247b at hf
      refine lv_iload hx hb dL_holds_247 (lv_at hl 6 rfl) ?_
      refine lv_bipush (v := 16) hx hb dL_holds_249 (by decide) ?_
      refine lv_icmp_ge (tgt := 291) hx hb dL_holds_251 (by decide) (fun c901 => ?_) (fun c901 => ?_)
      · rw [if_pos c901] at hf
        refine lv_iconst (v := 0) hx hb dL_holds_291 (by decide) ?_
        refine lv_istore (lv' := [(6, .int 0), (0, .ref (h 2)), (1, .ref q), (2, .int x2), (3, .int x3), (4, .int x4), (5, .int x5)]) hx hb dL_holds_292 hl (by decide) rfl (fun ls hl => ?_)
        exact J294 _ _ FU _ _ _ _ _ _ hf hH (lv_sub hl [1, 2, 3, 4, 5, 6, 0] rfl)
      · rw [if_neg c901] at hf
        refine lv_iload hx hb dL_holds_254 (lv_at hl 5 rfl) ?_
        refine lv_if_eq (tgt := 282) hx hb dL_holds_256 (by decide) (fun c902 => ?_) (fun c902 => ?_)
        · rw [if_pos c902] at hf
          exact J282 _ _ _ _ hf hH (lv_sub hl [0, 1, 2, 3, 4, 6] rfl)
        · rw [if_neg c902] at hf
          refine lv_aload_n hx hb dL_holds_259 rfl (lv_at hl 0 rfl) ?_
          refine lv_iload hx hb dL_holds_260 (lv_at hl 6 rfl) ?_
          obtain ⟨y903, h_y903, hf⟩ := bnd hf
          refine cl_iV C0 hH hl.1 (As := [.int x6]) (rest := []) (mX4_dirtyOf l D ca a b h f ((q, .inl (ca.1 0, 64, .inl lat)) :: wr) t u hh S x6 h_y903) gL_holds_X4_dirtyOf rfl rfl rfl hd_X4_dirtyOf ⟨Nat.le_of_ble_eq_true rfl, Nat.le_of_ble_eq_true rfl⟩ ⟨Nat.zero_le _, Nat.zero_le _⟩ (vG_X4 C0 hH) rfl (Nat.le_of_ble_eq_true rfl) dL_holds_262 (fun H locs hH => ?_)
          refine lv_if_lt (tgt := 282) hx hb dL_holds_265 (by decide) (fun c904 => ?_) (fun c904 => ?_)
          · rw [if_pos c904] at hf
            exact J282 _ _ _ _ hf hH (lv_sub hl [0, 1, 2, 3, 4, 6] rfl)
          · rw [if_neg c904] at hf
            refine lv_aload_n hx hb dL_holds_268 rfl (lv_at hl 0 rfl) ?_
            refine lv_iload hx hb dL_holds_269 (lv_at hl 6 rfl) ?_
            obtain ⟨y905, h_y905, hf⟩ := bnd hf
            refine cl_iV C0 hH hl.1 (As := [.int x6]) (rest := []) (mX4_dirtyOf l D ca a b h f ((q, .inl (ca.1 0, 64, .inl lat)) :: wr) t u hh S x6 h_y905) gL_holds_X4_dirtyOf rfl rfl rfl hd_X4_dirtyOf ⟨Nat.le_of_ble_eq_true rfl, Nat.le_of_ble_eq_true rfl⟩ ⟨Nat.zero_le _, Nat.zero_le _⟩ (vG_X4 C0 hH) rfl (Nat.le_of_ble_eq_true rfl) dL_holds_271 (fun H locs hH => ?_)
            refine lv_iconst (v := 3) hx hb dL_holds_274 (by decide) ?_
            refine lv_icmp_gt (tgt := 282) hx hb dL_holds_275 (by decide) (fun c906 => ?_) (fun c906 => ?_)
            · rw [if_pos c906] at hf
              exact J282 _ _ _ _ hf hH (lv_sub hl [0, 1, 2, 3, 4, 6] rfl)
            · rw [if_neg c906] at hf
              refine lv_iconst (v := 1) hx hb dL_holds_278 (by decide) ?_
              refine lv_goto (tgt := 283) hx hb dL_holds_279 (by decide) ?_
              exact J283 _ _ _ _ _ hf hH (lv_sub hl [0, 1, 2, 3, 4, 6] rfl)
  have J65 : ∀ (x4 : Int32) (n : Nat) (x2 : Int32) (x3 : Int32) (x5 : Int32) (x6 : Int32) (H : Heap) (locs : List Loc) (ls : Array Slot), pL_holds_65 t u hh S lat x4 n x2 x3 x5 x6 = some r → HS D A s (gW a b h f ca t u hh S ((q, .inl (ca.1 0, 64, .inl lat)) :: wr)) H locs → lv_has ls 8 [(0, .ref (h 2)), (1, .ref q), (2, .int x2), (3, .int x3), (4, .int x4), (5, .int x5), (6, .int x6)] → W p l e rmL_holds s m args below meth c H locs 0 0 Q (F0 m 65 ls []) := by
    intro x4 n
    induction n with
    | zero => intro x2 x3 x5 x6 H locs ls hf; cases hf
    | succ n ih =>
      intro x2 x3 x5 x6 H locs ls hf hH hl
      have hf : pL_holds_65b t u hh S lat x4 (pL_holds_65 t u hh S lat x4 n) x2 x3 x5 x6 = some r := hf
      have J238 : ∀ (x2 : Int32) (x3 : Int32) (x5 : Int32) (x6 : Int32) (H : Heap) (locs : List Loc) (ls : Array Slot), pL_holds_238 t u hh S lat x4 (pL_holds_65 t u hh S lat x4 n) x2 x3 x5 x6 = some r → HS D A s (gW a b h f ca t u hh S ((q, .inl (ca.1 0, 64, .inl lat)) :: wr)) H locs → lv_has ls 8 [(0, .ref (h 2)), (1, .ref q), (2, .int x2), (3, .int x3), (4, .int x4), (5, .int x5), (6, .int x6)] → W p l e rmL_holds s m args below meth c H locs 0 0 Q (F0 m 238 ls []) := by
        intro x2 x3 x5 x6 H locs ls hf hH hl
        unfold pL_holds_238 at hf
        refine lv_iinc (v := (x6 + 1)) (lv' := [(6, .int (x6 + 1)), (0, .ref (h 2)), (1, .ref q), (2, .int x2), (3, .int x3), (4, .int x4), (5, .int x5)]) hx hb dL_holds_238 hl (k := 6) rfl rfl (by decide) rfl (fun ls hl => ?_)
        refine lv_goto (tgt := 65) hx hb dL_holds_241 (by decide) ?_
        exact ih _ _ _ _ _ _ _ hf hH (lv_sub hl [1, 2, 3, 4, 5, 6, 0] rfl)
      have J236 : ∀ (x2 : Int32) (x3 : Int32) (x6 : Int32) (s0 : Int32) (H : Heap) (locs : List Loc) (ls : Array Slot), pL_holds_236 t u hh S lat x4 (pL_holds_65 t u hh S lat x4 n) x2 x3 x6 s0 = some r → HS D A s (gW a b h f ca t u hh S ((q, .inl (ca.1 0, 64, .inl lat)) :: wr)) H locs → lv_has ls 8 [(0, .ref (h 2)), (1, .ref q), (2, .int x2), (3, .int x3), (4, .int x4), (6, .int x6)] → W p l e rmL_holds s m args below meth c H locs 0 0 Q (F0 m 236 ls [.int s0]) := by
        intro x2 x3 x6 s0 H locs ls hf hH hl
        unfold pL_holds_236 at hf
        refine lv_istore (lv' := [(5, .int s0), (0, .ref (h 2)), (1, .ref q), (2, .int x2), (3, .int x3), (4, .int x4), (6, .int x6)]) hx hb dL_holds_236 hl (by decide) rfl (fun ls hl => ?_)
        exact J238 _ _ _ _ _ _ _ hf hH (lv_sub hl [1, 2, 3, 4, 5, 0, 6] rfl)
      have J231 : ∀ (x2 : Int32) (x3 : Int32) (x6 : Int32) (H : Heap) (locs : List Loc) (ls : Array Slot), pL_holds_231 t u hh S lat x4 (pL_holds_65 t u hh S lat x4 n) x2 x3 x6 = some r → HS D A s (gW a b h f ca t u hh S ((q, .inl (ca.1 0, 64, .inl lat)) :: wr)) H locs → lv_has ls 8 [(0, .ref (h 2)), (1, .ref q), (2, .int x2), (3, .int x3), (4, .int x4), (6, .int x6)] → W p l e rmL_holds s m args below meth c H locs 0 0 Q (F0 m 231 ls []) := by
        intro x2 x3 x6 H locs ls hf hH hl
        unfold pL_holds_231 at hf
        refine lv_iconst (v := 1) hx hb dL_holds_231 (by decide) ?_
        refine lv_goto (tgt := 236) hx hb dL_holds_232 (by decide) ?_
        exact J236 _ _ _ _ _ _ _ hf hH (lv_sub hl [0, 1, 2, 3, 4, 5] rfl)
      have J235 : ∀ (x2 : Int32) (x3 : Int32) (x6 : Int32) (H : Heap) (locs : List Loc) (ls : Array Slot), pL_holds_235 t u hh S lat x4 (pL_holds_65 t u hh S lat x4 n) x2 x3 x6 = some r → HS D A s (gW a b h f ca t u hh S ((q, .inl (ca.1 0, 64, .inl lat)) :: wr)) H locs → lv_has ls 8 [(0, .ref (h 2)), (1, .ref q), (2, .int x2), (3, .int x3), (4, .int x4), (6, .int x6)] → W p l e rmL_holds s m args below meth c H locs 0 0 Q (F0 m 235 ls []) := by
        intro x2 x3 x6 H locs ls hf hH hl
        unfold pL_holds_235 at hf
        refine lv_iconst (v := 0) hx hb dL_holds_235 (by decide) ?_
        exact J236 _ _ _ _ _ _ _ hf hH (lv_sub hl [0, 1, 2, 3, 4, 5] rfl)
      have J178 : ∀ (x2 : Int32) (x3 : Int32) (x6 : Int32) (x7 : Int32) (s0 : Int32) (H : Heap) (locs : List Loc) (ls : Array Slot), pL_holds_178 t u hh S lat x4 (pL_holds_65 t u hh S lat x4 n) x2 x3 x6 x7 s0 = some r → HS D A s (gW a b h f ca t u hh S ((q, .inl (ca.1 0, 64, .inl lat)) :: wr)) H locs → lv_has ls 8 [(0, .ref (h 2)), (1, .ref q), (2, .int x2), (3, .int x3), (4, .int x4), (6, .int x6), (7, .int x7)] → W p l e rmL_holds s m args below meth c H locs 0 0 Q (F0 m 178 ls [.int s0]) := by
        intro x2 x3 x6 x7 s0 H locs ls hf hH hl
        unfold pL_holds_178 at hf
        refine lv_istore (lv' := [(5, .int s0), (0, .ref (h 2)), (1, .ref q), (2, .int x2), (3, .int x3), (4, .int x4), (6, .int x6), (7, .int x7)]) hx hb dL_holds_178 hl (by decide) rfl (fun ls hl => ?_)
        refine lv_iload hx hb dL_holds_180 (lv_at hl 0 rfl) ?_
        refine lv_if_eq (tgt := 235) hx hb dL_holds_182 (by decide) (fun c401 => ?_) (fun c401 => ?_)
        · rw [if_pos c401] at hf
          exact J235 _ _ _ _ _ _ hf hH (lv_sub hl [1, 2, 3, 4, 5, 6] rfl)
        · rw [if_neg c401] at hf
          refine lv_aload_n hx hb dL_holds_185 rfl (lv_at hl 1 rfl) ?_
          obtain ⟨y402, h_y402, hf⟩ := bnd hf
          refine cl_iV C0 hH hl.1 (As := []) (rest := []) (mX4_isIn l D ca a b h f ((q, .inl (ca.1 0, 64, .inl lat)) :: wr) t u hh S h_y402) gL_holds_X4_isIn rfl rfl rfl hd_X4_isIn ⟨Nat.le_of_ble_eq_true rfl, Nat.le_of_ble_eq_true rfl⟩ ⟨Nat.zero_le _, Nat.zero_le _⟩ (vG_X4 C0 hH) rfl (Nat.le_of_ble_eq_true rfl) dL_holds_186 (fun H locs hH => ?_)
          refine lv_if_eq (tgt := 231) hx hb dL_holds_189 (by decide) (fun c403 => ?_) (fun c403 => ?_)
          · rw [if_pos c403] at hf
            exact J231 _ _ _ _ _ _ hf hH (lv_sub hl [1, 2, 3, 4, 5, 6] rfl)
          · rw [if_neg c403] at hf
            refine lv_aload_n hx hb dL_holds_192 rfl (lv_at hl 1 rfl) ?_
            refine lv_iload hx hb dL_holds_193 (lv_at hl 6 rfl) ?_
            refine lv_iconst (v := 3) hx hb dL_holds_195 (by decide) ?_
            refine lv_idiv hx hb dL_holds_196 (by decide) ?_
            refine lv_iload hx hb dL_holds_197 (lv_at hl 6 rfl) ?_
            refine lv_iconst (v := 3) hx hb dL_holds_199 (by decide) ?_
            refine lv_irem hx hb dL_holds_200 (by decide) ?_
            refine lv_iconst (v := 4) hx hb dL_holds_201 (by decide) ?_
            obtain ⟨y404, h_y404, hf⟩ := bnd hf
            refine cl_iV C0 hH hl.1 (As := [.int (x6 / 3), .int (x6 - x6 / 3 * 3), .int 4]) (rest := []) (mX4_line l D ca a b h f ((q, .inl (ca.1 0, 64, .inl lat)) :: wr) t u hh S (x6 / 3) (x6 - x6 / 3 * 3) 4 h_y404) gL_holds_X4_line rfl rfl rfl hd_X4_line ⟨Nat.le_of_ble_eq_true rfl, Nat.le_of_ble_eq_true rfl⟩ ⟨Nat.zero_le _, Nat.zero_le _⟩ (vG_X4 C0 hH) rfl (Nat.le_of_ble_eq_true rfl) dL_holds_202 (fun H locs hH => ?_)
            refine lv_iconst (v := 1) hx hb dL_holds_205 (by decide) ?_
            refine lv_icmp_eq (tgt := 231) hx hb dL_holds_206 (by decide) (fun c405 => ?_) (fun c405 => ?_)
            · rw [if_pos c405] at hf
              exact J231 _ _ _ _ _ _ hf hH (lv_sub hl [1, 2, 3, 4, 5, 6] rfl)
            · rw [if_neg c405] at hf
              refine lv_aload_n hx hb dL_holds_209 rfl (lv_at hl 1 rfl) ?_
              refine lv_iload hx hb dL_holds_210 (lv_at hl 7 rfl) ?_
              obtain ⟨y406, h_y406, hf⟩ := bnd hf
              refine cl_iV C0 hH hl.1 (As := [.int x7]) (rest := []) (mX4_onDisk l D ca a b h f ((q, .inl (ca.1 0, 64, .inl lat)) :: wr) t u hh S x7 h_y406) gL_holds_X4_onDisk rfl rfl rfl hd_X4_onDisk ⟨Nat.le_of_ble_eq_true rfl, Nat.le_of_ble_eq_true rfl⟩ ⟨Nat.zero_le _, Nat.zero_le _⟩ (vG_X4 C0 hH) rfl (Nat.le_of_ble_eq_true rfl) dL_holds_212 (fun H locs hH => ?_)
              refine lv_aload_n hx hb dL_holds_215 rfl (lv_at hl 1 rfl) ?_
              refine lv_iload hx hb dL_holds_216 (lv_at hl 6 rfl) ?_
              refine lv_iconst (v := 3) hx hb dL_holds_218 (by decide) ?_
              refine lv_idiv hx hb dL_holds_219 (by decide) ?_
              refine lv_iload hx hb dL_holds_220 (lv_at hl 6 rfl) ?_
              refine lv_iconst (v := 3) hx hb dL_holds_222 (by decide) ?_
              refine lv_irem hx hb dL_holds_223 (by decide) ?_
              refine lv_iconst (v := 1) hx hb dL_holds_224 (by decide) ?_
              obtain ⟨y407, h_y407, hf⟩ := bnd hf
              refine cl_iV C0 hH hl.1 (As := [.int (x6 / 3), .int (x6 - x6 / 3 * 3), .int 1]) (rest := [.int y406]) (mX4_line l D ca a b h f ((q, .inl (ca.1 0, 64, .inl lat)) :: wr) t u hh S (x6 / 3) (x6 - x6 / 3 * 3) 1 h_y407) gL_holds_X4_line rfl rfl rfl hd_X4_line ⟨Nat.le_of_ble_eq_true rfl, Nat.le_of_ble_eq_true rfl⟩ ⟨Nat.zero_le _, Nat.zero_le _⟩ (vG_X4 C0 hH) rfl (Nat.le_of_ble_eq_true rfl) dL_holds_225 (fun H locs hH => ?_)
              refine lv_icmp_ne (tgt := 235) hx hb dL_holds_228 (by decide) (fun c408 => ?_) (fun c408 => ?_)
              · rw [if_neg c408] at hf
                exact J235 _ _ _ _ _ _ hf hH (lv_sub hl [1, 2, 3, 4, 5, 6] rfl)
              · rw [if_pos c408] at hf
                exact J231 _ _ _ _ _ _ hf hH (lv_sub hl [1, 2, 3, 4, 5, 6] rfl)
      have J177 : ∀ (x2 : Int32) (x3 : Int32) (x6 : Int32) (x7 : Int32) (H : Heap) (locs : List Loc) (ls : Array Slot), pL_holds_177 t u hh S lat x4 (pL_holds_65 t u hh S lat x4 n) x2 x3 x6 x7 = some r → HS D A s (gW a b h f ca t u hh S ((q, .inl (ca.1 0, 64, .inl lat)) :: wr)) H locs → lv_has ls 8 [(0, .ref (h 2)), (1, .ref q), (2, .int x2), (3, .int x3), (4, .int x4), (6, .int x6), (7, .int x7)] → W p l e rmL_holds s m args below meth c H locs 0 0 Q (F0 m 177 ls []) := by
        intro x2 x3 x6 x7 H locs ls hf hH hl
        unfold pL_holds_177 at hf
        refine lv_iconst (v := 0) hx hb dL_holds_177 (by decide) ?_
        exact J178 _ _ _ _ _ _ _ _ hf hH (lv_sub hl [0, 1, 2, 3, 4, 5, 6] rfl)
      unfold pL_holds_65b at hf
      refine lv_iload hx hb dL_holds_65 (lv_at hl 6 rfl) ?_
      refine lv_bipush (v := 12) hx hb dL_holds_67 (by decide) ?_
      refine lv_icmp_ge (tgt := 244) hx hb dL_holds_69 (by decide) (fun c201 => ?_) (fun c201 => ?_)
      · rw [if_pos c201] at hf
        refine lv_iconst (v := 0) hx hb dL_holds_244 (by decide) ?_
        refine lv_istore (lv' := [(6, .int 0), (0, .ref (h 2)), (1, .ref q), (2, .int x2), (3, .int x3), (4, .int x4), (5, .int x5)]) hx hb dL_holds_245 hl (by decide) rfl (fun ls hl => ?_)
        exact J247 _ _ _ FU _ _ _ _ _ hf hH (lv_sub hl [1, 2, 3, 4, 5, 6, 0] rfl)
      · rw [if_neg c201] at hf
        refine lv_aload_n hx hb dL_holds_72 rfl (lv_at hl 0 rfl) ?_
        refine lv_iload hx hb dL_holds_73 (lv_at hl 6 rfl) ?_
        refine lv_iconst (v := 3) hx hb dL_holds_75 (by decide) ?_
        refine lv_idiv hx hb dL_holds_76 (by decide) ?_
        refine lv_iload hx hb dL_holds_77 (lv_at hl 6 rfl) ?_
        refine lv_iconst (v := 3) hx hb dL_holds_79 (by decide) ?_
        refine lv_irem hx hb dL_holds_80 (by decide) ?_
        refine lv_iconst (v := 0) hx hb dL_holds_81 (by decide) ?_
        obtain ⟨y202, h_y202, hf⟩ := bnd hf
        refine cl_iV C0 hH hl.1 (As := [.int (x6 / 3), .int (x6 - x6 / 3 * 3), .int 0]) (rest := []) (mX4_line l D ca a b h f ((q, .inl (ca.1 0, 64, .inl lat)) :: wr) t u hh S (x6 / 3) (x6 - x6 / 3 * 3) 0 h_y202) gL_holds_X4_line rfl rfl rfl hd_X4_line ⟨Nat.le_of_ble_eq_true rfl, Nat.le_of_ble_eq_true rfl⟩ ⟨Nat.zero_le _, Nat.zero_le _⟩ (vG_X4 C0 hH) rfl (Nat.le_of_ble_eq_true rfl) dL_holds_82 (fun H locs hH => ?_)
        refine lv_istore (lv' := [(7, .int y202), (0, .ref (h 2)), (1, .ref q), (2, .int x2), (3, .int x3), (4, .int x4), (5, .int x5), (6, .int x6)]) hx hb dL_holds_85 hl (by decide) rfl (fun ls hl => ?_)
        refine lv_iload hx hb dL_holds_87 (lv_at hl 0 rfl) ?_
        refine lv_iconst (v := (-1)) hx hb dL_holds_89 (by decide) ?_
        refine lv_icmp_eq (tgt := 238) hx hb dL_holds_90 (by decide) (fun c203 => ?_) (fun c203 => ?_)
        · rw [if_pos c203] at hf
          exact J238 _ _ _ _ _ _ _ hf hH (lv_sub hl [1, 2, 3, 4, 5, 6, 7] rfl)
        · rw [if_neg c203] at hf
          refine lv_iinc (v := (x2 + 1)) (lv' := [(2, .int (x2 + 1)), (7, .int y202), (0, .ref (h 2)), (1, .ref q), (3, .int x3), (4, .int x4), (5, .int x5), (6, .int x6)]) hx hb dL_holds_93 hl (k := 3) rfl rfl (by decide) rfl (fun ls hl => ?_)
          refine lv_iload_n hx hb dL_holds_96 rfl (lv_at hl 4 rfl) ?_
          refine lv_aload_n hx hb dL_holds_97 rfl (lv_at hl 2 rfl) ?_
          refine lv_iload hx hb dL_holds_98 (lv_at hl 7 rfl) ?_
          refine lv_iconst (v := 3) hx hb dL_holds_100 (by decide) ?_
          refine lv_idiv hx hb dL_holds_101 (by decide) ?_
          refine lv_iload hx hb dL_holds_102 (lv_at hl 7 rfl) ?_
          refine lv_iconst (v := 3) hx hb dL_holds_104 (by decide) ?_
          refine lv_irem hx hb dL_holds_105 (by decide) ?_
          refine lv_iconst (v := 4) hx hb dL_holds_106 (by decide) ?_
          obtain ⟨y204, h_y204, hf⟩ := bnd hf
          refine cl_iV C0 hH hl.1 (As := [.int (x6 / 3), .int (x6 - x6 / 3 * 3), .int 4]) (rest := [.int x3]) (mX4_line l D ca a b h f ((q, .inl (ca.1 0, 64, .inl lat)) :: wr) t u hh S (x6 / 3) (x6 - x6 / 3 * 3) 4 h_y204) gL_holds_X4_line rfl rfl rfl hd_X4_line ⟨Nat.le_of_ble_eq_true rfl, Nat.le_of_ble_eq_true rfl⟩ ⟨Nat.zero_le _, Nat.zero_le _⟩ (vG_X4 C0 hH) rfl (Nat.le_of_ble_eq_true rfl) dL_holds_107 (fun H locs hH => ?_)
          refine lv_iadd hx hb dL_holds_110 ?_
          refine lv_istore_n (lv' := [(3, .int (x3 + y204)), (2, .int (x2 + 1)), (7, .int y202), (0, .ref (h 2)), (1, .ref q), (4, .int x4), (5, .int x5), (6, .int x6)]) hx hb dL_holds_111 rfl hl (by decide) rfl (fun ls hl => ?_)
          refine lv_iload hx hb dL_holds_112 (lv_at hl 6 rfl) ?_
          refine lv_if_eq (tgt := 177) hx hb dL_holds_114 (by decide) (fun c205 => ?_) (fun c205 => ?_)
          · rw [if_pos c205] at hf
            exact J177 _ _ _ _ _ _ _ hf hH (lv_sub hl [3, 4, 1, 0, 5, 7, 2] rfl)
          · rw [if_neg c205] at hf
            refine lv_iload hx hb dL_holds_117 (lv_at hl 2 rfl) ?_
            refine lv_iconst (v := 4) hx hb dL_holds_119 (by decide) ?_
            refine lv_idiv hx hb dL_holds_120 (by decide) ?_
            refine lv_iconst (v := 4) hx hb dL_holds_121 (by decide) ?_
            refine lv_irem hx hb dL_holds_122 (by decide) ?_
            refine lv_iload hx hb dL_holds_123 (lv_at hl 7 rfl) ?_
            refine lv_iconst (v := 3) hx hb dL_holds_125 (by decide) ?_
            refine lv_idiv hx hb dL_holds_126 (by decide) ?_
            refine lv_icmp_ne (tgt := 177) hx hb dL_holds_127 (by decide) (fun c206 => ?_) (fun c206 => ?_)
            · rw [if_neg c206] at hf
              exact J177 _ _ _ _ _ _ _ hf hH (lv_sub hl [3, 4, 1, 0, 5, 7, 2] rfl)
            · rw [if_pos c206] at hf
              refine lv_aload_n hx hb dL_holds_130 rfl (lv_at hl 3 rfl) ?_
              refine lv_iload hx hb dL_holds_131 (lv_at hl 2 rfl) ?_
              obtain ⟨y207, h_y207, hf⟩ := bnd hf
              refine cl_iS C0 hH hl.1 (As := [.ref (h 2), .int y202]) (rest := []) (mL_lineOf l D ca a b h f ((q, .inl (ca.1 0, 64, .inl lat)) :: wr) t u hh S y202 h_y207) gL_holds_L_lineOf rfl rfl rfl hd_L_lineOf ⟨Nat.le_of_ble_eq_true rfl, Nat.le_of_ble_eq_true rfl⟩ ⟨Nat.zero_le _, Nat.zero_le _⟩ rfl (Nat.le_of_ble_eq_true rfl) dL_holds_133 (fun H locs hH => ?_)
              refine lv_iload hx hb dL_holds_136 (lv_at hl 7 rfl) ?_
              refine lv_icmp_ne (tgt := 177) hx hb dL_holds_138 (by decide) (fun c208 => ?_) (fun c208 => ?_)
              · rw [if_neg c208] at hf
                exact J177 _ _ _ _ _ _ _ hf hH (lv_sub hl [3, 4, 1, 0, 5, 7, 2] rfl)
              · rw [if_pos c208] at hf
                refine lv_aload_n hx hb dL_holds_141 rfl (lv_at hl 3 rfl) ?_
                refine lv_iload hx hb dL_holds_142 (lv_at hl 7 rfl) ?_
                refine lv_iconst (v := 3) hx hb dL_holds_144 (by decide) ?_
                refine lv_idiv hx hb dL_holds_145 (by decide) ?_
                refine lv_iload hx hb dL_holds_146 (lv_at hl 7 rfl) ?_
                refine lv_iconst (v := 3) hx hb dL_holds_148 (by decide) ?_
                refine lv_irem hx hb dL_holds_149 (by decide) ?_
                refine lv_iconst (v := 2) hx hb dL_holds_150 (by decide) ?_
                obtain ⟨y209, h_y209, hf⟩ := bnd hf
                refine cl_iV C0 hH hl.1 (As := [.int (x6 / 3), .int (x6 - x6 / 3 * 3), .int 2]) (rest := []) (mX4_line l D ca a b h f ((q, .inl (ca.1 0, 64, .inl lat)) :: wr) t u hh S (x6 / 3) (x6 - x6 / 3 * 3) 2 h_y209) gL_holds_X4_line rfl rfl rfl hd_X4_line ⟨Nat.le_of_ble_eq_true rfl, Nat.le_of_ble_eq_true rfl⟩ ⟨Nat.zero_le _, Nat.zero_le _⟩ (vG_X4 C0 hH) rfl (Nat.le_of_ble_eq_true rfl) dL_holds_151 (fun H locs hH => ?_)
                refine lv_if_le (tgt := 177) hx hb dL_holds_154 (by decide) (fun c210 => ?_) (fun c210 => ?_)
                · rw [if_pos c210] at hf
                  exact J177 _ _ _ _ _ _ _ hf hH (lv_sub hl [3, 4, 1, 0, 5, 7, 2] rfl)
                · rw [if_neg c210] at hf
                  refine lv_aload_n hx hb dL_holds_157 rfl (lv_at hl 3 rfl) ?_
                  refine lv_iload hx hb dL_holds_158 (lv_at hl 7 rfl) ?_
                  refine lv_iconst (v := 3) hx hb dL_holds_160 (by decide) ?_
                  refine lv_idiv hx hb dL_holds_161 (by decide) ?_
                  refine lv_iload hx hb dL_holds_162 (lv_at hl 7 rfl) ?_
                  refine lv_iconst (v := 3) hx hb dL_holds_164 (by decide) ?_
                  refine lv_irem hx hb dL_holds_165 (by decide) ?_
                  refine lv_iconst (v := 3) hx hb dL_holds_166 (by decide) ?_
                  obtain ⟨y211, h_y211, hf⟩ := bnd hf
                  refine cl_iV C0 hH hl.1 (As := [.int (x6 / 3), .int (x6 - x6 / 3 * 3), .int 3]) (rest := []) (mX4_line l D ca a b h f ((q, .inl (ca.1 0, 64, .inl lat)) :: wr) t u hh S (x6 / 3) (x6 - x6 / 3 * 3) 3 h_y211) gL_holds_X4_line rfl rfl rfl hd_X4_line ⟨Nat.le_of_ble_eq_true rfl, Nat.le_of_ble_eq_true rfl⟩ ⟨Nat.zero_le _, Nat.zero_le _⟩ (vG_X4 C0 hH) rfl (Nat.le_of_ble_eq_true rfl) dL_holds_167 (fun H locs hH => ?_)
                  refine lv_if_le (tgt := 177) hx hb dL_holds_170 (by decide) (fun c212 => ?_) (fun c212 => ?_)
                  · rw [if_pos c212] at hf
                    exact J177 _ _ _ _ _ _ _ hf hH (lv_sub hl [3, 4, 1, 0, 5, 7, 2] rfl)
                  · rw [if_neg c212] at hf
                    refine lv_iconst (v := 1) hx hb dL_holds_173 (by decide) ?_
                    refine lv_goto (tgt := 178) hx hb dL_holds_174 (by decide) ?_
                    exact J178 _ _ _ _ _ _ _ _ hf hH (lv_sub hl [3, 4, 1, 0, 5, 7, 2] rfl)
  have J60 : ∀ (x2 : Int32) (x3 : Int32) (x4 : Int32) (s0 : Int32) (H : Heap) (locs : List Loc) (ls : Array Slot), pL_holds_60 t u hh S lat x2 x3 x4 s0 = some r → HS D A s (gW a b h f ca t u hh S ((q, .inl (ca.1 0, 64, .inl lat)) :: wr)) H locs → lv_has ls 8 [(0, .ref (h 2)), (1, .ref q), (2, .int x2), (3, .int x3), (4, .int x4)] → W p l e rmL_holds s m args below meth c H locs 0 0 Q (F0 m 60 ls [.int s0]) := by
    intro x2 x3 x4 s0 H locs ls hf hH hl
    unfold pL_holds_60 at hf
    refine lv_istore (lv' := [(5, .int s0), (0, .ref (h 2)), (1, .ref q), (2, .int x2), (3, .int x3), (4, .int x4)]) hx hb dL_holds_60 hl (by decide) rfl (fun ls hl => ?_)
    refine lv_iconst (v := 0) hx hb dL_holds_62 (by decide) ?_
    refine lv_istore (lv' := [(6, .int 0), (5, .int s0), (0, .ref (h 2)), (1, .ref q), (2, .int x2), (3, .int x3), (4, .int x4)]) hx hb dL_holds_63 hl (by decide) rfl (fun ls hl => ?_)
    exact J65 _ FU _ _ _ _ _ _ _ hf hH (lv_sub hl [2, 3, 4, 5, 6, 1, 0] rfl)
  exact J60
def MiD (l : Launch) (y : MethodName) (ws : List Cond) (rm : Room) (D : va_G) (ca : Gp) (av : List Value) (w w' : va_W) (r : Int32) : Prop := ∀ sz : Nat, MetD lw_cs l y ws rm (va_Pc av (PcM D ca w sz)) (va_Qi (fun (r' : Int32) (_ : Unit) => r' = r) (fun _ t => QcM D w w' sz t) (va_A w sz)) 0 0 (va_A w sz)
theorem MiD_of {l : Launch} {y : MethodName} {ws ws' : List Cond} {rm : Room} {D : va_G} {ca : Gp} {av : List Value} {w w' : va_W} {r : Int32} {cc : ByteArray} {nL : Nat} {ty : FieldType} {own : String}
    (hy : plainName y.cls = true) (ho : y.cls = own) (hw : ws = Cond.code y cc nL (some ty) :: ws') (hlen : (lg_sl av).length ≤ nL)
    (body : ∀ (p : Program) (e : Env) (s : State) (m : MethodId) (args : Array Value) (below : List Frame) (meth : Method) (c : Code) (Q : State → Prop) (A : Nat → Prop) (ls : Array Slot), (∀ dr : Drawn, Cx p (s.setDrawn dr) m args c cc nL ws own D ca A) → s.drawn.sameBut s.drawn lw_cs → HS D A s w s.heap [] → lv_has ls nL (lv_args 0 av) →
      (∀ (dr : Drawn) (H : Heap) (locs : List Loc) (pc : Nat) (ls : Array Slot), s.drawn.sameBut dr lw_cs → HS D A s w' H locs → narrow ty (.int r) = .int r → decode cc pc = .ok (.ireturn, 1) → W p l e rm (s.setDrawn dr) m args below meth c H locs 0 0 Q (F0 m pc ls [.int r])) → W p l e rm (s.setDrawn s.drawn) m args below meth c s.heap [] 0 0 Q (F0 m 0 ls [])) : MiD l y ws rm D ca av w w' r := by
  subst ho
  intro sz
  refine MetD.ofW (cc := cc) (maxL := nL) (ret := some ty) hy hw ?_
  intro p e s m args below meth c s₁ B hml hv hd0
  obtain ⟨rfl, hsz, hP, hK, hD0, hE⟩ := hv
  have hts := atoms_spec (ws := ws) B.pre
  have hown : s.vm.findClass y.cls = some m.cls := findClass_of_methodNamed B.named
  have hlocks := B.notSynchronized
  subst hsz
  have hl := lv_entry av (n := nL) hlen
  rw [lg_entry_eq]
  have C0 : Cx p s m av.toArray c cc nL ws y.cls D ca (va_A w s.heap.size) := ⟨⟨B.exec, B.bytes, hml, hown, hts⟩, hK, fun q h => Or.inr h, hE⟩
  refine body p e s m av.toArray below meth c _ (va_A w s.heap.size) _ (fun dr => C0.drawn dr) hd0 ⟨hP, hD0.self, va_S.rf⟩ hl ?_
  intro dr H locs pc ls hd hH hn hdg
  refine W.endD hd ?_
  exact W.zret (v := r) B.exec B.bytes B.returns hn (fun t ht hW => ⟨⟨r, (), rfl, rfl, by rw [ht]; exact hH.1, hH.2.1⟩, hH.2.2.F ht⟩) hH.2.2.2.2 hdg hlocks
/-- what the law asks of a quotient -/
def quoOK (r : UInt32) : Prop := ¬ Op.cmpValue (FP.fcmp r FP.fconst0) CmpOp.l < 0 ∧ ¬ 0 < Op.cmpValue (FP.fcmp r 1077936128) CmpOp.g
def pL_holds (t u hh : Mem) (S : Nat → Mem) (lat : Nat → Int32) : Option Int32 := pL_holds_60 t u hh S lat 0 0 0 1
theorem alike_num {r V : UInt32} (h : alike32 r V = true) (hn : isNaN32 V = false) : r = V := by
  unfold alike32 at h
  simp only [Bool.or_eq_true, decide_eq_true_eq, Bool.and_eq_true] at h
  rcases h with h | h
  · exact h
  · rw [hn] at h; exact absurd h.2 (by decide)
set_option maxHeartbeats 4000000 in
set_option maxRecDepth 100000 in
theorem mL_holds (l : Launch) (D : va_G) (ca : Gp) (a b h : Nat → Nat) (f : Nat → Nat → Nat) (wr : va_W) (q : Nat) (t u hh : Mem) (S : Nat → Mem) (lat : Nat → Int32) {r : Int32} (h1 : ¬ u 0 2 < 0) (h2 : ¬ 100 < u 0 2) (h3 : ¬ u 10 0 < u 10 5) (h4 : isNaN32 (FRv (u 10 8) (u 10 7)) = false) (h5 : quoOK (FRv (u 10 8) (u 10 7))) (hf : pL_holds t u hh S lat = some r) : MiD l yL_holds wsL_holds rmL_holds D ca [.ref (h 2), .ref q] (gW a b h f ca t u hh S ((q, .inl (ca.1 0, 64, .inl lat)) :: wr)) (gW a b h f ca t u hh S ((q, .inl (ca.1 0, 64, .inl lat)) :: wr)) r := by
  refine MiD_of (own := RL) (cc := cL_holds) (nL := 8) (ty := .boolean) (by decide) rfl rfl (Nat.le_of_ble_eq_true rfl) ?_
  intro p e s m args below meth c Q A ls C0 hd0 hH hl hend
  obtain ⟨hx, hb, hml, hown, hts⟩ := id (C0 s.drawn).1
  have hl : lv_has ls 8 [(0, .ref (h 2)), (1, .ref q)] := hl
  refine lv_iconst (v := 0) hx hb dL_holds_0 (by decide) ?_
  refine lv_istore_n (lv' := [(2, .int 0), (0, .ref (h 2)), (1, .ref q)]) hx hb dL_holds_1 rfl hl (by decide) rfl (fun ls hl => ?_)
  refine lv_iconst (v := 0) hx hb dL_holds_2 (by decide) ?_
  refine lv_istore_n (lv' := [(3, .int 0), (2, .int 0), (0, .ref (h 2)), (1, .ref q)]) hx hb dL_holds_3 rfl hl (by decide) rfl (fun ls hl => ?_)
  refine lv_iconst (v := 0) hx hb dL_holds_4 (by decide) ?_
  refine lv_istore (lv' := [(4, .int 0), (3, .int 0), (2, .int 0), (0, .ref (h 2)), (1, .ref q)]) hx hb dL_holds_5 hl (by decide) rfl (fun ls hl => ?_)
  refine lv_aload_n hx hb dL_holds_7 rfl (lv_at hl 3 rfl) ?_
  refine cl_iV (C0 s.drawn) hH hl.1 (As := []) (rest := []) (mX4_charge l D ca a b h f ((q, .inl (ca.1 0, 64, .inl lat)) :: wr) t u hh S rfl) gL_holds_X4_charge rfl rfl rfl hd_X4_charge ⟨Nat.le_of_ble_eq_true rfl, Nat.le_of_ble_eq_true rfl⟩ ⟨Nat.zero_le _, Nat.zero_le _⟩ (vG_X4 (C0 s.drawn) hH) rfl (Nat.le_of_ble_eq_true rfl) dL_holds_8 (fun H locs hH => ?_)
  refine lv_if_lt (tgt := 59) hx hb dL_holds_11 (by decide) (fun c1 => absurd c1 h1) (fun c1 => ?_)
  refine lv_aload_n hx hb dL_holds_14 rfl (lv_at hl 3 rfl) ?_
  refine cl_iV (C0 s.drawn) hH hl.1 (As := []) (rest := []) (mX4_charge l D ca a b h f ((q, .inl (ca.1 0, 64, .inl lat)) :: wr) t u hh S rfl) gL_holds_X4_charge rfl rfl rfl hd_X4_charge ⟨Nat.le_of_ble_eq_true rfl, Nat.le_of_ble_eq_true rfl⟩ ⟨Nat.zero_le _, Nat.zero_le _⟩ (vG_X4 (C0 s.drawn) hH) rfl (Nat.le_of_ble_eq_true rfl) dL_holds_15 (fun H locs hH => ?_)
  refine lv_bipush (v := 100) hx hb dL_holds_18 (by decide) ?_
  refine lv_icmp_gt (tgt := 59) hx hb dL_holds_20 (by decide) (fun c1 => absurd c1 h2) (fun c1 => ?_)
  refine lv_aload_n hx hb dL_holds_23 rfl (lv_at hl 3 rfl) ?_
  refine lv_iconst (v := 0) hx hb dL_holds_24 (by decide) ?_
  refine cl_iV (C0 s.drawn) hH hl.1 (As := [.int 0]) (rest := []) (mX4_count l D ca a b h f ((q, .inl (ca.1 0, 64, .inl lat)) :: wr) t u hh S 0 (r := u 10 0) rfl) gL_holds_X4_count rfl rfl rfl hd_X4_count ⟨Nat.le_of_ble_eq_true rfl, Nat.le_of_ble_eq_true rfl⟩ ⟨Nat.zero_le _, Nat.zero_le _⟩ (vG_X4 (C0 s.drawn) hH) rfl (Nat.le_of_ble_eq_true rfl) dL_holds_25 (fun H locs hH => ?_)
  refine lv_aload_n hx hb dL_holds_28 rfl (lv_at hl 3 rfl) ?_
  refine lv_iconst (v := 5) hx hb dL_holds_29 (by decide) ?_
  refine cl_iV (C0 s.drawn) hH hl.1 (As := [.int 5]) (rest := [.int (u 10 0)]) (mX4_count l D ca a b h f ((q, .inl (ca.1 0, 64, .inl lat)) :: wr) t u hh S 5 (r := u 10 5) rfl) gL_holds_X4_count rfl rfl rfl hd_X4_count ⟨Nat.le_of_ble_eq_true rfl, Nat.le_of_ble_eq_true rfl⟩ ⟨Nat.zero_le _, Nat.zero_le _⟩ (vG_X4 (C0 s.drawn) hH) rfl (Nat.le_of_ble_eq_true rfl) dL_holds_30 (fun H locs hH => ?_)
  refine lv_icmp_lt (tgt := 59) hx hb dL_holds_33 (by decide) (fun c1 => absurd c1 h3) (fun c1 => ?_)
  refine lv_aload_n hx hb dL_holds_36 rfl (lv_at hl 3 rfl) ?_
  refine cl_fV hd0 (C0 s.drawn) hH hl.1 (As := []) (rest := []) (mX4_blocksPerStripe l D ca a b h f ((q, .inl (ca.1 0, 64, .inl lat)) :: wr) t u hh S) gL_holds_X4_blocksPerStripe rfl rfl rfl hd_X4_blocksPerStripe ⟨Nat.le_of_ble_eq_true rfl, Nat.le_of_ble_eq_true rfl⟩ ⟨Nat.zero_le _, Nat.zero_le _⟩ (vG_X4 (C0 s.drawn) hH) rfl (Nat.le_of_ble_eq_true rfl) dL_holds_37 (fun r1 d1 H locs hr1 hd1 hH => ?_)
  obtain rfl := alike_num hr1 h4
  refine lv_fconst0 hx hb dL_holds_40 ?_
  refine lv_fcmp hx hb dL_holds_41 ?_
  refine lv_if_lt (tgt := 59) hx hb dL_holds_42 (by decide) (fun c1 => absurd c1 h5.1) (fun c1 => ?_)
  refine lv_aload_n hx hb dL_holds_45 rfl (lv_at hl 3 rfl) ?_
  refine cl_fV hd1 (C0 s.drawn) hH hl.1 (As := []) (rest := []) (mX4_blocksPerStripe l D ca a b h f ((q, .inl (ca.1 0, 64, .inl lat)) :: wr) t u hh S) gL_holds_X4_blocksPerStripe rfl rfl rfl hd_X4_blocksPerStripe ⟨Nat.le_of_ble_eq_true rfl, Nat.le_of_ble_eq_true rfl⟩ ⟨Nat.zero_le _, Nat.zero_le _⟩ (vG_X4 (C0 s.drawn) hH) rfl (Nat.le_of_ble_eq_true rfl) dL_holds_46 (fun r2 d2 H locs hr2 hd2 hH => ?_)
  obtain rfl := alike_num hr2 h4
  refine lv_ldcf (own := RL) (v := 1077936128) hx hb hown ((C0 d2).1.2.2.2.2 (.constantFloat RL 100 (1077936128)) (by decide +kernel)) dL_holds_49 ?_
  refine lv_fcmp hx hb dL_holds_51 ?_
  refine lv_if_gt (tgt := 59) hx hb dL_holds_52 (by decide) (fun c1 => absurd c1 h5.2) (fun c1 => ?_)
  refine lv_iconst (v := 1) hx hb dL_holds_55 (by decide) ?_
  refine lv_goto (tgt := 60) hx hb dL_holds_56 (by decide) ?_
  exact tl_L_holds (C0 d2) (fun H locs pc ls hH hn hdg => hend d2 H locs pc ls hd2 hH hn hdg) 0 0 0 1 H locs ls hf hH (lv_sub hl [3, 4, 2, 1, 0] rfl)
