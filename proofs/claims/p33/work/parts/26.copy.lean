/-! ROWS OF THE WHOLE OBJECT; copying, saving, restoring a state. -/
theorem inB_lt {i : Int32} {n : Nat} (h : inB i n = true) : i.toNatClampNeg < n := Nat.not_le.mp fun q => inB_in h (Or.inr q)
theorem cpz_s {w u v : Mem} {k n : Nat} (h : cpz w u k n = some v) : allz (u k) n = true ∧ v = mrow w k (va_cpy (u k) (w k) 0 0 n) := by
  unfold cpz at h
  obtain ⟨hz, h⟩ := gd h
  exact ⟨hz, (Option.some.inj h).symm⟩
theorem mrow0 (w : Mem) (k : Nat) (f : Nat → Int32) : mrow w k (va_cpy f (w k) 0 0 0) = w := by
  funext i
  unfold mrow
  cases hb : Nat.beq i k
  · rfl
  · obtain rfl := Nat.eq_of_beq_eq_true hb
    funext j
    show va_cpy f (w i) 0 0 0 j = w i j
    unfold va_cpy
    rw [if_neg (by omega)]
theorem mrowS (w u : Mem) (k n : Nat) : mset (mrow w k (va_cpy (u k) (w k) 0 0 n)) k n (u k n) = mrow w k (va_cpy (u k) (w k) 0 0 (n + 1)) := by
  funext i
  unfold mset mrow
  cases hb : Nat.beq i k
  · rfl
  · obtain rfl := Nat.eq_of_beq_eq_true hb
    funext j
    show upd ((fun k' => bif Nat.beq k' i then va_cpy (u i) (w i) 0 0 n else w k') i) n (u i n) j = va_cpy (u i) (w i) 0 0 (n + 1) j
    simp only [upd, Nat.beq_refl, cond_true, va_cpy, Nat.zero_le, true_and, Nat.zero_add, Nat.sub_zero]
    by_cases c : j = n
    · rw [if_pos c, if_pos (by omega), c]
    · rw [if_neg c]
      by_cases c2 : j < n
      · rw [if_pos c2, if_pos (by omega)]
      · rw [if_neg c2, if_neg (by omega)]
theorem ld_nI {u : Mem} {k n i : Nat} (h : i < n) (hn : n < 2 ^ 31) : ld u k n (nI i) = some (u k i) := by
  unfold ld
  rw [if_pos (in_inB (vp_in_nI h hn)), nI_clamp (by omega)]
theorem stz_nI {u : Mem} {k n i : Nat} {x : Int32} (hz : isz x = true) (h : i < n) (hn : n < 2 ^ 31) : stz u k n (nI i) x = some (mset u k i x) := by
  unfold stz st
  rw [if_pos hz, if_pos (in_inB (vp_in_nI h hn)), nI_clamp (by omega)]
section GROWS
variable {p : Program} {l : Launch} {e : Env} {R : Room} {s : State} {m : MethodId} {args : Array Value} {below : List Frame} {meth : Method} {c : Code} {H : Heap} {locs : List Loc} {cells slots : Nat} {Q : State → Prop} {cc : ByteArray} {pc nL : Nat} {ls : Array Slot} {rest : List Value} {D : va_G} {ca : Gp} {A : Nat → Prop} {Ts : List Cond} {own : String} {wr : va_W} {a b h : Nat → Nat} {f : Nat → Nat → Nat} {t u hh w : Mem} {S : Nat → Mem}
theorem vG_X0 (C0 : Cx p s m args c cc nL Ts own D ca A) (hH : HS D A s (gW a b h f ca t u hh S wr) H locs) : ∃ cell : Cell, H[h 0]? = some cell ∧ cell.vm.isStatics = false ∧ s.vm.findClass RX0 = some cell.cls := va_recv C0.2.1 hH.1 (ci := 0) (q0 := 13) rfl rfl
theorem gG_X0_states (C0 : Cx p s m args c cc nL Ts own D ca A) (hH : HS D A s (gW a b h f ca t u hh S wr) H locs) (hin : ∀ w ∈ wsX00, w ∈ Ts) {index : Nat} (hm : Cond.fieldLink own index "GatheringCache$History" "states" "[LGatheringCache$State;" ∈ Ts) (hdg : decode cc pc = .ok (.getfield index, 3)) (kk : W p l e R s m args below meth c H locs cells slots Q (F0 m (pc + 3) ls (.ref (h 1) :: rest))) : W p l e R s m args below meth c H locs cells slots Q (F0 m pc ls (.ref (h 0) :: rest)) :=
  va_get (D := D) (ci := 0) (v := .ref (h 1)) (C := RX0) (T := TX0) (N := 3) C0.1.1 C0.1.2.1 C0.1.2.2.2.2 hin C0.1.2.2.2.1 C0.2.1 hH.1 13 rfl rfl 0 (by decide) (C0.1.2.2.2.2 _ hm) (fun _ h9 => h9) rfl hdg kk
theorem gG_X0_size (C0 : Cx p s m args c cc nL Ts own D ca A) (hH : HS D A s (gW a b h f ca t u hh S wr) H locs) (hin : ∀ w ∈ wsX00, w ∈ Ts) {index : Nat} (hm : Cond.fieldLink own index "GatheringCache$History" "size" "I" ∈ Ts) (hdg : decode cc pc = .ok (.getfield index, 3)) (kk : W p l e R s m args below meth c H locs cells slots Q (F0 m (pc + 3) ls (.int (hh 0 0) :: rest))) : W p l e R s m args below meth c H locs cells slots Q (F0 m pc ls (.ref (h 0) :: rest)) :=
  va_get (D := D) (ci := 0) (v := .int (hh 0 0)) (C := RX0) (T := TX0) (N := 3) C0.1.1 C0.1.2.1 C0.1.2.2.2.2 hin C0.1.2.2.2.1 C0.2.1 hH.1 13 rfl rfl 1 (by decide) (C0.1.2.2.2.2 _ hm) (fun _ h9 => h9) rfl hdg kk
theorem pG_X0_size (C0 : Cx p s m args c cc nL Ts own D ca A) (hH : HS D A s (gW a b h f ca t u hh S wr) H locs) (hin : ∀ w ∈ wsX00, w ∈ Ts) {index : Nat} {x : Int32} {u1 : Mem} (h9 : pf hh 0 0 x = some u1) (hm : Cond.fieldLink own index "GatheringCache$History" "size" "I" ∈ Ts) (hdg : decode cc pc = .ok (.putfield index, 3)) (kk : ∀ (H1 : Heap) (locs1 : List Loc), HS D A s (gW a b h f ca t u u1 S wr) H1 locs1 → W p l e R s m args below meth c H1 locs1 cells slots Q (F0 m (pc + 3) ls rest)) : W p l e R s m args below meth c H locs cells slots Q (F0 m pc ls (.int x :: .ref (h 0) :: rest)) := by
  obtain rfl := pf_s h9
  exact va_put (D := D) (ci := 0) (v := .int x) (ty := .int) (C := RX0) (T := TX0) (N := 3) C0.1.1 C0.1.2.1 C0.1.2.2.2.2 hin tyX0 tyX0_ok nmX0 C0.1.2.2.2.1 C0.2.1 hH.1 hH.2.1 hH.2.2 13 rfl rfl 1 (by decide) (C0.1.2.2.2.2 _ hm) (fun _ h9 => h9) rfl (by decide +kernel) rfl rfl (Nat.le_of_ble_eq_true rfl) hdg (fun H1 locs1 hP hD hS => kk H1 locs1 ⟨hP, hD, hS⟩)
theorem gG_X0_next (C0 : Cx p s m args c cc nL Ts own D ca A) (hH : HS D A s (gW a b h f ca t u hh S wr) H locs) (hin : ∀ w ∈ wsX00, w ∈ Ts) {index : Nat} (hm : Cond.fieldLink own index "GatheringCache$History" "next" "I" ∈ Ts) (hdg : decode cc pc = .ok (.getfield index, 3)) (kk : W p l e R s m args below meth c H locs cells slots Q (F0 m (pc + 3) ls (.int (hh 0 1) :: rest))) : W p l e R s m args below meth c H locs cells slots Q (F0 m pc ls (.ref (h 0) :: rest)) :=
  va_get (D := D) (ci := 0) (v := .int (hh 0 1)) (C := RX0) (T := TX0) (N := 3) C0.1.1 C0.1.2.1 C0.1.2.2.2.2 hin C0.1.2.2.2.1 C0.2.1 hH.1 13 rfl rfl 2 (by decide) (C0.1.2.2.2.2 _ hm) (fun _ h9 => h9) rfl hdg kk
theorem pG_X0_next (C0 : Cx p s m args c cc nL Ts own D ca A) (hH : HS D A s (gW a b h f ca t u hh S wr) H locs) (hin : ∀ w ∈ wsX00, w ∈ Ts) {index : Nat} {x : Int32} {u1 : Mem} (h9 : pf hh 0 1 x = some u1) (hm : Cond.fieldLink own index "GatheringCache$History" "next" "I" ∈ Ts) (hdg : decode cc pc = .ok (.putfield index, 3)) (kk : ∀ (H1 : Heap) (locs1 : List Loc), HS D A s (gW a b h f ca t u u1 S wr) H1 locs1 → W p l e R s m args below meth c H1 locs1 cells slots Q (F0 m (pc + 3) ls rest)) : W p l e R s m args below meth c H locs cells slots Q (F0 m pc ls (.int x :: .ref (h 0) :: rest)) := by
  obtain rfl := pf_s h9
  exact va_put (D := D) (ci := 0) (v := .int x) (ty := .int) (C := RX0) (T := TX0) (N := 3) C0.1.1 C0.1.2.1 C0.1.2.2.2.2 hin tyX0 tyX0_ok nmX0 C0.1.2.2.2.1 C0.2.1 hH.1 hH.2.1 hH.2.2 13 rfl rfl 2 (by decide) (C0.1.2.2.2.2 _ hm) (fun _ h9 => h9) rfl (by decide +kernel) rfl rfl (Nat.le_of_ble_eq_true rfl) hdg (fun H1 locs1 hP hD hS => kk H1 locs1 ⟨hP, hD, hS⟩)
theorem vG_X4 (C0 : Cx p s m args c cc nL Ts own D ca A) (hH : HS D A s (gW a b h f ca t u hh S wr) H locs) : ∃ cell : Cell, H[h 2]? = some cell ∧ cell.vm.isStatics = false ∧ s.vm.findClass RX4 = some cell.cls := va_recv C0.2.1 hH.1 (ci := 4) (q0 := 15) rfl rfl
theorem gG_X4_now (C0 : Cx p s m args c cc nL Ts own D ca A) (hH : HS D A s (gW a b h f ca t u hh S wr) H locs) (hin : ∀ w ∈ wsX40, w ∈ Ts) {index : Nat} (hm : Cond.fieldLink own index "GatheringCache" "now" "LGatheringCache$State;" ∈ Ts) (hdg : decode cc pc = .ok (.getfield index, 3)) (kk : W p l e R s m args below meth c H locs cells slots Q (F0 m (pc + 3) ls (.ref (a 6) :: rest))) : W p l e R s m args below meth c H locs cells slots Q (F0 m pc ls (.ref (h 2) :: rest)) :=
  va_get (D := D) (ci := 4) (v := .ref (a 6)) (C := RX4) (T := TX4) (N := 3) C0.1.1 C0.1.2.1 C0.1.2.2.2.2 hin C0.1.2.2.2.1 C0.2.1 hH.1 15 rfl rfl 0 (by decide) (C0.1.2.2.2.2 _ hm) (fun _ h9 => h9) rfl hdg kk
theorem gG_X4_history (C0 : Cx p s m args c cc nL Ts own D ca A) (hH : HS D A s (gW a b h f ca t u hh S wr) H locs) (hin : ∀ w ∈ wsX40, w ∈ Ts) {index : Nat} (hm : Cond.fieldLink own index "GatheringCache" "history" "LGatheringCache$History;" ∈ Ts) (hdg : decode cc pc = .ok (.getfield index, 3)) (kk : W p l e R s m args below meth c H locs cells slots Q (F0 m (pc + 3) ls (.ref (h 0) :: rest))) : W p l e R s m args below meth c H locs cells slots Q (F0 m pc ls (.ref (h 2) :: rest)) :=
  va_get (D := D) (ci := 4) (v := .ref (h 0)) (C := RX4) (T := TX4) (N := 3) C0.1.1 C0.1.2.1 C0.1.2.2.2.2 hin C0.1.2.2.2.1 C0.2.1 hH.1 15 rfl rfl 1 (by decide) (C0.1.2.2.2.2 _ hm) (fun _ h9 => h9) rfl hdg kk
theorem gG_X4_text (C0 : Cx p s m args c cc nL Ts own D ca A) (hH : HS D A s (gW a b h f ca t u hh S wr) H locs) (hin : ∀ w ∈ wsX40, w ∈ Ts) {index : Nat} (hm : Cond.fieldLink own index "GatheringCache" "text" "LGatheringCache$Text;" ∈ Ts) (hdg : decode cc pc = .ok (.getfield index, 3)) (kk : W p l e R s m args below meth c H locs cells slots Q (F0 m (pc + 3) ls (.ref (b 0) :: rest))) : W p l e R s m args below meth c H locs cells slots Q (F0 m pc ls (.ref (h 2) :: rest)) :=
  va_get (D := D) (ci := 4) (v := .ref (b 0)) (C := RX4) (T := TX4) (N := 3) C0.1.1 C0.1.2.1 C0.1.2.2.2.2 hin C0.1.2.2.2.1 C0.2.1 hH.1 15 rfl rfl 2 (by decide) (C0.1.2.2.2.2 _ hm) (fun _ h9 => h9) rfl hdg kk
theorem lG_states (C0 : Cx p s m args c cc nL Ts own D ca A) (hH : HS D A s (gW a b h f ca t u hh S wr) H locs) {i : Int32} (hi : inB i 6 = true) (hdg : decode cc pc = .ok (.aaload, 1)) (kk : W p l e R s m args below meth c H locs cells slots Q (F0 m (pc + 1) ls (.ref (f i.toNatClampNeg 6) :: rest))) : W p l e R s m args below meth c H locs cells slots Q (F0 m pc ls (.int i :: .ref (h 1) :: rest)) := by
  refine va_aldq C0.1.1 C0.1.2.1 C0.2.1 hH.1 14 3 rfl rfl (inB_in hi) hdg ?_
  rw [stF_lt (inB_lt hi)]
  exact kk
theorem cp_blocks (C0 : Cx p s m args c cc nL Ts own D ca A) (hH : HS D A s (sW a ca w ++ (sW b ca u ++ wr)) H locs) {w1 : Mem} (h9 : cpr w u 1 12 = some w1) (hml : c.maxLocals = ls.size) {index : Nat} (hm1 : Cond.methodLink own index arraycopyName ∈ Ts) (hm2 : Cond.native arraycopyName ∈ Ts) (hm3 : Cond.static arraycopyName ∈ Ts) (hm4 : Cond.initialized "java/lang/System" ∈ Ts) (hframes : 1 ≤ R.frames) (hlocals : (rest.map fun v => v.category).sum + (nativeFrameWords "java/lang/System" "arraycopy" 5 + 11) ≤ R.locals) (hdg : decode cc pc = .ok (.invokestatic index, 3)) (kk : ∀ (H1 : Heap) (locs1 : List Loc), HS D A s (sW a ca w1 ++ (sW b ca u ++ wr)) H1 locs1 → W p l e R s m args below meth c H1 locs1 cells slots Q (F0 m (pc + 3) ls rest)) : W p l e R s m args below meth c H locs cells slots Q (F0 m pc ls (.int 12 :: .int 0 :: .ref (a 1) :: .int 0 :: .ref (b 1) :: rest)) := by
  obtain rfl := Option.some.inj h9
  exact va_copyi (ty := .int) C0.1.1 C0.1.2.1 hml C0.1.2.2.2.1 (C0.1.2.2.2.2 _ hm1) (C0.1.2.2.2.2 _ hm2) (C0.1.2.2.2.2 _ hm3) (C0.1.2.2.2.2 _ hm4) C0.2.1 hH.1 hH.2.1 hH.2.2 12 1 0 0 rfl rfl rfl rfl rfl (by decide) (by decide) (by decide) (by decide) (by decide) (fun _ _ => rfl) hframes hlocals hdg (fun H1 locs1 hP hD hS => kk H1 locs1 ⟨hP, hD, hS⟩)
theorem cp_values (C0 : Cx p s m args c cc nL Ts own D ca A) (hH : HS D A s (sW a ca w ++ (sW b ca u ++ wr)) H locs) {w1 : Mem} (h9 : cpr w u 2 12 = some w1) (hml : c.maxLocals = ls.size) {index : Nat} (hm1 : Cond.methodLink own index arraycopyName ∈ Ts) (hm2 : Cond.native arraycopyName ∈ Ts) (hm3 : Cond.static arraycopyName ∈ Ts) (hm4 : Cond.initialized "java/lang/System" ∈ Ts) (hframes : 1 ≤ R.frames) (hlocals : (rest.map fun v => v.category).sum + (nativeFrameWords "java/lang/System" "arraycopy" 5 + 11) ≤ R.locals) (hdg : decode cc pc = .ok (.invokestatic index, 3)) (kk : ∀ (H1 : Heap) (locs1 : List Loc), HS D A s (sW a ca w1 ++ (sW b ca u ++ wr)) H1 locs1 → W p l e R s m args below meth c H1 locs1 cells slots Q (F0 m (pc + 3) ls rest)) : W p l e R s m args below meth c H locs cells slots Q (F0 m pc ls (.int 12 :: .int 0 :: .ref (a 2) :: .int 0 :: .ref (b 2) :: rest)) := by
  obtain rfl := Option.some.inj h9
  exact va_copyi (ty := .int) C0.1.1 C0.1.2.1 hml C0.1.2.2.2.1 (C0.1.2.2.2.2 _ hm1) (C0.1.2.2.2.2 _ hm2) (C0.1.2.2.2.2 _ hm3) (C0.1.2.2.2.2 _ hm4) C0.2.1 hH.1 hH.2.1 hH.2.2 13 2 0 0 rfl rfl rfl rfl rfl (by decide) (by decide) (by decide) (by decide) (by decide) (fun _ _ => rfl) hframes hlocals hdg (fun H1 locs1 hP hD hS => kk H1 locs1 ⟨hP, hD, hS⟩)
theorem cp_stamps (C0 : Cx p s m args c cc nL Ts own D ca A) (hH : HS D A s (sW a ca w ++ (sW b ca u ++ wr)) H locs) {w1 : Mem} (h9 : cpr w u 3 12 = some w1) (hml : c.maxLocals = ls.size) {index : Nat} (hm1 : Cond.methodLink own index arraycopyName ∈ Ts) (hm2 : Cond.native arraycopyName ∈ Ts) (hm3 : Cond.static arraycopyName ∈ Ts) (hm4 : Cond.initialized "java/lang/System" ∈ Ts) (hframes : 1 ≤ R.frames) (hlocals : (rest.map fun v => v.category).sum + (nativeFrameWords "java/lang/System" "arraycopy" 5 + 11) ≤ R.locals) (hdg : decode cc pc = .ok (.invokestatic index, 3)) (kk : ∀ (H1 : Heap) (locs1 : List Loc), HS D A s (sW a ca w1 ++ (sW b ca u ++ wr)) H1 locs1 → W p l e R s m args below meth c H1 locs1 cells slots Q (F0 m (pc + 3) ls rest)) : W p l e R s m args below meth c H locs cells slots Q (F0 m pc ls (.int 12 :: .int 0 :: .ref (a 3) :: .int 0 :: .ref (b 3) :: rest)) := by
  obtain rfl := Option.some.inj h9
  exact va_copyi (ty := .int) C0.1.1 C0.1.2.1 hml C0.1.2.2.2.1 (C0.1.2.2.2.2 _ hm1) (C0.1.2.2.2.2 _ hm2) (C0.1.2.2.2.2 _ hm3) (C0.1.2.2.2.2 _ hm4) C0.2.1 hH.1 hH.2.1 hH.2.2 14 3 0 0 rfl rfl rfl rfl rfl (by decide) (by decide) (by decide) (by decide) (by decide) (fun _ _ => rfl) hframes hlocals hdg (fun H1 locs1 hP hD hS => kk H1 locs1 ⟨hP, hD, hS⟩)
theorem cp_uses (C0 : Cx p s m args c cc nL Ts own D ca A) (hH : HS D A s (sW a ca w ++ (sW b ca u ++ wr)) H locs) {w1 : Mem} (h9 : cpr w u 4 12 = some w1) (hml : c.maxLocals = ls.size) {index : Nat} (hm1 : Cond.methodLink own index arraycopyName ∈ Ts) (hm2 : Cond.native arraycopyName ∈ Ts) (hm3 : Cond.static arraycopyName ∈ Ts) (hm4 : Cond.initialized "java/lang/System" ∈ Ts) (hframes : 1 ≤ R.frames) (hlocals : (rest.map fun v => v.category).sum + (nativeFrameWords "java/lang/System" "arraycopy" 5 + 11) ≤ R.locals) (hdg : decode cc pc = .ok (.invokestatic index, 3)) (kk : ∀ (H1 : Heap) (locs1 : List Loc), HS D A s (sW a ca w1 ++ (sW b ca u ++ wr)) H1 locs1 → W p l e R s m args below meth c H1 locs1 cells slots Q (F0 m (pc + 3) ls rest)) : W p l e R s m args below meth c H locs cells slots Q (F0 m pc ls (.int 12 :: .int 0 :: .ref (a 4) :: .int 0 :: .ref (b 4) :: rest)) := by
  obtain rfl := Option.some.inj h9
  exact va_copyi (ty := .int) C0.1.1 C0.1.2.1 hml C0.1.2.2.2.1 (C0.1.2.2.2.2 _ hm1) (C0.1.2.2.2.2 _ hm2) (C0.1.2.2.2.2 _ hm3) (C0.1.2.2.2.2 _ hm4) C0.2.1 hH.1 hH.2.1 hH.2.2 15 4 0 0 rfl rfl rfl rfl rfl (by decide) (by decide) (by decide) (by decide) (by decide) (fun _ _ => rfl) hframes hlocals hdg (fun H1 locs1 hP hD hS => kk H1 locs1 ⟨hP, hD, hS⟩)
theorem cp_dirty (C0 : Cx p s m args c cc nL Ts own D ca A) (hH : HS D A s (sW a ca w ++ (sW b ca u ++ wr)) H locs) {w1 : Mem} (h9 : cpz w u 5 12 = some w1) (hml : c.maxLocals = ls.size) {index : Nat} (hm1 : Cond.methodLink own index arraycopyName ∈ Ts) (hm2 : Cond.native arraycopyName ∈ Ts) (hm3 : Cond.static arraycopyName ∈ Ts) (hm4 : Cond.initialized "java/lang/System" ∈ Ts) (hframes : 1 ≤ R.frames) (hlocals : (rest.map fun v => v.category).sum + (nativeFrameWords "java/lang/System" "arraycopy" 5 + 11) ≤ R.locals) (hdg : decode cc pc = .ok (.invokestatic index, 3)) (kk : ∀ (H1 : Heap) (locs1 : List Loc), HS D A s (sW a ca w1 ++ (sW b ca u ++ wr)) H1 locs1 → W p l e R s m args below meth c H1 locs1 cells slots Q (F0 m (pc + 3) ls rest)) : W p l e R s m args below meth c H locs cells slots Q (F0 m pc ls (.int 12 :: .int 0 :: .ref (a 5) :: .int 0 :: .ref (b 5) :: rest)) := by
  unfold cpz at h9
  obtain ⟨hz, h9⟩ := gd h9
  obtain rfl := Option.some.inj h9
  exact va_copyi (ty := .boolean) C0.1.1 C0.1.2.1 hml C0.1.2.2.2.1 (C0.1.2.2.2.2 _ hm1) (C0.1.2.2.2.2 _ hm2) (C0.1.2.2.2.2 _ hm3) (C0.1.2.2.2.2 _ hm4) C0.2.1 hH.1 hH.2.1 hH.2.2 16 5 1 1 rfl rfl rfl rfl rfl (by decide) (by decide) (by decide) (by decide) (by decide) (fun i hi => isz_f (allz_at hz _ (by rw [show (0 : Int32).toNatClampNeg = 0 from rfl, Nat.zero_add]; exact hi))) hframes hlocals hdg (fun H1 locs1 hP hD hS => kk H1 locs1 ⟨hP, hD, hS⟩)
theorem cp_diskValues (C0 : Cx p s m args c cc nL Ts own D ca A) (hH : HS D A s (sW a ca w ++ (sW b ca u ++ wr)) H locs) {w1 : Mem} (h9 : cpr w u 7 64 = some w1) (hml : c.maxLocals = ls.size) {index : Nat} (hm1 : Cond.methodLink own index arraycopyName ∈ Ts) (hm2 : Cond.native arraycopyName ∈ Ts) (hm3 : Cond.static arraycopyName ∈ Ts) (hm4 : Cond.initialized "java/lang/System" ∈ Ts) (hframes : 1 ≤ R.frames) (hlocals : (rest.map fun v => v.category).sum + (nativeFrameWords "java/lang/System" "arraycopy" 5 + 11) ≤ R.locals) (hdg : decode cc pc = .ok (.invokestatic index, 3)) (kk : ∀ (H1 : Heap) (locs1 : List Loc), HS D A s (sW a ca w1 ++ (sW b ca u ++ wr)) H1 locs1 → W p l e R s m args below meth c H1 locs1 cells slots Q (F0 m (pc + 3) ls rest)) : W p l e R s m args below meth c H locs cells slots Q (F0 m pc ls (.int 64 :: .int 0 :: .ref (a 7) :: .int 0 :: .ref (b 7) :: rest)) := by
  obtain rfl := Option.some.inj h9
  exact va_copyi (ty := .int) C0.1.1 C0.1.2.1 hml C0.1.2.2.2.1 (C0.1.2.2.2.2 _ hm1) (C0.1.2.2.2.2 _ hm2) (C0.1.2.2.2.2 _ hm3) (C0.1.2.2.2.2 _ hm4) C0.2.1 hH.1 hH.2.1 hH.2.2 18 7 0 0 rfl rfl rfl rfl rfl (by decide) (by decide) (by decide) (by decide) (by decide) (fun _ _ => rfl) hframes hlocals hdg (fun H1 locs1 hP hD hS => kk H1 locs1 ⟨hP, hD, hS⟩)
theorem cp_diskStamps (C0 : Cx p s m args c cc nL Ts own D ca A) (hH : HS D A s (sW a ca w ++ (sW b ca u ++ wr)) H locs) {w1 : Mem} (h9 : cpr w u 8 64 = some w1) (hml : c.maxLocals = ls.size) {index : Nat} (hm1 : Cond.methodLink own index arraycopyName ∈ Ts) (hm2 : Cond.native arraycopyName ∈ Ts) (hm3 : Cond.static arraycopyName ∈ Ts) (hm4 : Cond.initialized "java/lang/System" ∈ Ts) (hframes : 1 ≤ R.frames) (hlocals : (rest.map fun v => v.category).sum + (nativeFrameWords "java/lang/System" "arraycopy" 5 + 11) ≤ R.locals) (hdg : decode cc pc = .ok (.invokestatic index, 3)) (kk : ∀ (H1 : Heap) (locs1 : List Loc), HS D A s (sW a ca w1 ++ (sW b ca u ++ wr)) H1 locs1 → W p l e R s m args below meth c H1 locs1 cells slots Q (F0 m (pc + 3) ls rest)) : W p l e R s m args below meth c H locs cells slots Q (F0 m pc ls (.int 64 :: .int 0 :: .ref (a 8) :: .int 0 :: .ref (b 8) :: rest)) := by
  obtain rfl := Option.some.inj h9
  exact va_copyi (ty := .int) C0.1.1 C0.1.2.1 hml C0.1.2.2.2.1 (C0.1.2.2.2.2 _ hm1) (C0.1.2.2.2.2 _ hm2) (C0.1.2.2.2.2 _ hm3) (C0.1.2.2.2.2 _ hm4) C0.2.1 hH.1 hH.2.1 hH.2.2 19 8 0 0 rfl rfl rfl rfl rfl (by decide) (by decide) (by decide) (by decide) (by decide) (fun _ _ => rfl) hframes hlocals hdg (fun H1 locs1 hP hD hS => kk H1 locs1 ⟨hP, hD, hS⟩)
theorem cp_latestStamps (C0 : Cx p s m args c cc nL Ts own D ca A) (hH : HS D A s (sW a ca w ++ (sW b ca u ++ wr)) H locs) {w1 : Mem} (h9 : cpr w u 9 64 = some w1) (hml : c.maxLocals = ls.size) {index : Nat} (hm1 : Cond.methodLink own index arraycopyName ∈ Ts) (hm2 : Cond.native arraycopyName ∈ Ts) (hm3 : Cond.static arraycopyName ∈ Ts) (hm4 : Cond.initialized "java/lang/System" ∈ Ts) (hframes : 1 ≤ R.frames) (hlocals : (rest.map fun v => v.category).sum + (nativeFrameWords "java/lang/System" "arraycopy" 5 + 11) ≤ R.locals) (hdg : decode cc pc = .ok (.invokestatic index, 3)) (kk : ∀ (H1 : Heap) (locs1 : List Loc), HS D A s (sW a ca w1 ++ (sW b ca u ++ wr)) H1 locs1 → W p l e R s m args below meth c H1 locs1 cells slots Q (F0 m (pc + 3) ls rest)) : W p l e R s m args below meth c H locs cells slots Q (F0 m pc ls (.int 64 :: .int 0 :: .ref (a 9) :: .int 0 :: .ref (b 9) :: rest)) := by
  obtain rfl := Option.some.inj h9
  exact va_copyi (ty := .int) C0.1.1 C0.1.2.1 hml C0.1.2.2.2.1 (C0.1.2.2.2.2 _ hm1) (C0.1.2.2.2.2 _ hm2) (C0.1.2.2.2.2 _ hm3) (C0.1.2.2.2.2 _ hm4) C0.2.1 hH.1 hH.2.1 hH.2.2 20 9 0 0 rfl rfl rfl rfl rfl (by decide) (by decide) (by decide) (by decide) (by decide) (fun _ _ => rfl) hframes hlocals hdg (fun H1 locs1 hP hD hS => kk H1 locs1 ⟨hP, hD, hS⟩)
theorem cp_counts (C0 : Cx p s m args c cc nL Ts own D ca A) (hH : HS D A s (sW a ca w ++ (sW b ca u ++ wr)) H locs) {w1 : Mem} (h9 : cpr w u 10 9 = some w1) (hml : c.maxLocals = ls.size) {index : Nat} (hm1 : Cond.methodLink own index arraycopyName ∈ Ts) (hm2 : Cond.native arraycopyName ∈ Ts) (hm3 : Cond.static arraycopyName ∈ Ts) (hm4 : Cond.initialized "java/lang/System" ∈ Ts) (hframes : 1 ≤ R.frames) (hlocals : (rest.map fun v => v.category).sum + (nativeFrameWords "java/lang/System" "arraycopy" 5 + 11) ≤ R.locals) (hdg : decode cc pc = .ok (.invokestatic index, 3)) (kk : ∀ (H1 : Heap) (locs1 : List Loc), HS D A s (sW a ca w1 ++ (sW b ca u ++ wr)) H1 locs1 → W p l e R s m args below meth c H1 locs1 cells slots Q (F0 m (pc + 3) ls rest)) : W p l e R s m args below meth c H locs cells slots Q (F0 m pc ls (.int 9 :: .int 0 :: .ref (a 10) :: .int 0 :: .ref (b 10) :: rest)) := by
  obtain rfl := Option.some.inj h9
  exact va_copyi (ty := .int) C0.1.1 C0.1.2.1 hml C0.1.2.2.2.1 (C0.1.2.2.2.2 _ hm1) (C0.1.2.2.2.2 _ hm2) (C0.1.2.2.2.2 _ hm3) (C0.1.2.2.2.2 _ hm4) C0.2.1 hH.1 hH.2.1 hH.2.2 21 10 0 0 rfl rfl rfl rfl rfl (by decide) (by decide) (by decide) (by decide) (by decide) (fun _ _ => rfl) hframes hlocals hdg (fun H1 locs1 hP hD hS => kk H1 locs1 ⟨hP, hD, hS⟩)
end GROWS
def rmX2_copyFrom : Room := { frames := 1, cells := 0, slots := 0, locals := 60 }
theorem hd_X2_copyFrom : yX2_copyFrom.cls = RX2 ∧ yX2_copyFrom.cls ≠ "java/lang/invoke/MethodHandle" ∧ yX2_copyFrom.cls ≠ "java/lang/invoke/VarHandle" ∧ (parseMethodDescriptor yX2_copyFrom.desc).map (fun d => d.parameters.length) = some 1 := by decide +kernel
theorem inX2_copyFrom_X2 : ∀ w ∈ wsX20, w ∈ wsX2_copyFrom := by decide +kernel
set_option maxHeartbeats 4000000 in
set_option maxRecDepth 100000 in
theorem mX2_copyFrom (l : Launch) (D : va_G) (ca : Gp) (a b : Nat → Nat) (wr : va_W) (w u : Mem) {v : Mem} (hf : pX2_copyFrom w u = some v) : Mv l yX2_copyFrom wsX2_copyFrom rmX2_copyFrom D ca [.ref (a 0), .ref (b 0)] (sW a ca w ++ (sW b ca u ++ wr)) (sW a ca v ++ (sW b ca u ++ wr)) := by
  refine Mv_of (own := RX2) (cc := cX2_copyFrom) (nL := 3) (by decide) rfl rfl rfl rfl (Nat.le_of_ble_eq_true rfl) ?_
  intro p e s m args below meth c Q A ls C0 hH hl hend
  obtain ⟨hx, hb, hml, hown, hts⟩ := id C0.1
  have hl : lv_has ls 3 [(0, .ref (a 0)), (1, .ref (b 0))] := hl
  unfold pX2_copyFrom at hf
  refine lv_aload_n hx hb dX2_copyFrom_0 rfl (lv_at hl 1 rfl) ?_
  refine gS_X2_blocks C0 hH.swap inX2_copyFrom_X2 (by decide +kernel : Cond.fieldLink RX2 9 "GatheringCache$Stick" "blocks" "[I" ∈ wsX2_copyFrom) dX2_copyFrom_1 ?_
  refine lv_iconst (v := 0) hx hb dX2_copyFrom_4 (by decide) ?_
  refine lv_aload_n hx hb dX2_copyFrom_5 rfl (lv_at hl 0 rfl) ?_
  refine gS_X2_blocks C0 hH inX2_copyFrom_X2 (by decide +kernel : Cond.fieldLink RX2 9 "GatheringCache$Stick" "blocks" "[I" ∈ wsX2_copyFrom) dX2_copyFrom_6 ?_
  refine lv_iconst (v := 0) hx hb dX2_copyFrom_9 (by decide) ?_
  refine lv_bipush (v := 12) hx hb dX2_copyFrom_10 (by decide) ?_
  obtain ⟨w1, h_1, hf⟩ := bnd hf
  refine cp_blocks C0 hH h_1 (C0.1.2.2.1.trans hl.1.symm) (by decide +kernel : Cond.methodLink RX2 39 arraycopyName ∈ wsX2_copyFrom) (by decide +kernel : Cond.native arraycopyName ∈ wsX2_copyFrom) (by decide +kernel : Cond.static arraycopyName ∈ wsX2_copyFrom) (by decide +kernel : Cond.initialized "java/lang/System" ∈ wsX2_copyFrom) (Nat.le_of_ble_eq_true rfl) (Nat.le_of_ble_eq_true rfl) dX2_copyFrom_12 (fun H locs hH => ?_)
  refine lv_aload_n hx hb dX2_copyFrom_15 rfl (lv_at hl 1 rfl) ?_
  refine gS_X2_values C0 hH.swap inX2_copyFrom_X2 (by decide +kernel : Cond.fieldLink RX2 15 "GatheringCache$Stick" "values" "[I" ∈ wsX2_copyFrom) dX2_copyFrom_16 ?_
  refine lv_iconst (v := 0) hx hb dX2_copyFrom_19 (by decide) ?_
  refine lv_aload_n hx hb dX2_copyFrom_20 rfl (lv_at hl 0 rfl) ?_
  refine gS_X2_values C0 hH inX2_copyFrom_X2 (by decide +kernel : Cond.fieldLink RX2 15 "GatheringCache$Stick" "values" "[I" ∈ wsX2_copyFrom) dX2_copyFrom_21 ?_
  refine lv_iconst (v := 0) hx hb dX2_copyFrom_24 (by decide) ?_
  refine lv_bipush (v := 12) hx hb dX2_copyFrom_25 (by decide) ?_
  obtain ⟨w2, h_2, hf⟩ := bnd hf
  refine cp_values C0 hH h_2 (C0.1.2.2.1.trans hl.1.symm) (by decide +kernel : Cond.methodLink RX2 39 arraycopyName ∈ wsX2_copyFrom) (by decide +kernel : Cond.native arraycopyName ∈ wsX2_copyFrom) (by decide +kernel : Cond.static arraycopyName ∈ wsX2_copyFrom) (by decide +kernel : Cond.initialized "java/lang/System" ∈ wsX2_copyFrom) (Nat.le_of_ble_eq_true rfl) (Nat.le_of_ble_eq_true rfl) dX2_copyFrom_27 (fun H locs hH => ?_)
  refine lv_aload_n hx hb dX2_copyFrom_30 rfl (lv_at hl 1 rfl) ?_
  refine gS_X2_stamps C0 hH.swap inX2_copyFrom_X2 (by decide +kernel : Cond.fieldLink RX2 18 "GatheringCache$Stick" "stamps" "[I" ∈ wsX2_copyFrom) dX2_copyFrom_31 ?_
  refine lv_iconst (v := 0) hx hb dX2_copyFrom_34 (by decide) ?_
  refine lv_aload_n hx hb dX2_copyFrom_35 rfl (lv_at hl 0 rfl) ?_
  refine gS_X2_stamps C0 hH inX2_copyFrom_X2 (by decide +kernel : Cond.fieldLink RX2 18 "GatheringCache$Stick" "stamps" "[I" ∈ wsX2_copyFrom) dX2_copyFrom_36 ?_
  refine lv_iconst (v := 0) hx hb dX2_copyFrom_39 (by decide) ?_
  refine lv_bipush (v := 12) hx hb dX2_copyFrom_40 (by decide) ?_
  obtain ⟨w3, h_3, hf⟩ := bnd hf
  refine cp_stamps C0 hH h_3 (C0.1.2.2.1.trans hl.1.symm) (by decide +kernel : Cond.methodLink RX2 39 arraycopyName ∈ wsX2_copyFrom) (by decide +kernel : Cond.native arraycopyName ∈ wsX2_copyFrom) (by decide +kernel : Cond.static arraycopyName ∈ wsX2_copyFrom) (by decide +kernel : Cond.initialized "java/lang/System" ∈ wsX2_copyFrom) (Nat.le_of_ble_eq_true rfl) (Nat.le_of_ble_eq_true rfl) dX2_copyFrom_42 (fun H locs hH => ?_)
  refine lv_aload_n hx hb dX2_copyFrom_45 rfl (lv_at hl 1 rfl) ?_
  refine gS_X2_uses C0 hH.swap inX2_copyFrom_X2 (by decide +kernel : Cond.fieldLink RX2 21 "GatheringCache$Stick" "uses" "[I" ∈ wsX2_copyFrom) dX2_copyFrom_46 ?_
  refine lv_iconst (v := 0) hx hb dX2_copyFrom_49 (by decide) ?_
  refine lv_aload_n hx hb dX2_copyFrom_50 rfl (lv_at hl 0 rfl) ?_
  refine gS_X2_uses C0 hH inX2_copyFrom_X2 (by decide +kernel : Cond.fieldLink RX2 21 "GatheringCache$Stick" "uses" "[I" ∈ wsX2_copyFrom) dX2_copyFrom_51 ?_
  refine lv_iconst (v := 0) hx hb dX2_copyFrom_54 (by decide) ?_
  refine lv_bipush (v := 12) hx hb dX2_copyFrom_55 (by decide) ?_
  obtain ⟨w4, h_4, hf⟩ := bnd hf
  refine cp_uses C0 hH h_4 (C0.1.2.2.1.trans hl.1.symm) (by decide +kernel : Cond.methodLink RX2 39 arraycopyName ∈ wsX2_copyFrom) (by decide +kernel : Cond.native arraycopyName ∈ wsX2_copyFrom) (by decide +kernel : Cond.static arraycopyName ∈ wsX2_copyFrom) (by decide +kernel : Cond.initialized "java/lang/System" ∈ wsX2_copyFrom) (Nat.le_of_ble_eq_true rfl) (Nat.le_of_ble_eq_true rfl) dX2_copyFrom_57 (fun H locs hH => ?_)
  obtain ⟨w5, h_5, hf⟩ := bnd hf
  obtain ⟨hz, rfl⟩ := cpz_s h_5
  have K : ∀ (H : Heap) (locs : List Loc) (ls : Array Slot), HS D A s (sW a ca (mrow w4 5 (va_cpy (u 5) (w4 5) 0 0 12)) ++ (sW b ca u ++ wr)) H locs → lv_has ls 3 [(2, .int (nI 12)), (0, .ref (a 0)), (1, .ref (b 0))] → W p l e rmX2_copyFrom s m args below meth c H locs 0 0 Q (F0 m 86 ls []) := by
    intro H locs ls hH hl
    refine lv_aload_n hx hb dX2_copyFrom_86 rfl (lv_at hl 1 rfl) ?_
    refine lv_aload_n hx hb dX2_copyFrom_87 rfl (lv_at hl 2 rfl) ?_
    refine gS_X2_lastUse C0 hH.swap inX2_copyFrom_X2 (by decide +kernel : Cond.fieldLink RX2 45 "GatheringCache$Stick" "lastUse" "I" ∈ wsX2_copyFrom) dX2_copyFrom_88 ?_
    obtain ⟨w6, h_6, hf⟩ := bnd hf
    refine pS_X2_lastUse C0 hH inX2_copyFrom_X2 h_6 (by decide +kernel : Cond.fieldLink RX2 45 "GatheringCache$Stick" "lastUse" "I" ∈ wsX2_copyFrom) dX2_copyFrom_91 (fun H locs hH => ?_)
    refine lv_aload_n hx hb dX2_copyFrom_94 rfl (lv_at hl 1 rfl) ?_
    refine lv_aload_n hx hb dX2_copyFrom_95 rfl (lv_at hl 2 rfl) ?_
    refine gS_X2_limit C0 hH.swap inX2_copyFrom_X2 (by decide +kernel : Cond.fieldLink RX2 28 "GatheringCache$Stick" "limit" "I" ∈ wsX2_copyFrom) dX2_copyFrom_96 ?_
    obtain ⟨w7, h_7, hf⟩ := bnd hf
    refine pS_X2_limit C0 hH inX2_copyFrom_X2 h_7 (by decide +kernel : Cond.fieldLink RX2 28 "GatheringCache$Stick" "limit" "I" ∈ wsX2_copyFrom) dX2_copyFrom_99 (fun H locs hH => ?_)
    refine lv_aload_n hx hb dX2_copyFrom_102 rfl (lv_at hl 1 rfl) ?_
    refine lv_aload_n hx hb dX2_copyFrom_103 rfl (lv_at hl 2 rfl) ?_
    refine gS_X2_charge C0 hH.swap inX2_copyFrom_X2 (by decide +kernel : Cond.fieldLink RX2 32 "GatheringCache$Stick" "charge" "I" ∈ wsX2_copyFrom) dX2_copyFrom_104 ?_
    obtain ⟨w8, h_8, hf⟩ := bnd hf
    refine pS_X2_charge C0 hH inX2_copyFrom_X2 h_8 (by decide +kernel : Cond.fieldLink RX2 32 "GatheringCache$Stick" "charge" "I" ∈ wsX2_copyFrom) dX2_copyFrom_107 (fun H locs hH => ?_)
    refine lv_aload_n hx hb dX2_copyFrom_110 rfl (lv_at hl 1 rfl) ?_
    refine lv_aload_n hx hb dX2_copyFrom_111 rfl (lv_at hl 2 rfl) ?_
    refine gS_X2_in C0 hH.swap inX2_copyFrom_X2 (by decide +kernel : Cond.fieldLink RX2 35 "GatheringCache$Stick" "in" "Z" ∈ wsX2_copyFrom) dX2_copyFrom_112 ?_
    obtain ⟨w9, h_9, hf⟩ := bnd hf
    refine pS_X2_in C0 hH inX2_copyFrom_X2 h_9 (by decide +kernel : Cond.fieldLink RX2 35 "GatheringCache$Stick" "in" "Z" ∈ wsX2_copyFrom) dX2_copyFrom_115 (fun H locs hH => ?_)
    cases hf
    exact hend _ _ _ _ hH dX2_copyFrom_118
  have J : ∀ (n k : Nat), k + n = 12 → ∀ (H : Heap) (locs : List Loc) (ls : Array Slot), HS D A s (sW a ca (mrow w4 5 (va_cpy (u 5) (w4 5) 0 0 k)) ++ (sW b ca u ++ wr)) H locs → lv_has ls 3 [(2, .int (nI k)), (0, .ref (a 0)), (1, .ref (b 0))] → W p l e rmX2_copyFrom s m args below meth c H locs 0 0 Q (F0 m 62 ls []) := by
    intro n
    induction n with
    | zero =>
      intro k hk H locs ls hH hl
      obtain rfl : k = 12 := by omega
      refine lv_iload_n hx hb dX2_copyFrom_62 rfl (lv_at hl 0 rfl) ?_
      refine lv_bipush (v := 12) hx hb dX2_copyFrom_63 (by decide) ?_
      refine lv_icmp_ge (tgt := 86) hx hb dX2_copyFrom_65 (by decide) (fun c1 => ?_) (fun c1 => absurd (nI_le (a := 12) (b := 12) (by decide) (by decide)) c1)
      exact K _ _ _ hH hl
    | succ n ih =>
      intro k hk H locs ls hH hl
      refine lv_iload_n hx hb dX2_copyFrom_62 rfl (lv_at hl 0 rfl) ?_
      refine lv_bipush (v := 12) hx hb dX2_copyFrom_63 (by decide) ?_
      refine lv_icmp_ge (tgt := 86) hx hb dX2_copyFrom_65 (by decide) (fun c1 => absurd c1 (nI_ge (a := k) (b := 12) (by omega) (by decide))) (fun c1 => ?_)
      refine lv_aload_n hx hb dX2_copyFrom_68 rfl (lv_at hl 1 rfl) ?_
      refine gS_X2_dirty C0 hH inX2_copyFrom_X2 (by decide +kernel : Cond.fieldLink RX2 24 "GatheringCache$Stick" "dirty" "[Z" ∈ wsX2_copyFrom) dX2_copyFrom_69 ?_
      refine lv_iload_n hx hb dX2_copyFrom_72 rfl (lv_at hl 0 rfl) ?_
      refine lv_aload_n hx hb dX2_copyFrom_73 rfl (lv_at hl 2 rfl) ?_
      refine gS_X2_dirty C0 hH.swap inX2_copyFrom_X2 (by decide +kernel : Cond.fieldLink RX2 24 "GatheringCache$Stick" "dirty" "[Z" ∈ wsX2_copyFrom) dX2_copyFrom_74 ?_
      refine lv_iload_n hx hb dX2_copyFrom_77 rfl (lv_at hl 0 rfl) ?_
      refine lS_dirty C0 hH.swap (ld_nI (u := u) (k := 5) (n := 12) (i := k) (by omega) (by decide)) dX2_copyFrom_78 ?_
      refine sS_dirty C0 hH (stz_nI (k := 5) (n := 12) (i := k) (allz_at hz k (by omega)) (by omega) (by decide)) dX2_copyFrom_79 (fun H locs hH => ?_)
      rw [mrowS] at hH
      refine lv_iinc (v := (nI k + 1)) (lv' := [(2, .int (nI k + 1)), (0, .ref (a 0)), (1, .ref (b 0))]) hx hb dX2_copyFrom_80 hl (k := 0) rfl rfl (by decide) rfl (fun ls hl => ?_)
      refine lv_goto (tgt := 62) hx hb dX2_copyFrom_83 (by decide) ?_
      rw [nI_1] at hl
      exact ih (k + 1) (by omega) _ _ _ hH hl
  refine lv_iconst (v := 0) hx hb dX2_copyFrom_60 (by decide) ?_
  refine lv_istore_n (lv' := [(2, .int 0), (0, .ref (a 0)), (1, .ref (b 0))]) hx hb dX2_copyFrom_61 rfl hl (by decide) rfl (fun ls hl => ?_)
  exact J 12 0 rfl _ _ _ (by rw [mrow0]; exact hH) (by rw [nI_0]; exact hl)
def rmX1_copyFrom : Room := { frames := 2, cells := 0, slots := 0, locals := 90 }
theorem hd_X1_copyFrom : yX1_copyFrom.cls = RX1 ∧ yX1_copyFrom.cls ≠ "java/lang/invoke/MethodHandle" ∧ yX1_copyFrom.cls ≠ "java/lang/invoke/VarHandle" ∧ (parseMethodDescriptor yX1_copyFrom.desc).map (fun d => d.parameters.length) = some 1 := by decide +kernel
theorem inX1_copyFrom_X1 : ∀ w ∈ wsX10, w ∈ wsX1_copyFrom := by decide +kernel
set_option maxHeartbeats 4000000 in
set_option maxRecDepth 100000 in
theorem mX1_copyFrom (l : Launch) (D : va_G) (ca : Gp) (a b : Nat → Nat) (wr : va_W) (w u : Mem) {v : Mem} (hf : pX1_copyFrom w u = some v) : Mv l yX1_copyFrom wsX1_copyFrom rmX1_copyFrom D ca [.ref (a 6), .ref (b 6)] (sW a ca w ++ (sW b ca u ++ wr)) (sW a ca v ++ (sW b ca u ++ wr)) := by
  refine Mv_of (own := RX1) (cc := cX1_copyFrom) (nL := 2) (by decide) rfl rfl rfl rfl (Nat.le_of_ble_eq_true rfl) ?_
  intro p e s m args below meth c Q A ls C0 hH hl hend
  obtain ⟨hx, hb, hml, hown, hts⟩ := id C0.1
  have hl : lv_has ls 2 [(0, .ref (a 6)), (1, .ref (b 6))] := hl
  unfold pX1_copyFrom at hf
  refine lv_aload_n hx hb dX1_copyFrom_0 rfl (lv_at hl 0 rfl) ?_
  refine gS_X1_stick C0 hH inX1_copyFrom_X1 (by decide +kernel : Cond.fieldLink RX1 12 "GatheringCache$State" "stick" "LGatheringCache$Stick;" ∈ wsX1_copyFrom) dX1_copyFrom_1 ?_
  refine lv_aload_n hx hb dX1_copyFrom_4 rfl (lv_at hl 1 rfl) ?_
  refine gS_X1_stick C0 hH.swap inX1_copyFrom_X1 (by decide +kernel : Cond.fieldLink RX1 12 "GatheringCache$State" "stick" "LGatheringCache$Stick;" ∈ wsX1_copyFrom) dX1_copyFrom_5 ?_
  obtain ⟨w1, h_1, hf⟩ := bnd hf
  refine cl_vV C0 hH hl.1 (As := [.ref (b 0)]) (rest := []) (mX2_copyFrom l D ca a b wr w u h_1) gX1_copyFrom_X2_copyFrom rfl rfl rfl hd_X2_copyFrom ⟨Nat.le_of_ble_eq_true rfl, Nat.le_of_ble_eq_true rfl⟩ ⟨Nat.zero_le _, Nat.zero_le _⟩ (vS_X2 C0 hH) rfl (Nat.le_of_ble_eq_true rfl) dX1_copyFrom_8 (fun H locs hH => ?_)
  refine lv_aload_n hx hb dX1_copyFrom_11 rfl (lv_at hl 1 rfl) ?_
  refine gS_X1_diskValues C0 hH.swap inX1_copyFrom_X1 (by decide +kernel : Cond.fieldLink RX1 18 "GatheringCache$State" "diskValues" "[I" ∈ wsX1_copyFrom) dX1_copyFrom_12 ?_
  refine lv_iconst (v := 0) hx hb dX1_copyFrom_15 (by decide) ?_
  refine lv_aload_n hx hb dX1_copyFrom_16 rfl (lv_at hl 0 rfl) ?_
  refine gS_X1_diskValues C0 hH inX1_copyFrom_X1 (by decide +kernel : Cond.fieldLink RX1 18 "GatheringCache$State" "diskValues" "[I" ∈ wsX1_copyFrom) dX1_copyFrom_17 ?_
  refine lv_iconst (v := 0) hx hb dX1_copyFrom_20 (by decide) ?_
  refine lv_bipush (v := 64) hx hb dX1_copyFrom_21 (by decide) ?_
  obtain ⟨w2, h_2, hf⟩ := bnd hf
  refine cp_diskValues C0 hH h_2 (C0.1.2.2.1.trans hl.1.symm) (by decide +kernel : Cond.methodLink RX1 39 arraycopyName ∈ wsX1_copyFrom) (by decide +kernel : Cond.native arraycopyName ∈ wsX1_copyFrom) (by decide +kernel : Cond.static arraycopyName ∈ wsX1_copyFrom) (by decide +kernel : Cond.initialized "java/lang/System" ∈ wsX1_copyFrom) (Nat.le_of_ble_eq_true rfl) (Nat.le_of_ble_eq_true rfl) dX1_copyFrom_23 (fun H locs hH => ?_)
  refine lv_aload_n hx hb dX1_copyFrom_26 rfl (lv_at hl 1 rfl) ?_
  refine gS_X1_diskStamps C0 hH.swap inX1_copyFrom_X1 (by decide +kernel : Cond.fieldLink RX1 22 "GatheringCache$State" "diskStamps" "[I" ∈ wsX1_copyFrom) dX1_copyFrom_27 ?_
  refine lv_iconst (v := 0) hx hb dX1_copyFrom_30 (by decide) ?_
  refine lv_aload_n hx hb dX1_copyFrom_31 rfl (lv_at hl 0 rfl) ?_
  refine gS_X1_diskStamps C0 hH inX1_copyFrom_X1 (by decide +kernel : Cond.fieldLink RX1 22 "GatheringCache$State" "diskStamps" "[I" ∈ wsX1_copyFrom) dX1_copyFrom_32 ?_
  refine lv_iconst (v := 0) hx hb dX1_copyFrom_35 (by decide) ?_
  refine lv_bipush (v := 64) hx hb dX1_copyFrom_36 (by decide) ?_
  obtain ⟨w3, h_3, hf⟩ := bnd hf
  refine cp_diskStamps C0 hH h_3 (C0.1.2.2.1.trans hl.1.symm) (by decide +kernel : Cond.methodLink RX1 39 arraycopyName ∈ wsX1_copyFrom) (by decide +kernel : Cond.native arraycopyName ∈ wsX1_copyFrom) (by decide +kernel : Cond.static arraycopyName ∈ wsX1_copyFrom) (by decide +kernel : Cond.initialized "java/lang/System" ∈ wsX1_copyFrom) (Nat.le_of_ble_eq_true rfl) (Nat.le_of_ble_eq_true rfl) dX1_copyFrom_38 (fun H locs hH => ?_)
  refine lv_aload_n hx hb dX1_copyFrom_41 rfl (lv_at hl 1 rfl) ?_
  refine gS_X1_latestStamps C0 hH.swap inX1_copyFrom_X1 (by decide +kernel : Cond.fieldLink RX1 25 "GatheringCache$State" "latestStamps" "[I" ∈ wsX1_copyFrom) dX1_copyFrom_42 ?_
  refine lv_iconst (v := 0) hx hb dX1_copyFrom_45 (by decide) ?_
  refine lv_aload_n hx hb dX1_copyFrom_46 rfl (lv_at hl 0 rfl) ?_
  refine gS_X1_latestStamps C0 hH inX1_copyFrom_X1 (by decide +kernel : Cond.fieldLink RX1 25 "GatheringCache$State" "latestStamps" "[I" ∈ wsX1_copyFrom) dX1_copyFrom_47 ?_
  refine lv_iconst (v := 0) hx hb dX1_copyFrom_50 (by decide) ?_
  refine lv_bipush (v := 64) hx hb dX1_copyFrom_51 (by decide) ?_
  obtain ⟨w4, h_4, hf⟩ := bnd hf
  refine cp_latestStamps C0 hH h_4 (C0.1.2.2.1.trans hl.1.symm) (by decide +kernel : Cond.methodLink RX1 39 arraycopyName ∈ wsX1_copyFrom) (by decide +kernel : Cond.native arraycopyName ∈ wsX1_copyFrom) (by decide +kernel : Cond.static arraycopyName ∈ wsX1_copyFrom) (by decide +kernel : Cond.initialized "java/lang/System" ∈ wsX1_copyFrom) (Nat.le_of_ble_eq_true rfl) (Nat.le_of_ble_eq_true rfl) dX1_copyFrom_53 (fun H locs hH => ?_)
  refine lv_aload_n hx hb dX1_copyFrom_56 rfl (lv_at hl 1 rfl) ?_
  refine gS_X1_counts C0 hH.swap inX1_copyFrom_X1 (by decide +kernel : Cond.fieldLink RX1 28 "GatheringCache$State" "counts" "[I" ∈ wsX1_copyFrom) dX1_copyFrom_57 ?_
  refine lv_iconst (v := 0) hx hb dX1_copyFrom_60 (by decide) ?_
  refine lv_aload_n hx hb dX1_copyFrom_61 rfl (lv_at hl 0 rfl) ?_
  refine gS_X1_counts C0 hH inX1_copyFrom_X1 (by decide +kernel : Cond.fieldLink RX1 28 "GatheringCache$State" "counts" "[I" ∈ wsX1_copyFrom) dX1_copyFrom_62 ?_
  refine lv_iconst (v := 0) hx hb dX1_copyFrom_65 (by decide) ?_
  refine lv_bipush (v := 9) hx hb dX1_copyFrom_66 (by decide) ?_
  obtain ⟨w5, h_5, hf⟩ := bnd hf
  refine cp_counts C0 hH h_5 (C0.1.2.2.1.trans hl.1.symm) (by decide +kernel : Cond.methodLink RX1 39 arraycopyName ∈ wsX1_copyFrom) (by decide +kernel : Cond.native arraycopyName ∈ wsX1_copyFrom) (by decide +kernel : Cond.static arraycopyName ∈ wsX1_copyFrom) (by decide +kernel : Cond.initialized "java/lang/System" ∈ wsX1_copyFrom) (Nat.le_of_ble_eq_true rfl) (Nat.le_of_ble_eq_true rfl) dX1_copyFrom_68 (fun H locs hH => ?_)
  refine lv_aload_n hx hb dX1_copyFrom_71 rfl (lv_at hl 0 rfl) ?_
  refine lv_aload_n hx hb dX1_copyFrom_72 rfl (lv_at hl 1 rfl) ?_
  refine gS_X1_lastStamp C0 hH.swap inX1_copyFrom_X1 (by decide +kernel : Cond.fieldLink RX1 45 "GatheringCache$State" "lastStamp" "I" ∈ wsX1_copyFrom) dX1_copyFrom_73 ?_
  obtain ⟨w6, h_6, hf⟩ := bnd hf
  refine pS_X1_lastStamp C0 hH inX1_copyFrom_X1 h_6 (by decide +kernel : Cond.fieldLink RX1 45 "GatheringCache$State" "lastStamp" "I" ∈ wsX1_copyFrom) dX1_copyFrom_76 (fun H locs hH => ?_)
  refine lv_aload_n hx hb dX1_copyFrom_79 rfl (lv_at hl 0 rfl) ?_
  refine lv_aload_n hx hb dX1_copyFrom_80 rfl (lv_at hl 1 rfl) ?_
  refine gS_X1_on C0 hH.swap inX1_copyFrom_X1 (by decide +kernel : Cond.fieldLink RX1 31 "GatheringCache$State" "on" "Z" ∈ wsX1_copyFrom) dX1_copyFrom_81 ?_
  obtain ⟨w7, h_7, hf⟩ := bnd hf
  refine pS_X1_on C0 hH inX1_copyFrom_X1 h_7 (by decide +kernel : Cond.fieldLink RX1 31 "GatheringCache$State" "on" "Z" ∈ wsX1_copyFrom) dX1_copyFrom_84 (fun H locs hH => ?_)
  cases hf
  exact hend _ _ _ _ hH dX1_copyFrom_87
def rmX0_save : Room := { frames := 3, cells := 0, slots := 0, locals := 120 }
theorem hd_X0_save : yX0_save.cls = RX0 ∧ yX0_save.cls ≠ "java/lang/invoke/MethodHandle" ∧ yX0_save.cls ≠ "java/lang/invoke/VarHandle" ∧ (parseMethodDescriptor yX0_save.desc).map (fun d => d.parameters.length) = some 1 := by decide +kernel
theorem inX0_save_X0 : ∀ w ∈ wsX00, w ∈ wsX0_save := by decide +kernel
set_option maxHeartbeats 4000000 in
set_option maxRecDepth 100000 in
theorem mX0_save (l : Launch) (D : va_G) (ca : Gp) (a b h : Nat → Nat) (f : Nat → Nat → Nat) (wr : va_W) (t u hh : Mem) (S : Nat → Mem) {h9 : Mem} {S9 : Nat → Mem} (hf : pX0_save u hh S = some (h9, S9)) : Mv l yX0_save wsX0_save rmX0_save D ca [.ref (h 0), .ref (a 6)] (gW a b h f ca t u hh S wr) (gW a b h f ca t u h9 S9 wr) := by
  refine Mv_of (own := RX0) (cc := cX0_save) (nL := 3) (by decide) rfl rfl rfl rfl (Nat.le_of_ble_eq_true rfl) ?_
  intro p e s m args below meth c Q A ls C0 hH hl hend
  obtain ⟨hx, hb, hml, hown, hts⟩ := id C0.1
  have hl : lv_has ls 3 [(0, .ref (h 0)), (1, .ref (a 6))] := hl
  unfold pX0_save at hf
  refine lv_aload_n hx hb dX0_save_0 rfl (lv_at hl 0 rfl) ?_
  refine gG_X0_states C0 hH inX0_save_X0 (by decide +kernel : Cond.fieldLink RX0 11 "GatheringCache$History" "states" "[LGatheringCache$State;" ∈ wsX0_save) dX0_save_1 ?_
  refine lv_aload_n hx hb dX0_save_4 rfl (lv_at hl 0 rfl) ?_
  refine gG_X0_next C0 hH inX0_save_X0 (by decide +kernel : Cond.fieldLink RX0 18 "GatheringCache$History" "next" "I" ∈ wsX0_save) dX0_save_5 ?_
  refine lv_bipush (v := 6) hx hb dX0_save_8 (by decide) ?_
  obtain ⟨y, h_y, hf⟩ := bnd hf
  refine cl_iS C0 hH hl.1 (As := [.int (hh 0 1), .int 6]) (rest := [.ref (h 1)]) (mJ9_floorMod_7cf53 l D ca _ (hh 0 1) 6 h_y) gX0_save_J9_floorMod_7cf53 rfl rfl rfl hd_J9_floorMod_7cf53 ⟨Nat.le_of_ble_eq_true rfl, Nat.le_of_ble_eq_true rfl⟩ ⟨Nat.zero_le _, Nat.zero_le _⟩ rfl (Nat.le_of_ble_eq_true rfl) dX0_save_10 (fun H locs hH => ?_)
  obtain ⟨hy, hf⟩ := gd hf
  refine lG_states C0 hH hy dX0_save_13 ?_
  refine lv_astore_n (lv' := [(2, .ref (f y.toNatClampNeg 6)), (0, .ref (h 0)), (1, .ref (a 6))]) hx hb dX0_save_14 rfl hl (by decide) rfl (fun ls hl => ?_)
  refine lv_aload_n hx hb dX0_save_15 rfl (lv_at hl 0 rfl) ?_
  refine lv_ifnull hx hb dX0_save_16 ?_
  refine lv_aload_n hx hb dX0_save_19 rfl (lv_at hl 0 rfl) ?_
  refine lv_aload_n hx hb dX0_save_20 rfl (lv_at hl 2 rfl) ?_
  obtain ⟨v, h_v, hf⟩ := bnd hf
  have hH := hH.perm (perm_out a b h f ca t u hh S wr (inB_lt hy))
  refine cl_vV C0 hH hl.1 (As := [.ref (a 6)]) (rest := []) (mX1_copyFrom l D ca (f y.toNatClampNeg) a _ (S y.toNatClampNeg) u h_v) gX0_save_X1_copyFrom rfl rfl rfl hd_X1_copyFrom ⟨Nat.le_of_ble_eq_true rfl, Nat.le_of_ble_eq_true rfl⟩ ⟨Nat.zero_le _, Nat.zero_le _⟩ (vS_X1 C0 hH) rfl (Nat.le_of_ble_eq_true rfl) dX0_save_21 (fun H locs hH => ?_)
  have hH := hH.perm (perm_in a b h f ca t u hh S wr (inB_lt hy) v)
  refine lv_aload_n hx hb dX0_save_24 rfl (lv_at hl 1 rfl) ?_
  refine lv_dup hx hb dX0_save_25 rfl ?_
  refine gG_X0_next C0 hH inX0_save_X0 (by decide +kernel : Cond.fieldLink RX0 18 "GatheringCache$History" "next" "I" ∈ wsX0_save) dX0_save_26 ?_
  refine lv_iconst (v := 1) hx hb dX0_save_29 (by decide) ?_
  refine lv_iadd hx hb dX0_save_30 ?_
  obtain ⟨h1, h_h1, hf⟩ := bnd hf
  refine pG_X0_next C0 hH inX0_save_X0 h_h1 (by decide +kernel : Cond.fieldLink RX0 18 "GatheringCache$History" "next" "I" ∈ wsX0_save) dX0_save_31 (fun H locs hH => ?_)
  refine lv_aload_n hx hb dX0_save_34 rfl (lv_at hl 1 rfl) ?_
  refine lv_aload_n hx hb dX0_save_35 rfl (lv_at hl 1 rfl) ?_
  refine gG_X0_size C0 hH inX0_save_X0 (by decide +kernel : Cond.fieldLink RX0 32 "GatheringCache$History" "size" "I" ∈ wsX0_save) dX0_save_36 ?_
  refine lv_iconst (v := 1) hx hb dX0_save_39 (by decide) ?_
  refine lv_iadd hx hb dX0_save_40 ?_
  refine lv_bipush (v := 6) hx hb dX0_save_41 (by decide) ?_
  refine va_mmin hx hb (C0.1.2.2.1.trans hl.1.symm) hown (hts (.methodLink RX0 35 Lib.Math.min.name) (by decide +kernel)) (hts (.static Lib.Math.min.name) (by decide +kernel)) (hts (.initialized "java/lang/Math") (by decide +kernel)) (hts (.code Lib.Math.min.name Lib.Math.min.code 2 (some .int)) (by decide +kernel)) (Nat.le_of_ble_eq_true rfl) (Nat.le_of_ble_eq_true rfl) (Nat.zero_le _) (Nat.zero_le _) dX0_save_43 ?_
  obtain ⟨h2, h_h2, hf⟩ := bnd hf
  refine pG_X0_size C0 hH inX0_save_X0 h_h2 (by decide +kernel : Cond.fieldLink RX0 32 "GatheringCache$History" "size" "I" ∈ wsX0_save) dX0_save_46 (fun H locs hH => ?_)
  cases hf
  exact hend _ _ _ _ hH dX0_save_49
def rmX0_restore : Room := { frames := 3, cells := 0, slots := 0, locals := 120 }
theorem hd_X0_restore : yX0_restore.cls = RX0 ∧ yX0_restore.cls ≠ "java/lang/invoke/MethodHandle" ∧ yX0_restore.cls ≠ "java/lang/invoke/VarHandle" ∧ (parseMethodDescriptor yX0_restore.desc).map (fun d => d.parameters.length) = some 1 := by decide +kernel
theorem inX0_restore_X0 : ∀ w ∈ wsX00, w ∈ wsX0_restore := by decide +kernel
set_option maxHeartbeats 4000000 in
set_option maxRecDepth 100000 in
theorem mX0_restore (l : Launch) (D : va_G) (ca : Gp) (a b h : Nat → Nat) (f : Nat → Nat → Nat) (wr : va_W) (t u hh : Mem) (S : Nat → Mem) {u9 h9 : Mem} (hf : pX0_restore u hh S = some (u9, h9)) : Mv l yX0_restore wsX0_restore rmX0_restore D ca [.ref (h 0), .ref (a 6)] (gW a b h f ca t u hh S wr) (gW a b h f ca t u9 h9 S wr) := by
  refine Mv_of (own := RX0) (cc := cX0_restore) (nL := 3) (by decide) rfl rfl rfl rfl (Nat.le_of_ble_eq_true rfl) ?_
  intro p e s m args below meth c Q A ls C0 hH hl hend
  obtain ⟨hx, hb, hml, hown, hts⟩ := id C0.1
  have hl : lv_has ls 3 [(0, .ref (h 0)), (1, .ref (a 6))] := hl
  unfold pX0_restore at hf
  refine lv_aload_n hx hb dX0_restore_0 rfl (lv_at hl 0 rfl) ?_
  refine lv_dup hx hb dX0_restore_1 rfl ?_
  refine gG_X0_next C0 hH inX0_restore_X0 (by decide +kernel : Cond.fieldLink RX0 18 "GatheringCache$History" "next" "I" ∈ wsX0_restore) dX0_restore_2 ?_
  refine lv_iconst (v := 1) hx hb dX0_restore_5 (by decide) ?_
  refine lv_isub hx hb dX0_restore_6 ?_
  obtain ⟨h1, h_h1, hf⟩ := bnd hf
  refine pG_X0_next C0 hH inX0_restore_X0 h_h1 (by decide +kernel : Cond.fieldLink RX0 18 "GatheringCache$History" "next" "I" ∈ wsX0_restore) dX0_restore_7 (fun H locs hH => ?_)
  refine lv_aload_n hx hb dX0_restore_10 rfl (lv_at hl 0 rfl) ?_
  refine lv_aload_n hx hb dX0_restore_11 rfl (lv_at hl 0 rfl) ?_
  refine gG_X0_size C0 hH inX0_restore_X0 (by decide +kernel : Cond.fieldLink RX0 32 "GatheringCache$History" "size" "I" ∈ wsX0_restore) dX0_restore_12 ?_
  refine lv_iconst (v := 1) hx hb dX0_restore_15 (by decide) ?_
  refine lv_isub hx hb dX0_restore_16 ?_
  refine lv_iconst (v := 0) hx hb dX0_restore_17 (by decide) ?_
  refine va_mmax hx hb (C0.1.2.2.1.trans hl.1.symm) hown (hts (.methodLink RX0 38 Lib.Math.max.name) (by decide +kernel)) (hts (.static Lib.Math.max.name) (by decide +kernel)) (hts (.initialized "java/lang/Math") (by decide +kernel)) (hts (.code Lib.Math.max.name Lib.Math.max.code 2 (some .int)) (by decide +kernel)) (Nat.le_of_ble_eq_true rfl) (Nat.le_of_ble_eq_true rfl) (Nat.zero_le _) (Nat.zero_le _) dX0_restore_18 ?_
  obtain ⟨h2, h_h2, hf⟩ := bnd hf
  refine pG_X0_size C0 hH inX0_restore_X0 h_h2 (by decide +kernel : Cond.fieldLink RX0 32 "GatheringCache$History" "size" "I" ∈ wsX0_restore) dX0_restore_21 (fun H locs hH => ?_)
  refine lv_aload_n hx hb dX0_restore_24 rfl (lv_at hl 0 rfl) ?_
  refine gG_X0_states C0 hH inX0_restore_X0 (by decide +kernel : Cond.fieldLink RX0 11 "GatheringCache$History" "states" "[LGatheringCache$State;" ∈ wsX0_restore) dX0_restore_25 ?_
  refine lv_aload_n hx hb dX0_restore_28 rfl (lv_at hl 0 rfl) ?_
  refine gG_X0_next C0 hH inX0_restore_X0 (by decide +kernel : Cond.fieldLink RX0 18 "GatheringCache$History" "next" "I" ∈ wsX0_restore) dX0_restore_29 ?_
  refine lv_bipush (v := 6) hx hb dX0_restore_32 (by decide) ?_
  obtain ⟨y, h_y, hf⟩ := bnd hf
  refine cl_iS C0 hH hl.1 (As := [.int (h2 0 1), .int 6]) (rest := [.ref (h 1)]) (mJ9_floorMod_7cf53 l D ca _ (h2 0 1) 6 h_y) gX0_restore_J9_floorMod_7cf53 rfl rfl rfl hd_J9_floorMod_7cf53 ⟨Nat.le_of_ble_eq_true rfl, Nat.le_of_ble_eq_true rfl⟩ ⟨Nat.zero_le _, Nat.zero_le _⟩ rfl (Nat.le_of_ble_eq_true rfl) dX0_restore_34 (fun H locs hH => ?_)
  obtain ⟨hy, hf⟩ := gd hf
  refine lG_states C0 hH hy dX0_restore_37 ?_
  refine lv_astore_n (lv' := [(2, .ref (f y.toNatClampNeg 6)), (0, .ref (h 0)), (1, .ref (a 6))]) hx hb dX0_restore_38 rfl hl (by decide) rfl (fun ls hl => ?_)
  refine lv_aload_n hx hb dX0_restore_39 rfl (lv_at hl 0 rfl) ?_
  refine lv_ifnull hx hb dX0_restore_40 ?_
  refine lv_aload_n hx hb dX0_restore_43 rfl (lv_at hl 2 rfl) ?_
  refine lv_aload_n hx hb dX0_restore_44 rfl (lv_at hl 0 rfl) ?_
  obtain ⟨v, h_v, hf⟩ := bnd hf
  have hH := (hH.perm (perm_out a b h f ca t u h2 S wr (inB_lt hy))).swap
  refine cl_vV C0 hH hl.1 (As := [.ref (f y.toNatClampNeg 6)]) (rest := []) (mX1_copyFrom l D ca a (f y.toNatClampNeg) _ u (S y.toNatClampNeg) h_v) gX0_restore_X1_copyFrom rfl rfl rfl hd_X1_copyFrom ⟨Nat.le_of_ble_eq_true rfl, Nat.le_of_ble_eq_true rfl⟩ ⟨Nat.zero_le _, Nat.zero_le _⟩ (vS_X1 C0 hH) rfl (Nat.le_of_ble_eq_true rfl) dX0_restore_45 (fun H locs hH => ?_)
  have hH := hH.swap.perm (perm_out a b h f ca t v h2 S wr (inB_lt hy)).symm
  cases hf
  exact hend _ _ _ _ hH dX0_restore_48
