/-! THE LAW'S CASES: a call of the one side, the same call of the other, and the comparison. -/
def LW (o : Nat) (d a b h : Nat → Nat) (f : Nat → Nat → Nat) (ca : Gp) (ol : Nat → Int64) (v t u hh : Mem) (S : Nat → Mem) : va_W := oW o ca ol ++ (mW d ca v ++ gW a b h f ca t u hh S [])
theorem perm_gx (x : va_W) (a b h : Nat → Nat) (f : Nat → Nat → Nat) (ca : Gp) (t u hh : Mem) (S : Nat → Mem) (wr : va_W) : (x ++ gW a b h f ca t u hh S wr).Perm (gW a b h f ca t u hh S (x ++ wr)) := by
  unfold gW hW
  refine List.Perm.trans (perm_sw _ _ _) (List.Perm.append_left _ ?_)
  refine List.Perm.trans (perm_sw _ _ _) (List.Perm.append_left _ ?_)
  refine List.Perm.trans (perm_sw _ _ _) (List.Perm.append_left _ ?_)
  exact perm_sw _ _ _
theorem LW_h {o : Nat} {d a b h : Nat → Nat} {f : Nat → Nat → Nat} {ca : Gp} {ol : Nat → Int64} {v t u hh : Mem} {S : Nat → Mem} : (LW o d a b h f ca ol v t u hh S).Perm (oW o ca ol ++ gW a b h f ca t u hh S (mW d ca v ++ [])) := List.Perm.append_left _ (perm_gx _ _ _ _ _ _ _ _ _ _ _)
theorem LW_m {o : Nat} {d a b h : Nat → Nat} {f : Nat → Nat → Nat} {ca : Gp} {ol : Nat → Int64} {v t u hh : Mem} {S : Nat → Mem} : (LW o d a b h f ca ol v t u hh S).Perm (mW d ca v ++ (oW o ca ol ++ gW a b h f ca t u hh S [])) := perm_sw _ _ _
theorem LW_g {o : Nat} {d a b h : Nat → Nat} {f : Nat → Nat → Nat} {ca : Gp} {ol : Nat → Int64} {v t u hh : Mem} {S : Nat → Mem} : (LW o d a b h f ca ol v t u hh S).Perm (gW a b h f ca t u hh S (oW o ca ol ++ (mW d ca v ++ []))) := LW_h.trans (perm_gx _ _ _ _ _ _ _ _ _ _ _)
/-- what the two sides answer at a call, and that they go on alike: of calls that may throw, with and without a change; of the others -/
def StepA (Sim : Mem → Mem → Mem → Mem → (Nat → Mem) → Prop) (P : Option (Int32 × GM)) (T : Option (String × Mem)) (G : Option (Int32 × Mem)) (exs : List String) (u hh : Mem) (S : Nat → Mem) : Prop :=
  (∃ r t9 u9 h9 S9 v9, P = some (r, (t9, u9, h9, S9)) ∧ G = some (r, v9) ∧ v9 0 0 = 0 ∧ Sim v9 t9 u9 h9 S9) ∨ (∃ k E t9 r v9, exs[k]? = some E ∧ T = some (E, t9) ∧ G = some (r, v9) ∧ v9 0 0 = nI (k + 1) ∧ Sim v9 t9 u hh S)
def StepB (Sim : Mem → Mem → Mem → Mem → (Nat → Mem) → Prop) (P : Option Int32) (T : Option (String × Mem)) (G : Option (Int32 × Mem)) (exs : List String) (t u hh : Mem) (S : Nat → Mem) : Prop :=
  (∃ r v9, P = some r ∧ G = some (r, v9) ∧ v9 0 0 = 0 ∧ Sim v9 t u hh S) ∨ (∃ k E t9 r v9, exs[k]? = some E ∧ T = some (E, t9) ∧ G = some (r, v9) ∧ v9 0 0 = nI (k + 1) ∧ Sim v9 t9 u hh S)
def StepC (Sim : Mem → Mem → Mem → Mem → (Nat → Mem) → Prop) (P : Option (Int32 × GM)) (G : Option (Int32 × Mem)) : Prop := ∃ r t9 u9 h9 S9 v9, P = some (r, (t9, u9, h9, S9)) ∧ G = some (r, v9) ∧ Sim v9 t9 u9 h9 S9
def StepD (Sim : Mem → Mem → Mem → Mem → (Nat → Mem) → Prop) (P : Option Int32) (G : Option (Int32 × Mem)) (t u hh : Mem) (S : Nat → Mem) : Prop := ∃ r v9, P = some r ∧ G = some (r, v9) ∧ Sim v9 t u hh S
def bz (x : Int32) : Int32 := if x = 0 then 0 else 1
theorem nI_k1 : nI (0 + 1) = 1 := rfl
theorem nI_k2 : nI (1 + 1) = 2 := rfl
theorem nI_k3 : nI (2 + 1) = 3 := rfl
theorem lcmp_same (x : Int64) : lg_cmp x x = 0 := by
  unfold lg_cmp
  simp
theorem lO {p : Program} {l : Launch} {e : Env} {R : Room} {s : State} {m : MethodId} {args : Array Value} {below : List Frame} {meth : Method} {c : Code} {H : Heap} {locs : List Loc} {cells slots : Nat} {Q : State → Prop} {cc : ByteArray} {pc nL : Nat} {ls : Array Slot} {rest : List Value} {D : va_G} {ca : Gp} {A : Nat → Prop} {Ts : List Cond} {own : String} {wr : va_W} {o : Nat} {ol : Nat → Int64} (C0 : Cx p s m args c cc nL Ts own D ca A) (hH : HS D A s (oW o ca ol ++ wr) H locs) (hdg : decode cc pc = .ok (.laload, 1)) (kk : W p l e R s m args below meth c H locs cells slots Q (F0 m (pc + 1) ls (.long (ol 0) :: rest))) : W p l e R s m args below meth c H locs cells slots Q (F0 m pc ls (.int 0 :: .ref o :: rest)) :=
  va_lald C0.1.1 C0.1.2.1 C0.2.1 hH.1 0 4 rfl rfl (by unfold vp_in; decide) hdg kk

set_option maxHeartbeats 4000000 in
set_option maxRecDepth 100000 in
theorem law_0 {p : Program} {l : Launch} {e : Env} {s : State} {m : MethodId} {args : Array Value} {below : List Frame} {meth : Method} {c : Code} {H : Heap} {locs : List Loc} {cells slots : Nat} {Q : State → Prop} {ls : Array Slot} {D : va_G} {ca : Gp} {A : Nat → Prop} {b0 L o : Nat} {xs : Nat → Int32} {d a b h : Nat → Nat} {f : Nat → Nat → Nat} {ol : Nat → Int64} {v t u hh : Mem} {S : Nat → Mem} {x4 : Int32} {Sim : Mem → Mem → Mem → Mem → (Nat → Mem) → Prop} (C0 : Cx p s m args c cL_law 9 wsL_law RL D ca A) (hfl : l.stackTraces = false) (hX : va_X b0 L xs s s.heap) (hbl : b0 < s.heap.size) (hbA : ¬ A b0) (hH : HS D A s (LW o d a b h f ca ol v t u hh S) H locs) (hl : lv_has ls 9 [(0, .ref b0), (1, .ref (h 2)), (2, .ref (d 0)), (3, .ref o), (4, .int x4)]) (h1 : vp_in (x4 + 1) L) (h2 : vp_in (x4 + 2) L) (h3 : vp_in (x4 + 3) L) (hroom : cells + 1 ≤ room_1.cells ∧ slots + 6 ≤ room_1.slots) (ok : StepA Sim (pX4_write t u hh S (xs (x4 + 1).toNatClampNeg) (xs (x4 + 2).toNatClampNeg)) (tX4_write t u hh S (xs (x4 + 1).toNatClampNeg) (xs (x4 + 2).toNatClampNeg)) (pX5_write v (xs (x4 + 1).toNatClampNeg) (xs (x4 + 2).toNatClampNeg)) ["java/lang/IndexOutOfBoundsException", "java/lang/IllegalArgumentException", "java/lang/IllegalStateException"] u hh S) (K : ∀ (ol : Nat → Int64) (v t u hh : Mem) (S : Nat → Mem) (H : Heap) (locs : List Loc) (ls : Array Slot), Sim v t u hh S → HS D A s (LW o d a b h f ca ol v t u hh S) H locs → lv_has ls 9 [(0, .ref b0), (1, .ref (h 2)), (2, .ref (d 0)), (3, .ref o), (4, .int x4)] → W p l e room_1 s m args below meth c H locs (cells + 1) (slots + 6) Q (F0 m 1331 ls [])) : W p l e room_1 s m args below meth c H locs cells slots Q (F0 m 172 ls []) := by
  obtain ⟨hx, hb, hml, hown, hts⟩ := id C0.1
  unfold StepA at ok
  rcases ok with ⟨r, t9, u9, h9, S9, v9, hP, hG, hv0, hs⟩ | ⟨k, E, t9, r, v9, hk, hT, hG, hv0, hs⟩
  · refine lv_aload_n hx hb dL_law_172 rfl (lv_at hl 1 rfl) ?_
    refine lv_aload_n hx hb dL_law_173 rfl (lv_at hl 0 rfl) ?_
    refine lv_iload hx hb dL_law_174 (lv_at hl 4 rfl) ?_
    refine lv_iconst (v := 1) hx hb dL_law_176 (by decide) ?_
    refine lv_iadd hx hb dL_law_177 ?_
    refine va_sld hx hb hX hbl hbA hH.2.2 h1 dL_law_178 ?_
    refine lv_aload_n hx hb dL_law_179 rfl (lv_at hl 0 rfl) ?_
    refine lv_iload hx hb dL_law_180 (lv_at hl 4 rfl) ?_
    refine lv_iconst (v := 2) hx hb dL_law_182 (by decide) ?_
    refine lv_iadd hx hb dL_law_183 ?_
    refine va_sld hx hb hX hbl hbA hH.2.2 h2 dL_law_184 ?_
    refine lv_aload_n hx hb dL_law_185 rfl (lv_at hl 3 rfl) ?_
    have hH := hH.perm LW_h
    refine cl_j C0 hH hl.1 (As := [.ref (h 2), .int (xs (x4 + 1).toNatClampNeg), .int (xs (x4 + 2).toNatClampNeg), .ref o]) (rest := []) (mL_write l hfl D ca o a b h f (mW d ca v ++ []) ol t u hh S (xs (x4 + 1).toNatClampNeg) (xs (x4 + 2).toNatClampNeg) hP) gL_law_L_write rfl rfl rfl hd_L_write ⟨Nat.le_of_ble_eq_true rfl, Nat.le_of_ble_eq_true rfl⟩ hroom rfl (Nat.le_of_ble_eq_true rfl) dL_law_186 (fun H locs hH => ?_)
    have hH := hH.perm LW_h.symm
    refine lv_istore (lv' := [(5, .int 0), (0, .ref b0), (1, .ref (h 2)), (2, .ref (d 0)), (3, .ref o), (4, .int x4)]) hx hb dL_law_189 hl (by decide) rfl (fun ls hl => ?_)
    refine lv_aload_n hx hb dL_law_191 rfl (lv_at hl 3 rfl) ?_
    refine lv_aload_n hx hb dL_law_192 rfl (lv_at hl 1 rfl) ?_
    refine lv_iload hx hb dL_law_193 (lv_at hl 5 rfl) ?_
    refine lv_iconst (v := 1) hx hb dL_law_195 (by decide) ?_
    refine lv_iadd hx hb dL_law_196 ?_
    refine va_sld hx hb hX hbl hbA hH.2.2 h1 dL_law_197 ?_
    refine lv_aload_n hx hb dL_law_198 rfl (lv_at hl 1 rfl) ?_
    refine lv_iload hx hb dL_law_199 (lv_at hl 5 rfl) ?_
    refine lv_iconst (v := 2) hx hb dL_law_201 (by decide) ?_
    refine lv_iadd hx hb dL_law_202 ?_
    refine va_sld hx hb hX hbl hbA hH.2.2 h2 dL_law_203 ?_
    have hH := hH.perm LW_m
    refine cl_iV C0 hH hl.1 (As := [.int (xs (x4 + 1).toNatClampNeg), .int (xs (x4 + 2).toNatClampNeg)]) (rest := []) (mX5_write l D ca d _ v (xs (x4 + 1).toNatClampNeg) (xs (x4 + 2).toNatClampNeg) hG) gL_law_X5_write rfl rfl rfl hd_X5_write ⟨Nat.le_of_ble_eq_true rfl, Nat.le_of_ble_eq_true rfl⟩ ⟨hroom.1, hroom.2⟩ (vM_X5 C0 hH) rfl (Nat.le_of_ble_eq_true rfl) dL_law_204 (fun H locs hH => ?_)
    have hH := hH.perm LW_m.symm
    refine lv_istore (lv' := [(6, .int r), (5, .int 0), (0, .ref b0), (1, .ref (h 2)), (2, .ref (d 0)), (3, .ref o), (4, .int x4)]) hx hb dL_law_207 hl (by decide) rfl (fun ls hl => ?_)
    refine lv_aload_n hx hb dL_law_209 rfl (lv_at hl 4 rfl) ?_
    have hH := hH.perm LW_m
    refine cl_iV C0 hH hl.1 (As := []) (rest := []) (mX5_thrown l D ca d _ v9 rfl) gL_law_X5_thrown rfl rfl rfl hd_X5_thrown ⟨Nat.le_of_ble_eq_true rfl, Nat.le_of_ble_eq_true rfl⟩ ⟨hroom.1, hroom.2⟩ (vM_X5 C0 hH) rfl (Nat.le_of_ble_eq_true rfl) dL_law_210 (fun H locs hH => ?_)
    have hH := hH.perm LW_m.symm
    refine lv_iload hx hb dL_law_213 (lv_at hl 1 rfl) ?_
    refine lv_icmp_eq (tgt := 220) hx hb dL_law_215 (by decide) (fun c9 => ?_) (fun c9 => absurd hv0 c9)
    refine lv_iload hx hb dL_law_220 (lv_at hl 1 rfl) ?_
    refine lv_if_ne (tgt := 237) hx hb dL_law_222 (by decide) (fun c9 => absurd rfl c9) (fun c9 => ?_)
    refine lv_aload_n hx hb dL_law_225 rfl (lv_at hl 5 rfl) ?_
    refine lv_iconst (v := 0) hx hb dL_law_226 (by decide) ?_
    refine lO C0 hH dL_law_227 ?_
    refine lv_iload hx hb dL_law_228 (lv_at hl 0 rfl) ?_
    refine lv_i2l (v := r.toInt64) hx hb dL_law_230 rfl ?_
    refine W.lcmp hx hb dL_law_231 ?_
    refine lv_if_eq (tgt := 237) hx hb dL_law_232 (by decide) (fun c9 => ?_) (fun c9 => absurd (lcmp_same _) c9)
    refine lv_goto (tgt := 1331) hx hb dL_law_237 (by decide) ?_
    exact K _ v9 t9 u9 h9 S9 _ _ _ hs hH (lv_sub hl [2, 3, 4, 5, 6] rfl)
  · rcases k with _ | _ | _ | k
    · obtain rfl := Option.some.inj hk
      rw [nI_k1] at hv0
      refine lv_aload_n hx hb dL_law_172 rfl (lv_at hl 1 rfl) ?_
      refine lv_aload_n hx hb dL_law_173 rfl (lv_at hl 0 rfl) ?_
      refine lv_iload hx hb dL_law_174 (lv_at hl 4 rfl) ?_
      refine lv_iconst (v := 1) hx hb dL_law_176 (by decide) ?_
      refine lv_iadd hx hb dL_law_177 ?_
      refine va_sld hx hb hX hbl hbA hH.2.2 h1 dL_law_178 ?_
      refine lv_aload_n hx hb dL_law_179 rfl (lv_at hl 0 rfl) ?_
      refine lv_iload hx hb dL_law_180 (lv_at hl 4 rfl) ?_
      refine lv_iconst (v := 2) hx hb dL_law_182 (by decide) ?_
      refine lv_iadd hx hb dL_law_183 ?_
      refine va_sld hx hb hX hbl hbA hH.2.2 h2 dL_law_184 ?_
      refine lv_aload_n hx hb dL_law_185 rfl (lv_at hl 3 rfl) ?_
      have hH := hH.perm LW_h
      refine cl_j C0 hH hl.1 (As := [.ref (h 2), .int (xs (x4 + 1).toNatClampNeg), .int (xs (x4 + 2).toNatClampNeg), .ref o]) (rest := []) (eL_write_1 l hfl D ca o a b h f (mW d ca v ++ []) ol t u hh S (xs (x4 + 1).toNatClampNeg) (xs (x4 + 2).toNatClampNeg) hT) gL_law_L_write rfl rfl rfl hd_L_write ⟨Nat.le_of_ble_eq_true rfl, Nat.le_of_ble_eq_true rfl⟩ hroom rfl (Nat.le_of_ble_eq_true rfl) dL_law_186 (fun H locs hH => ?_)
      have hH := hH.perm LW_h.symm
      refine lv_istore (lv' := [(5, .int 1), (0, .ref b0), (1, .ref (h 2)), (2, .ref (d 0)), (3, .ref o), (4, .int x4)]) hx hb dL_law_189 hl (by decide) rfl (fun ls hl => ?_)
      refine lv_aload_n hx hb dL_law_191 rfl (lv_at hl 3 rfl) ?_
      refine lv_aload_n hx hb dL_law_192 rfl (lv_at hl 1 rfl) ?_
      refine lv_iload hx hb dL_law_193 (lv_at hl 5 rfl) ?_
      refine lv_iconst (v := 1) hx hb dL_law_195 (by decide) ?_
      refine lv_iadd hx hb dL_law_196 ?_
      refine va_sld hx hb hX hbl hbA hH.2.2 h1 dL_law_197 ?_
      refine lv_aload_n hx hb dL_law_198 rfl (lv_at hl 1 rfl) ?_
      refine lv_iload hx hb dL_law_199 (lv_at hl 5 rfl) ?_
      refine lv_iconst (v := 2) hx hb dL_law_201 (by decide) ?_
      refine lv_iadd hx hb dL_law_202 ?_
      refine va_sld hx hb hX hbl hbA hH.2.2 h2 dL_law_203 ?_
      have hH := hH.perm LW_m
      refine cl_iV C0 hH hl.1 (As := [.int (xs (x4 + 1).toNatClampNeg), .int (xs (x4 + 2).toNatClampNeg)]) (rest := []) (mX5_write l D ca d _ v (xs (x4 + 1).toNatClampNeg) (xs (x4 + 2).toNatClampNeg) hG) gL_law_X5_write rfl rfl rfl hd_X5_write ⟨Nat.le_of_ble_eq_true rfl, Nat.le_of_ble_eq_true rfl⟩ ⟨hroom.1, hroom.2⟩ (vM_X5 C0 hH) rfl (Nat.le_of_ble_eq_true rfl) dL_law_204 (fun H locs hH => ?_)
      have hH := hH.perm LW_m.symm
      refine lv_istore (lv' := [(6, .int r), (5, .int 1), (0, .ref b0), (1, .ref (h 2)), (2, .ref (d 0)), (3, .ref o), (4, .int x4)]) hx hb dL_law_207 hl (by decide) rfl (fun ls hl => ?_)
      refine lv_aload_n hx hb dL_law_209 rfl (lv_at hl 4 rfl) ?_
      have hH := hH.perm LW_m
      refine cl_iV C0 hH hl.1 (As := []) (rest := []) (mX5_thrown l D ca d _ v9 rfl) gL_law_X5_thrown rfl rfl rfl hd_X5_thrown ⟨Nat.le_of_ble_eq_true rfl, Nat.le_of_ble_eq_true rfl⟩ ⟨hroom.1, hroom.2⟩ (vM_X5 C0 hH) rfl (Nat.le_of_ble_eq_true rfl) dL_law_210 (fun H locs hH => ?_)
      have hH := hH.perm LW_m.symm
      refine lv_iload hx hb dL_law_213 (lv_at hl 1 rfl) ?_
      refine lv_icmp_eq (tgt := 220) hx hb dL_law_215 (by decide) (fun c9 => ?_) (fun c9 => absurd hv0 c9)
      refine lv_iload hx hb dL_law_220 (lv_at hl 1 rfl) ?_
      refine lv_if_ne (tgt := 237) hx hb dL_law_222 (by decide) (fun c9 => ?_) (fun c9 => absurd c9 (by decide))
      refine lv_goto (tgt := 1331) hx hb dL_law_237 (by decide) ?_
      exact K _ v9 t9 u hh S _ _ _ hs hH (lv_sub hl [2, 3, 4, 5, 6] rfl)
    · obtain rfl := Option.some.inj hk
      rw [nI_k2] at hv0
      refine lv_aload_n hx hb dL_law_172 rfl (lv_at hl 1 rfl) ?_
      refine lv_aload_n hx hb dL_law_173 rfl (lv_at hl 0 rfl) ?_
      refine lv_iload hx hb dL_law_174 (lv_at hl 4 rfl) ?_
      refine lv_iconst (v := 1) hx hb dL_law_176 (by decide) ?_
      refine lv_iadd hx hb dL_law_177 ?_
      refine va_sld hx hb hX hbl hbA hH.2.2 h1 dL_law_178 ?_
      refine lv_aload_n hx hb dL_law_179 rfl (lv_at hl 0 rfl) ?_
      refine lv_iload hx hb dL_law_180 (lv_at hl 4 rfl) ?_
      refine lv_iconst (v := 2) hx hb dL_law_182 (by decide) ?_
      refine lv_iadd hx hb dL_law_183 ?_
      refine va_sld hx hb hX hbl hbA hH.2.2 h2 dL_law_184 ?_
      refine lv_aload_n hx hb dL_law_185 rfl (lv_at hl 3 rfl) ?_
      have hH := hH.perm LW_h
      refine cl_j C0 hH hl.1 (As := [.ref (h 2), .int (xs (x4 + 1).toNatClampNeg), .int (xs (x4 + 2).toNatClampNeg), .ref o]) (rest := []) (eL_write_2 l hfl D ca o a b h f (mW d ca v ++ []) ol t u hh S (xs (x4 + 1).toNatClampNeg) (xs (x4 + 2).toNatClampNeg) hT) gL_law_L_write rfl rfl rfl hd_L_write ⟨Nat.le_of_ble_eq_true rfl, Nat.le_of_ble_eq_true rfl⟩ hroom rfl (Nat.le_of_ble_eq_true rfl) dL_law_186 (fun H locs hH => ?_)
      have hH := hH.perm LW_h.symm
      refine lv_istore (lv' := [(5, .int 2), (0, .ref b0), (1, .ref (h 2)), (2, .ref (d 0)), (3, .ref o), (4, .int x4)]) hx hb dL_law_189 hl (by decide) rfl (fun ls hl => ?_)
      refine lv_aload_n hx hb dL_law_191 rfl (lv_at hl 3 rfl) ?_
      refine lv_aload_n hx hb dL_law_192 rfl (lv_at hl 1 rfl) ?_
      refine lv_iload hx hb dL_law_193 (lv_at hl 5 rfl) ?_
      refine lv_iconst (v := 1) hx hb dL_law_195 (by decide) ?_
      refine lv_iadd hx hb dL_law_196 ?_
      refine va_sld hx hb hX hbl hbA hH.2.2 h1 dL_law_197 ?_
      refine lv_aload_n hx hb dL_law_198 rfl (lv_at hl 1 rfl) ?_
      refine lv_iload hx hb dL_law_199 (lv_at hl 5 rfl) ?_
      refine lv_iconst (v := 2) hx hb dL_law_201 (by decide) ?_
      refine lv_iadd hx hb dL_law_202 ?_
      refine va_sld hx hb hX hbl hbA hH.2.2 h2 dL_law_203 ?_
      have hH := hH.perm LW_m
      refine cl_iV C0 hH hl.1 (As := [.int (xs (x4 + 1).toNatClampNeg), .int (xs (x4 + 2).toNatClampNeg)]) (rest := []) (mX5_write l D ca d _ v (xs (x4 + 1).toNatClampNeg) (xs (x4 + 2).toNatClampNeg) hG) gL_law_X5_write rfl rfl rfl hd_X5_write ⟨Nat.le_of_ble_eq_true rfl, Nat.le_of_ble_eq_true rfl⟩ ⟨hroom.1, hroom.2⟩ (vM_X5 C0 hH) rfl (Nat.le_of_ble_eq_true rfl) dL_law_204 (fun H locs hH => ?_)
      have hH := hH.perm LW_m.symm
      refine lv_istore (lv' := [(6, .int r), (5, .int 2), (0, .ref b0), (1, .ref (h 2)), (2, .ref (d 0)), (3, .ref o), (4, .int x4)]) hx hb dL_law_207 hl (by decide) rfl (fun ls hl => ?_)
      refine lv_aload_n hx hb dL_law_209 rfl (lv_at hl 4 rfl) ?_
      have hH := hH.perm LW_m
      refine cl_iV C0 hH hl.1 (As := []) (rest := []) (mX5_thrown l D ca d _ v9 rfl) gL_law_X5_thrown rfl rfl rfl hd_X5_thrown ⟨Nat.le_of_ble_eq_true rfl, Nat.le_of_ble_eq_true rfl⟩ ⟨hroom.1, hroom.2⟩ (vM_X5 C0 hH) rfl (Nat.le_of_ble_eq_true rfl) dL_law_210 (fun H locs hH => ?_)
      have hH := hH.perm LW_m.symm
      refine lv_iload hx hb dL_law_213 (lv_at hl 1 rfl) ?_
      refine lv_icmp_eq (tgt := 220) hx hb dL_law_215 (by decide) (fun c9 => ?_) (fun c9 => absurd hv0 c9)
      refine lv_iload hx hb dL_law_220 (lv_at hl 1 rfl) ?_
      refine lv_if_ne (tgt := 237) hx hb dL_law_222 (by decide) (fun c9 => ?_) (fun c9 => absurd c9 (by decide))
      refine lv_goto (tgt := 1331) hx hb dL_law_237 (by decide) ?_
      exact K _ v9 t9 u hh S _ _ _ hs hH (lv_sub hl [2, 3, 4, 5, 6] rfl)
    · obtain rfl := Option.some.inj hk
      rw [nI_k3] at hv0
      refine lv_aload_n hx hb dL_law_172 rfl (lv_at hl 1 rfl) ?_
      refine lv_aload_n hx hb dL_law_173 rfl (lv_at hl 0 rfl) ?_
      refine lv_iload hx hb dL_law_174 (lv_at hl 4 rfl) ?_
      refine lv_iconst (v := 1) hx hb dL_law_176 (by decide) ?_
      refine lv_iadd hx hb dL_law_177 ?_
      refine va_sld hx hb hX hbl hbA hH.2.2 h1 dL_law_178 ?_
      refine lv_aload_n hx hb dL_law_179 rfl (lv_at hl 0 rfl) ?_
      refine lv_iload hx hb dL_law_180 (lv_at hl 4 rfl) ?_
      refine lv_iconst (v := 2) hx hb dL_law_182 (by decide) ?_
      refine lv_iadd hx hb dL_law_183 ?_
      refine va_sld hx hb hX hbl hbA hH.2.2 h2 dL_law_184 ?_
      refine lv_aload_n hx hb dL_law_185 rfl (lv_at hl 3 rfl) ?_
      have hH := hH.perm LW_h
      refine cl_j C0 hH hl.1 (As := [.ref (h 2), .int (xs (x4 + 1).toNatClampNeg), .int (xs (x4 + 2).toNatClampNeg), .ref o]) (rest := []) (eL_write_3 l hfl D ca o a b h f (mW d ca v ++ []) ol t u hh S (xs (x4 + 1).toNatClampNeg) (xs (x4 + 2).toNatClampNeg) hT) gL_law_L_write rfl rfl rfl hd_L_write ⟨Nat.le_of_ble_eq_true rfl, Nat.le_of_ble_eq_true rfl⟩ hroom rfl (Nat.le_of_ble_eq_true rfl) dL_law_186 (fun H locs hH => ?_)
      have hH := hH.perm LW_h.symm
      refine lv_istore (lv' := [(5, .int 3), (0, .ref b0), (1, .ref (h 2)), (2, .ref (d 0)), (3, .ref o), (4, .int x4)]) hx hb dL_law_189 hl (by decide) rfl (fun ls hl => ?_)
      refine lv_aload_n hx hb dL_law_191 rfl (lv_at hl 3 rfl) ?_
      refine lv_aload_n hx hb dL_law_192 rfl (lv_at hl 1 rfl) ?_
      refine lv_iload hx hb dL_law_193 (lv_at hl 5 rfl) ?_
      refine lv_iconst (v := 1) hx hb dL_law_195 (by decide) ?_
      refine lv_iadd hx hb dL_law_196 ?_
      refine va_sld hx hb hX hbl hbA hH.2.2 h1 dL_law_197 ?_
      refine lv_aload_n hx hb dL_law_198 rfl (lv_at hl 1 rfl) ?_
      refine lv_iload hx hb dL_law_199 (lv_at hl 5 rfl) ?_
      refine lv_iconst (v := 2) hx hb dL_law_201 (by decide) ?_
      refine lv_iadd hx hb dL_law_202 ?_
      refine va_sld hx hb hX hbl hbA hH.2.2 h2 dL_law_203 ?_
      have hH := hH.perm LW_m
      refine cl_iV C0 hH hl.1 (As := [.int (xs (x4 + 1).toNatClampNeg), .int (xs (x4 + 2).toNatClampNeg)]) (rest := []) (mX5_write l D ca d _ v (xs (x4 + 1).toNatClampNeg) (xs (x4 + 2).toNatClampNeg) hG) gL_law_X5_write rfl rfl rfl hd_X5_write ⟨Nat.le_of_ble_eq_true rfl, Nat.le_of_ble_eq_true rfl⟩ ⟨hroom.1, hroom.2⟩ (vM_X5 C0 hH) rfl (Nat.le_of_ble_eq_true rfl) dL_law_204 (fun H locs hH => ?_)
      have hH := hH.perm LW_m.symm
      refine lv_istore (lv' := [(6, .int r), (5, .int 3), (0, .ref b0), (1, .ref (h 2)), (2, .ref (d 0)), (3, .ref o), (4, .int x4)]) hx hb dL_law_207 hl (by decide) rfl (fun ls hl => ?_)
      refine lv_aload_n hx hb dL_law_209 rfl (lv_at hl 4 rfl) ?_
      have hH := hH.perm LW_m
      refine cl_iV C0 hH hl.1 (As := []) (rest := []) (mX5_thrown l D ca d _ v9 rfl) gL_law_X5_thrown rfl rfl rfl hd_X5_thrown ⟨Nat.le_of_ble_eq_true rfl, Nat.le_of_ble_eq_true rfl⟩ ⟨hroom.1, hroom.2⟩ (vM_X5 C0 hH) rfl (Nat.le_of_ble_eq_true rfl) dL_law_210 (fun H locs hH => ?_)
      have hH := hH.perm LW_m.symm
      refine lv_iload hx hb dL_law_213 (lv_at hl 1 rfl) ?_
      refine lv_icmp_eq (tgt := 220) hx hb dL_law_215 (by decide) (fun c9 => ?_) (fun c9 => absurd hv0 c9)
      refine lv_iload hx hb dL_law_220 (lv_at hl 1 rfl) ?_
      refine lv_if_ne (tgt := 237) hx hb dL_law_222 (by decide) (fun c9 => ?_) (fun c9 => absurd c9 (by decide))
      refine lv_goto (tgt := 1331) hx hb dL_law_237 (by decide) ?_
      exact K _ v9 t9 u hh S _ _ _ hs hH (lv_sub hl [2, 3, 4, 5, 6] rfl)
    · simp at hk
set_option maxHeartbeats 4000000 in
set_option maxRecDepth 100000 in
theorem law_1 {p : Program} {l : Launch} {e : Env} {s : State} {m : MethodId} {args : Array Value} {below : List Frame} {meth : Method} {c : Code} {H : Heap} {locs : List Loc} {cells slots : Nat} {Q : State → Prop} {ls : Array Slot} {D : va_G} {ca : Gp} {A : Nat → Prop} {b0 L o : Nat} {xs : Nat → Int32} {d a b h : Nat → Nat} {f : Nat → Nat → Nat} {ol : Nat → Int64} {v t u hh : Mem} {S : Nat → Mem} {x4 : Int32} {Sim : Mem → Mem → Mem → Mem → (Nat → Mem) → Prop} (C0 : Cx p s m args c cL_law 9 wsL_law RL D ca A) (hfl : l.stackTraces = false) (hX : va_X b0 L xs s s.heap) (hbl : b0 < s.heap.size) (hbA : ¬ A b0) (hH : HS D A s (LW o d a b h f ca ol v t u hh S) H locs) (hl : lv_has ls 9 [(0, .ref b0), (1, .ref (h 2)), (2, .ref (d 0)), (3, .ref o), (4, .int x4)]) (h1 : vp_in (x4 + 1) L) (h2 : vp_in (x4 + 2) L) (h3 : vp_in (x4 + 3) L) (hroom : cells + 1 ≤ room_1.cells ∧ slots + 6 ≤ room_1.slots) (ok : StepA Sim (pX4_read t u hh S (xs (x4 + 1).toNatClampNeg)) (tX4_read t u hh S (xs (x4 + 1).toNatClampNeg)) (pX5_read v (xs (x4 + 1).toNatClampNeg)) ["java/lang/IndexOutOfBoundsException", "java/lang/IllegalStateException"] u hh S) (K : ∀ (ol : Nat → Int64) (v t u hh : Mem) (S : Nat → Mem) (H : Heap) (locs : List Loc) (ls : Array Slot), Sim v t u hh S → HS D A s (LW o d a b h f ca ol v t u hh S) H locs → lv_has ls 9 [(0, .ref b0), (1, .ref (h 2)), (2, .ref (d 0)), (3, .ref o), (4, .int x4)] → W p l e room_1 s m args below meth c H locs (cells + 1) (slots + 6) Q (F0 m 1331 ls [])) : W p l e room_1 s m args below meth c H locs cells slots Q (F0 m 240 ls []) := by
  obtain ⟨hx, hb, hml, hown, hts⟩ := id C0.1
  unfold StepA at ok
  rcases ok with ⟨r, t9, u9, h9, S9, v9, hP, hG, hv0, hs⟩ | ⟨k, E, t9, r, v9, hk, hT, hG, hv0, hs⟩
  · refine lv_aload_n hx hb dL_law_240 rfl (lv_at hl 1 rfl) ?_
    refine lv_aload_n hx hb dL_law_241 rfl (lv_at hl 0 rfl) ?_
    refine lv_iload hx hb dL_law_242 (lv_at hl 4 rfl) ?_
    refine lv_iconst (v := 1) hx hb dL_law_244 (by decide) ?_
    refine lv_iadd hx hb dL_law_245 ?_
    refine va_sld hx hb hX hbl hbA hH.2.2 h1 dL_law_246 ?_
    refine lv_aload_n hx hb dL_law_247 rfl (lv_at hl 3 rfl) ?_
    have hH := hH.perm LW_h
    refine cl_j C0 hH hl.1 (As := [.ref (h 2), .int (xs (x4 + 1).toNatClampNeg), .ref o]) (rest := []) (mL_read l hfl D ca o a b h f (mW d ca v ++ []) ol t u hh S (xs (x4 + 1).toNatClampNeg) hP) gL_law_L_read rfl rfl rfl hd_L_read ⟨Nat.le_of_ble_eq_true rfl, Nat.le_of_ble_eq_true rfl⟩ hroom rfl (Nat.le_of_ble_eq_true rfl) dL_law_248 (fun H locs hH => ?_)
    have hH := hH.perm LW_h.symm
    refine lv_istore (lv' := [(5, .int 0), (0, .ref b0), (1, .ref (h 2)), (2, .ref (d 0)), (3, .ref o), (4, .int x4)]) hx hb dL_law_251 hl (by decide) rfl (fun ls hl => ?_)
    refine lv_aload_n hx hb dL_law_253 rfl (lv_at hl 3 rfl) ?_
    refine lv_aload_n hx hb dL_law_254 rfl (lv_at hl 1 rfl) ?_
    refine lv_iload hx hb dL_law_255 (lv_at hl 5 rfl) ?_
    refine lv_iconst (v := 1) hx hb dL_law_257 (by decide) ?_
    refine lv_iadd hx hb dL_law_258 ?_
    refine va_sld hx hb hX hbl hbA hH.2.2 h1 dL_law_259 ?_
    have hH := hH.perm LW_m
    refine cl_iV C0 hH hl.1 (As := [.int (xs (x4 + 1).toNatClampNeg)]) (rest := []) (mX5_read l D ca d _ v (xs (x4 + 1).toNatClampNeg) hG) gL_law_X5_read rfl rfl rfl hd_X5_read ⟨Nat.le_of_ble_eq_true rfl, Nat.le_of_ble_eq_true rfl⟩ ⟨hroom.1, hroom.2⟩ (vM_X5 C0 hH) rfl (Nat.le_of_ble_eq_true rfl) dL_law_260 (fun H locs hH => ?_)
    have hH := hH.perm LW_m.symm
    refine lv_istore (lv' := [(6, .int r), (5, .int 0), (0, .ref b0), (1, .ref (h 2)), (2, .ref (d 0)), (3, .ref o), (4, .int x4)]) hx hb dL_law_263 hl (by decide) rfl (fun ls hl => ?_)
    refine lv_aload_n hx hb dL_law_265 rfl (lv_at hl 4 rfl) ?_
    have hH := hH.perm LW_m
    refine cl_iV C0 hH hl.1 (As := []) (rest := []) (mX5_thrown l D ca d _ v9 rfl) gL_law_X5_thrown rfl rfl rfl hd_X5_thrown ⟨Nat.le_of_ble_eq_true rfl, Nat.le_of_ble_eq_true rfl⟩ ⟨hroom.1, hroom.2⟩ (vM_X5 C0 hH) rfl (Nat.le_of_ble_eq_true rfl) dL_law_266 (fun H locs hH => ?_)
    have hH := hH.perm LW_m.symm
    refine lv_iload hx hb dL_law_269 (lv_at hl 1 rfl) ?_
    refine lv_icmp_eq (tgt := 276) hx hb dL_law_271 (by decide) (fun c9 => ?_) (fun c9 => absurd hv0 c9)
    refine lv_iload hx hb dL_law_276 (lv_at hl 1 rfl) ?_
    refine lv_if_ne (tgt := 293) hx hb dL_law_278 (by decide) (fun c9 => absurd rfl c9) (fun c9 => ?_)
    refine lv_aload_n hx hb dL_law_281 rfl (lv_at hl 5 rfl) ?_
    refine lv_iconst (v := 0) hx hb dL_law_282 (by decide) ?_
    refine lO C0 hH dL_law_283 ?_
    refine lv_iload hx hb dL_law_284 (lv_at hl 0 rfl) ?_
    refine lv_i2l (v := r.toInt64) hx hb dL_law_286 rfl ?_
    refine W.lcmp hx hb dL_law_287 ?_
    refine lv_if_eq (tgt := 293) hx hb dL_law_288 (by decide) (fun c9 => ?_) (fun c9 => absurd (lcmp_same _) c9)
    refine lv_goto (tgt := 1331) hx hb dL_law_293 (by decide) ?_
    exact K _ v9 t9 u9 h9 S9 _ _ _ hs hH (lv_sub hl [2, 3, 4, 5, 6] rfl)
  · rcases k with _ | _ | k
    · obtain rfl := Option.some.inj hk
      rw [nI_k1] at hv0
      refine lv_aload_n hx hb dL_law_240 rfl (lv_at hl 1 rfl) ?_
      refine lv_aload_n hx hb dL_law_241 rfl (lv_at hl 0 rfl) ?_
      refine lv_iload hx hb dL_law_242 (lv_at hl 4 rfl) ?_
      refine lv_iconst (v := 1) hx hb dL_law_244 (by decide) ?_
      refine lv_iadd hx hb dL_law_245 ?_
      refine va_sld hx hb hX hbl hbA hH.2.2 h1 dL_law_246 ?_
      refine lv_aload_n hx hb dL_law_247 rfl (lv_at hl 3 rfl) ?_
      have hH := hH.perm LW_h
      refine cl_j C0 hH hl.1 (As := [.ref (h 2), .int (xs (x4 + 1).toNatClampNeg), .ref o]) (rest := []) (eL_read_1 l hfl D ca o a b h f (mW d ca v ++ []) ol t u hh S (xs (x4 + 1).toNatClampNeg) hT) gL_law_L_read rfl rfl rfl hd_L_read ⟨Nat.le_of_ble_eq_true rfl, Nat.le_of_ble_eq_true rfl⟩ hroom rfl (Nat.le_of_ble_eq_true rfl) dL_law_248 (fun H locs hH => ?_)
      have hH := hH.perm LW_h.symm
      refine lv_istore (lv' := [(5, .int 1), (0, .ref b0), (1, .ref (h 2)), (2, .ref (d 0)), (3, .ref o), (4, .int x4)]) hx hb dL_law_251 hl (by decide) rfl (fun ls hl => ?_)
      refine lv_aload_n hx hb dL_law_253 rfl (lv_at hl 3 rfl) ?_
      refine lv_aload_n hx hb dL_law_254 rfl (lv_at hl 1 rfl) ?_
      refine lv_iload hx hb dL_law_255 (lv_at hl 5 rfl) ?_
      refine lv_iconst (v := 1) hx hb dL_law_257 (by decide) ?_
      refine lv_iadd hx hb dL_law_258 ?_
      refine va_sld hx hb hX hbl hbA hH.2.2 h1 dL_law_259 ?_
      have hH := hH.perm LW_m
      refine cl_iV C0 hH hl.1 (As := [.int (xs (x4 + 1).toNatClampNeg)]) (rest := []) (mX5_read l D ca d _ v (xs (x4 + 1).toNatClampNeg) hG) gL_law_X5_read rfl rfl rfl hd_X5_read ⟨Nat.le_of_ble_eq_true rfl, Nat.le_of_ble_eq_true rfl⟩ ⟨hroom.1, hroom.2⟩ (vM_X5 C0 hH) rfl (Nat.le_of_ble_eq_true rfl) dL_law_260 (fun H locs hH => ?_)
      have hH := hH.perm LW_m.symm
      refine lv_istore (lv' := [(6, .int r), (5, .int 1), (0, .ref b0), (1, .ref (h 2)), (2, .ref (d 0)), (3, .ref o), (4, .int x4)]) hx hb dL_law_263 hl (by decide) rfl (fun ls hl => ?_)
      refine lv_aload_n hx hb dL_law_265 rfl (lv_at hl 4 rfl) ?_
      have hH := hH.perm LW_m
      refine cl_iV C0 hH hl.1 (As := []) (rest := []) (mX5_thrown l D ca d _ v9 rfl) gL_law_X5_thrown rfl rfl rfl hd_X5_thrown ⟨Nat.le_of_ble_eq_true rfl, Nat.le_of_ble_eq_true rfl⟩ ⟨hroom.1, hroom.2⟩ (vM_X5 C0 hH) rfl (Nat.le_of_ble_eq_true rfl) dL_law_266 (fun H locs hH => ?_)
      have hH := hH.perm LW_m.symm
      refine lv_iload hx hb dL_law_269 (lv_at hl 1 rfl) ?_
      refine lv_icmp_eq (tgt := 276) hx hb dL_law_271 (by decide) (fun c9 => ?_) (fun c9 => absurd hv0 c9)
      refine lv_iload hx hb dL_law_276 (lv_at hl 1 rfl) ?_
      refine lv_if_ne (tgt := 293) hx hb dL_law_278 (by decide) (fun c9 => ?_) (fun c9 => absurd c9 (by decide))
      refine lv_goto (tgt := 1331) hx hb dL_law_293 (by decide) ?_
      exact K _ v9 t9 u hh S _ _ _ hs hH (lv_sub hl [2, 3, 4, 5, 6] rfl)
    · obtain rfl := Option.some.inj hk
      rw [nI_k2] at hv0
      refine lv_aload_n hx hb dL_law_240 rfl (lv_at hl 1 rfl) ?_
      refine lv_aload_n hx hb dL_law_241 rfl (lv_at hl 0 rfl) ?_
      refine lv_iload hx hb dL_law_242 (lv_at hl 4 rfl) ?_
      refine lv_iconst (v := 1) hx hb dL_law_244 (by decide) ?_
      refine lv_iadd hx hb dL_law_245 ?_
      refine va_sld hx hb hX hbl hbA hH.2.2 h1 dL_law_246 ?_
      refine lv_aload_n hx hb dL_law_247 rfl (lv_at hl 3 rfl) ?_
      have hH := hH.perm LW_h
      refine cl_j C0 hH hl.1 (As := [.ref (h 2), .int (xs (x4 + 1).toNatClampNeg), .ref o]) (rest := []) (eL_read_2 l hfl D ca o a b h f (mW d ca v ++ []) ol t u hh S (xs (x4 + 1).toNatClampNeg) hT) gL_law_L_read rfl rfl rfl hd_L_read ⟨Nat.le_of_ble_eq_true rfl, Nat.le_of_ble_eq_true rfl⟩ hroom rfl (Nat.le_of_ble_eq_true rfl) dL_law_248 (fun H locs hH => ?_)
      have hH := hH.perm LW_h.symm
      refine lv_istore (lv' := [(5, .int 2), (0, .ref b0), (1, .ref (h 2)), (2, .ref (d 0)), (3, .ref o), (4, .int x4)]) hx hb dL_law_251 hl (by decide) rfl (fun ls hl => ?_)
      refine lv_aload_n hx hb dL_law_253 rfl (lv_at hl 3 rfl) ?_
      refine lv_aload_n hx hb dL_law_254 rfl (lv_at hl 1 rfl) ?_
      refine lv_iload hx hb dL_law_255 (lv_at hl 5 rfl) ?_
      refine lv_iconst (v := 1) hx hb dL_law_257 (by decide) ?_
      refine lv_iadd hx hb dL_law_258 ?_
      refine va_sld hx hb hX hbl hbA hH.2.2 h1 dL_law_259 ?_
      have hH := hH.perm LW_m
      refine cl_iV C0 hH hl.1 (As := [.int (xs (x4 + 1).toNatClampNeg)]) (rest := []) (mX5_read l D ca d _ v (xs (x4 + 1).toNatClampNeg) hG) gL_law_X5_read rfl rfl rfl hd_X5_read ⟨Nat.le_of_ble_eq_true rfl, Nat.le_of_ble_eq_true rfl⟩ ⟨hroom.1, hroom.2⟩ (vM_X5 C0 hH) rfl (Nat.le_of_ble_eq_true rfl) dL_law_260 (fun H locs hH => ?_)
      have hH := hH.perm LW_m.symm
      refine lv_istore (lv' := [(6, .int r), (5, .int 2), (0, .ref b0), (1, .ref (h 2)), (2, .ref (d 0)), (3, .ref o), (4, .int x4)]) hx hb dL_law_263 hl (by decide) rfl (fun ls hl => ?_)
      refine lv_aload_n hx hb dL_law_265 rfl (lv_at hl 4 rfl) ?_
      have hH := hH.perm LW_m
      refine cl_iV C0 hH hl.1 (As := []) (rest := []) (mX5_thrown l D ca d _ v9 rfl) gL_law_X5_thrown rfl rfl rfl hd_X5_thrown ⟨Nat.le_of_ble_eq_true rfl, Nat.le_of_ble_eq_true rfl⟩ ⟨hroom.1, hroom.2⟩ (vM_X5 C0 hH) rfl (Nat.le_of_ble_eq_true rfl) dL_law_266 (fun H locs hH => ?_)
      have hH := hH.perm LW_m.symm
      refine lv_iload hx hb dL_law_269 (lv_at hl 1 rfl) ?_
      refine lv_icmp_eq (tgt := 276) hx hb dL_law_271 (by decide) (fun c9 => ?_) (fun c9 => absurd hv0 c9)
      refine lv_iload hx hb dL_law_276 (lv_at hl 1 rfl) ?_
      refine lv_if_ne (tgt := 293) hx hb dL_law_278 (by decide) (fun c9 => ?_) (fun c9 => absurd c9 (by decide))
      refine lv_goto (tgt := 1331) hx hb dL_law_293 (by decide) ?_
      exact K _ v9 t9 u hh S _ _ _ hs hH (lv_sub hl [2, 3, 4, 5, 6] rfl)
    · simp at hk
set_option maxHeartbeats 4000000 in
set_option maxRecDepth 100000 in
theorem law_2 {p : Program} {l : Launch} {e : Env} {s : State} {m : MethodId} {args : Array Value} {below : List Frame} {meth : Method} {c : Code} {H : Heap} {locs : List Loc} {cells slots : Nat} {Q : State → Prop} {ls : Array Slot} {D : va_G} {ca : Gp} {A : Nat → Prop} {b0 L o : Nat} {xs : Nat → Int32} {d a b h : Nat → Nat} {f : Nat → Nat → Nat} {ol : Nat → Int64} {v t u hh : Mem} {S : Nat → Mem} {x4 : Int32} {Sim : Mem → Mem → Mem → Mem → (Nat → Mem) → Prop} (C0 : Cx p s m args c cL_law 9 wsL_law RL D ca A) (hfl : l.stackTraces = false) (hX : va_X b0 L xs s s.heap) (hbl : b0 < s.heap.size) (hbA : ¬ A b0) (hH : HS D A s (LW o d a b h f ca ol v t u hh S) H locs) (hl : lv_has ls 9 [(0, .ref b0), (1, .ref (h 2)), (2, .ref (d 0)), (3, .ref o), (4, .int x4)]) (h1 : vp_in (x4 + 1) L) (h2 : vp_in (x4 + 2) L) (h3 : vp_in (x4 + 3) L) (hroom : cells + 1 ≤ room_1.cells ∧ slots + 6 ≤ room_1.slots) (ok : StepA Sim (pX4_destage t u hh S (xs (x4 + 1).toNatClampNeg)) (tX4_destage t u hh S (xs (x4 + 1).toNatClampNeg)) (pX5_destage v (xs (x4 + 1).toNatClampNeg)) ["java/lang/IndexOutOfBoundsException", "java/lang/IllegalStateException"] u hh S) (K : ∀ (ol : Nat → Int64) (v t u hh : Mem) (S : Nat → Mem) (H : Heap) (locs : List Loc) (ls : Array Slot), Sim v t u hh S → HS D A s (LW o d a b h f ca ol v t u hh S) H locs → lv_has ls 9 [(0, .ref b0), (1, .ref (h 2)), (2, .ref (d 0)), (3, .ref o), (4, .int x4)] → W p l e room_1 s m args below meth c H locs (cells + 1) (slots + 6) Q (F0 m 1331 ls [])) : W p l e room_1 s m args below meth c H locs cells slots Q (F0 m 296 ls []) := by
  obtain ⟨hx, hb, hml, hown, hts⟩ := id C0.1
  unfold StepA at ok
  rcases ok with ⟨r, t9, u9, h9, S9, v9, hP, hG, hv0, hs⟩ | ⟨k, E, t9, r, v9, hk, hT, hG, hv0, hs⟩
  · refine lv_aload_n hx hb dL_law_296 rfl (lv_at hl 1 rfl) ?_
    refine lv_aload_n hx hb dL_law_297 rfl (lv_at hl 0 rfl) ?_
    refine lv_iload hx hb dL_law_298 (lv_at hl 4 rfl) ?_
    refine lv_iconst (v := 1) hx hb dL_law_300 (by decide) ?_
    refine lv_iadd hx hb dL_law_301 ?_
    refine va_sld hx hb hX hbl hbA hH.2.2 h1 dL_law_302 ?_
    refine lv_aload_n hx hb dL_law_303 rfl (lv_at hl 3 rfl) ?_
    have hH := hH.perm LW_h
    refine cl_j C0 hH hl.1 (As := [.ref (h 2), .int (xs (x4 + 1).toNatClampNeg), .ref o]) (rest := []) (mL_destage l hfl D ca o a b h f (mW d ca v ++ []) ol t u hh S (xs (x4 + 1).toNatClampNeg) hP) gL_law_L_destage rfl rfl rfl hd_L_destage ⟨Nat.le_of_ble_eq_true rfl, Nat.le_of_ble_eq_true rfl⟩ hroom rfl (Nat.le_of_ble_eq_true rfl) dL_law_304 (fun H locs hH => ?_)
    have hH := hH.perm LW_h.symm
    refine lv_istore (lv' := [(5, .int 0), (0, .ref b0), (1, .ref (h 2)), (2, .ref (d 0)), (3, .ref o), (4, .int x4)]) hx hb dL_law_307 hl (by decide) rfl (fun ls hl => ?_)
    refine lv_aload_n hx hb dL_law_309 rfl (lv_at hl 3 rfl) ?_
    refine lv_aload_n hx hb dL_law_310 rfl (lv_at hl 1 rfl) ?_
    refine lv_iload hx hb dL_law_311 (lv_at hl 5 rfl) ?_
    refine lv_iconst (v := 1) hx hb dL_law_313 (by decide) ?_
    refine lv_iadd hx hb dL_law_314 ?_
    refine va_sld hx hb hX hbl hbA hH.2.2 h1 dL_law_315 ?_
    have hH := hH.perm LW_m
    refine cl_iV C0 hH hl.1 (As := [.int (xs (x4 + 1).toNatClampNeg)]) (rest := []) (mX5_destage l D ca d _ v (xs (x4 + 1).toNatClampNeg) hG) gL_law_X5_destage rfl rfl rfl hd_X5_destage ⟨Nat.le_of_ble_eq_true rfl, Nat.le_of_ble_eq_true rfl⟩ ⟨hroom.1, hroom.2⟩ (vM_X5 C0 hH) rfl (Nat.le_of_ble_eq_true rfl) dL_law_316 (fun H locs hH => ?_)
    have hH := hH.perm LW_m.symm
    refine lv_istore (lv' := [(6, .int r), (5, .int 0), (0, .ref b0), (1, .ref (h 2)), (2, .ref (d 0)), (3, .ref o), (4, .int x4)]) hx hb dL_law_319 hl (by decide) rfl (fun ls hl => ?_)
    refine lv_aload_n hx hb dL_law_321 rfl (lv_at hl 4 rfl) ?_
    have hH := hH.perm LW_m
    refine cl_iV C0 hH hl.1 (As := []) (rest := []) (mX5_thrown l D ca d _ v9 rfl) gL_law_X5_thrown rfl rfl rfl hd_X5_thrown ⟨Nat.le_of_ble_eq_true rfl, Nat.le_of_ble_eq_true rfl⟩ ⟨hroom.1, hroom.2⟩ (vM_X5 C0 hH) rfl (Nat.le_of_ble_eq_true rfl) dL_law_322 (fun H locs hH => ?_)
    have hH := hH.perm LW_m.symm
    refine lv_iload hx hb dL_law_325 (lv_at hl 1 rfl) ?_
    refine lv_icmp_eq (tgt := 332) hx hb dL_law_327 (by decide) (fun c9 => ?_) (fun c9 => absurd hv0 c9)
    refine lv_iload hx hb dL_law_332 (lv_at hl 1 rfl) ?_
    refine lv_if_ne (tgt := 349) hx hb dL_law_334 (by decide) (fun c9 => absurd rfl c9) (fun c9 => ?_)
    refine lv_aload_n hx hb dL_law_337 rfl (lv_at hl 5 rfl) ?_
    refine lv_iconst (v := 0) hx hb dL_law_338 (by decide) ?_
    refine lO C0 hH dL_law_339 ?_
    refine lv_iload hx hb dL_law_340 (lv_at hl 0 rfl) ?_
    refine lv_i2l (v := r.toInt64) hx hb dL_law_342 rfl ?_
    refine W.lcmp hx hb dL_law_343 ?_
    refine lv_if_eq (tgt := 349) hx hb dL_law_344 (by decide) (fun c9 => ?_) (fun c9 => absurd (lcmp_same _) c9)
    refine lv_goto (tgt := 1331) hx hb dL_law_349 (by decide) ?_
    exact K _ v9 t9 u9 h9 S9 _ _ _ hs hH (lv_sub hl [2, 3, 4, 5, 6] rfl)
  · rcases k with _ | _ | k
    · obtain rfl := Option.some.inj hk
      rw [nI_k1] at hv0
      refine lv_aload_n hx hb dL_law_296 rfl (lv_at hl 1 rfl) ?_
      refine lv_aload_n hx hb dL_law_297 rfl (lv_at hl 0 rfl) ?_
      refine lv_iload hx hb dL_law_298 (lv_at hl 4 rfl) ?_
      refine lv_iconst (v := 1) hx hb dL_law_300 (by decide) ?_
      refine lv_iadd hx hb dL_law_301 ?_
      refine va_sld hx hb hX hbl hbA hH.2.2 h1 dL_law_302 ?_
      refine lv_aload_n hx hb dL_law_303 rfl (lv_at hl 3 rfl) ?_
      have hH := hH.perm LW_h
      refine cl_j C0 hH hl.1 (As := [.ref (h 2), .int (xs (x4 + 1).toNatClampNeg), .ref o]) (rest := []) (eL_destage_1 l hfl D ca o a b h f (mW d ca v ++ []) ol t u hh S (xs (x4 + 1).toNatClampNeg) hT) gL_law_L_destage rfl rfl rfl hd_L_destage ⟨Nat.le_of_ble_eq_true rfl, Nat.le_of_ble_eq_true rfl⟩ hroom rfl (Nat.le_of_ble_eq_true rfl) dL_law_304 (fun H locs hH => ?_)
      have hH := hH.perm LW_h.symm
      refine lv_istore (lv' := [(5, .int 1), (0, .ref b0), (1, .ref (h 2)), (2, .ref (d 0)), (3, .ref o), (4, .int x4)]) hx hb dL_law_307 hl (by decide) rfl (fun ls hl => ?_)
      refine lv_aload_n hx hb dL_law_309 rfl (lv_at hl 3 rfl) ?_
      refine lv_aload_n hx hb dL_law_310 rfl (lv_at hl 1 rfl) ?_
      refine lv_iload hx hb dL_law_311 (lv_at hl 5 rfl) ?_
      refine lv_iconst (v := 1) hx hb dL_law_313 (by decide) ?_
      refine lv_iadd hx hb dL_law_314 ?_
      refine va_sld hx hb hX hbl hbA hH.2.2 h1 dL_law_315 ?_
      have hH := hH.perm LW_m
      refine cl_iV C0 hH hl.1 (As := [.int (xs (x4 + 1).toNatClampNeg)]) (rest := []) (mX5_destage l D ca d _ v (xs (x4 + 1).toNatClampNeg) hG) gL_law_X5_destage rfl rfl rfl hd_X5_destage ⟨Nat.le_of_ble_eq_true rfl, Nat.le_of_ble_eq_true rfl⟩ ⟨hroom.1, hroom.2⟩ (vM_X5 C0 hH) rfl (Nat.le_of_ble_eq_true rfl) dL_law_316 (fun H locs hH => ?_)
      have hH := hH.perm LW_m.symm
      refine lv_istore (lv' := [(6, .int r), (5, .int 1), (0, .ref b0), (1, .ref (h 2)), (2, .ref (d 0)), (3, .ref o), (4, .int x4)]) hx hb dL_law_319 hl (by decide) rfl (fun ls hl => ?_)
      refine lv_aload_n hx hb dL_law_321 rfl (lv_at hl 4 rfl) ?_
      have hH := hH.perm LW_m
      refine cl_iV C0 hH hl.1 (As := []) (rest := []) (mX5_thrown l D ca d _ v9 rfl) gL_law_X5_thrown rfl rfl rfl hd_X5_thrown ⟨Nat.le_of_ble_eq_true rfl, Nat.le_of_ble_eq_true rfl⟩ ⟨hroom.1, hroom.2⟩ (vM_X5 C0 hH) rfl (Nat.le_of_ble_eq_true rfl) dL_law_322 (fun H locs hH => ?_)
      have hH := hH.perm LW_m.symm
      refine lv_iload hx hb dL_law_325 (lv_at hl 1 rfl) ?_
      refine lv_icmp_eq (tgt := 332) hx hb dL_law_327 (by decide) (fun c9 => ?_) (fun c9 => absurd hv0 c9)
      refine lv_iload hx hb dL_law_332 (lv_at hl 1 rfl) ?_
      refine lv_if_ne (tgt := 349) hx hb dL_law_334 (by decide) (fun c9 => ?_) (fun c9 => absurd c9 (by decide))
      refine lv_goto (tgt := 1331) hx hb dL_law_349 (by decide) ?_
      exact K _ v9 t9 u hh S _ _ _ hs hH (lv_sub hl [2, 3, 4, 5, 6] rfl)
    · obtain rfl := Option.some.inj hk
      rw [nI_k2] at hv0
      refine lv_aload_n hx hb dL_law_296 rfl (lv_at hl 1 rfl) ?_
      refine lv_aload_n hx hb dL_law_297 rfl (lv_at hl 0 rfl) ?_
      refine lv_iload hx hb dL_law_298 (lv_at hl 4 rfl) ?_
      refine lv_iconst (v := 1) hx hb dL_law_300 (by decide) ?_
      refine lv_iadd hx hb dL_law_301 ?_
      refine va_sld hx hb hX hbl hbA hH.2.2 h1 dL_law_302 ?_
      refine lv_aload_n hx hb dL_law_303 rfl (lv_at hl 3 rfl) ?_
      have hH := hH.perm LW_h
      refine cl_j C0 hH hl.1 (As := [.ref (h 2), .int (xs (x4 + 1).toNatClampNeg), .ref o]) (rest := []) (eL_destage_2 l hfl D ca o a b h f (mW d ca v ++ []) ol t u hh S (xs (x4 + 1).toNatClampNeg) hT) gL_law_L_destage rfl rfl rfl hd_L_destage ⟨Nat.le_of_ble_eq_true rfl, Nat.le_of_ble_eq_true rfl⟩ hroom rfl (Nat.le_of_ble_eq_true rfl) dL_law_304 (fun H locs hH => ?_)
      have hH := hH.perm LW_h.symm
      refine lv_istore (lv' := [(5, .int 2), (0, .ref b0), (1, .ref (h 2)), (2, .ref (d 0)), (3, .ref o), (4, .int x4)]) hx hb dL_law_307 hl (by decide) rfl (fun ls hl => ?_)
      refine lv_aload_n hx hb dL_law_309 rfl (lv_at hl 3 rfl) ?_
      refine lv_aload_n hx hb dL_law_310 rfl (lv_at hl 1 rfl) ?_
      refine lv_iload hx hb dL_law_311 (lv_at hl 5 rfl) ?_
      refine lv_iconst (v := 1) hx hb dL_law_313 (by decide) ?_
      refine lv_iadd hx hb dL_law_314 ?_
      refine va_sld hx hb hX hbl hbA hH.2.2 h1 dL_law_315 ?_
      have hH := hH.perm LW_m
      refine cl_iV C0 hH hl.1 (As := [.int (xs (x4 + 1).toNatClampNeg)]) (rest := []) (mX5_destage l D ca d _ v (xs (x4 + 1).toNatClampNeg) hG) gL_law_X5_destage rfl rfl rfl hd_X5_destage ⟨Nat.le_of_ble_eq_true rfl, Nat.le_of_ble_eq_true rfl⟩ ⟨hroom.1, hroom.2⟩ (vM_X5 C0 hH) rfl (Nat.le_of_ble_eq_true rfl) dL_law_316 (fun H locs hH => ?_)
      have hH := hH.perm LW_m.symm
      refine lv_istore (lv' := [(6, .int r), (5, .int 2), (0, .ref b0), (1, .ref (h 2)), (2, .ref (d 0)), (3, .ref o), (4, .int x4)]) hx hb dL_law_319 hl (by decide) rfl (fun ls hl => ?_)
      refine lv_aload_n hx hb dL_law_321 rfl (lv_at hl 4 rfl) ?_
      have hH := hH.perm LW_m
      refine cl_iV C0 hH hl.1 (As := []) (rest := []) (mX5_thrown l D ca d _ v9 rfl) gL_law_X5_thrown rfl rfl rfl hd_X5_thrown ⟨Nat.le_of_ble_eq_true rfl, Nat.le_of_ble_eq_true rfl⟩ ⟨hroom.1, hroom.2⟩ (vM_X5 C0 hH) rfl (Nat.le_of_ble_eq_true rfl) dL_law_322 (fun H locs hH => ?_)
      have hH := hH.perm LW_m.symm
      refine lv_iload hx hb dL_law_325 (lv_at hl 1 rfl) ?_
      refine lv_icmp_eq (tgt := 332) hx hb dL_law_327 (by decide) (fun c9 => ?_) (fun c9 => absurd hv0 c9)
      refine lv_iload hx hb dL_law_332 (lv_at hl 1 rfl) ?_
      refine lv_if_ne (tgt := 349) hx hb dL_law_334 (by decide) (fun c9 => ?_) (fun c9 => absurd c9 (by decide))
      refine lv_goto (tgt := 1331) hx hb dL_law_349 (by decide) ?_
      exact K _ v9 t9 u hh S _ _ _ hs hH (lv_sub hl [2, 3, 4, 5, 6] rfl)
    · simp at hk
set_option maxHeartbeats 4000000 in
set_option maxRecDepth 100000 in
theorem law_3 {p : Program} {l : Launch} {e : Env} {s : State} {m : MethodId} {args : Array Value} {below : List Frame} {meth : Method} {c : Code} {H : Heap} {locs : List Loc} {cells slots : Nat} {Q : State → Prop} {ls : Array Slot} {D : va_G} {ca : Gp} {A : Nat → Prop} {b0 L o : Nat} {xs : Nat → Int32} {d a b h : Nat → Nat} {f : Nat → Nat → Nat} {ol : Nat → Int64} {v t u hh : Mem} {S : Nat → Mem} {x4 : Int32} {Sim : Mem → Mem → Mem → Mem → (Nat → Mem) → Prop} (C0 : Cx p s m args c cL_law 9 wsL_law RL D ca A) (hfl : l.stackTraces = false) (hX : va_X b0 L xs s s.heap) (hbl : b0 < s.heap.size) (hbA : ¬ A b0) (hH : HS D A s (LW o d a b h f ca ol v t u hh S) H locs) (hl : lv_has ls 9 [(0, .ref b0), (1, .ref (h 2)), (2, .ref (d 0)), (3, .ref o), (4, .int x4)]) (h1 : vp_in (x4 + 1) L) (h2 : vp_in (x4 + 2) L) (h3 : vp_in (x4 + 3) L) (hroom : cells + 1 ≤ room_1.cells ∧ slots + 6 ≤ room_1.slots) (ok : StepA Sim (pX4_destageAll t u hh S ) (tX4_destageAll t u hh S ) (pX5_destageAll v ) ["java/lang/IllegalStateException"] u hh S) (K : ∀ (ol : Nat → Int64) (v t u hh : Mem) (S : Nat → Mem) (H : Heap) (locs : List Loc) (ls : Array Slot), Sim v t u hh S → HS D A s (LW o d a b h f ca ol v t u hh S) H locs → lv_has ls 9 [(0, .ref b0), (1, .ref (h 2)), (2, .ref (d 0)), (3, .ref o), (4, .int x4)] → W p l e room_1 s m args below meth c H locs (cells + 1) (slots + 6) Q (F0 m 1331 ls [])) : W p l e room_1 s m args below meth c H locs cells slots Q (F0 m 352 ls []) := by
  obtain ⟨hx, hb, hml, hown, hts⟩ := id C0.1
  unfold StepA at ok
  rcases ok with ⟨r, t9, u9, h9, S9, v9, hP, hG, hv0, hs⟩ | ⟨k, E, t9, r, v9, hk, hT, hG, hv0, hs⟩
  · refine lv_aload_n hx hb dL_law_352 rfl (lv_at hl 1 rfl) ?_
    refine lv_aload_n hx hb dL_law_353 rfl (lv_at hl 3 rfl) ?_
    have hH := hH.perm LW_h
    refine cl_j C0 hH hl.1 (As := [.ref (h 2), .ref o]) (rest := []) (mL_destageAll l hfl D ca o a b h f (mW d ca v ++ []) ol t u hh S  hP) gL_law_L_destageAll rfl rfl rfl hd_L_destageAll ⟨Nat.le_of_ble_eq_true rfl, Nat.le_of_ble_eq_true rfl⟩ hroom rfl (Nat.le_of_ble_eq_true rfl) dL_law_354 (fun H locs hH => ?_)
    have hH := hH.perm LW_h.symm
    refine lv_istore (lv' := [(5, .int 0), (0, .ref b0), (1, .ref (h 2)), (2, .ref (d 0)), (3, .ref o), (4, .int x4)]) hx hb dL_law_357 hl (by decide) rfl (fun ls hl => ?_)
    refine lv_aload_n hx hb dL_law_359 rfl (lv_at hl 3 rfl) ?_
    have hH := hH.perm LW_m
    refine cl_iV C0 hH hl.1 (As := []) (rest := []) (mX5_destageAll l D ca d _ v  hG) gL_law_X5_destageAll rfl rfl rfl hd_X5_destageAll ⟨Nat.le_of_ble_eq_true rfl, Nat.le_of_ble_eq_true rfl⟩ ⟨hroom.1, hroom.2⟩ (vM_X5 C0 hH) rfl (Nat.le_of_ble_eq_true rfl) dL_law_360 (fun H locs hH => ?_)
    have hH := hH.perm LW_m.symm
    refine lv_istore (lv' := [(6, .int r), (5, .int 0), (0, .ref b0), (1, .ref (h 2)), (2, .ref (d 0)), (3, .ref o), (4, .int x4)]) hx hb dL_law_363 hl (by decide) rfl (fun ls hl => ?_)
    refine lv_aload_n hx hb dL_law_365 rfl (lv_at hl 4 rfl) ?_
    have hH := hH.perm LW_m
    refine cl_iV C0 hH hl.1 (As := []) (rest := []) (mX5_thrown l D ca d _ v9 rfl) gL_law_X5_thrown rfl rfl rfl hd_X5_thrown ⟨Nat.le_of_ble_eq_true rfl, Nat.le_of_ble_eq_true rfl⟩ ⟨hroom.1, hroom.2⟩ (vM_X5 C0 hH) rfl (Nat.le_of_ble_eq_true rfl) dL_law_366 (fun H locs hH => ?_)
    have hH := hH.perm LW_m.symm
    refine lv_iload hx hb dL_law_369 (lv_at hl 1 rfl) ?_
    refine lv_icmp_eq (tgt := 376) hx hb dL_law_371 (by decide) (fun c9 => ?_) (fun c9 => absurd hv0 c9)
    refine lv_iload hx hb dL_law_376 (lv_at hl 1 rfl) ?_
    refine lv_if_ne (tgt := 393) hx hb dL_law_378 (by decide) (fun c9 => absurd rfl c9) (fun c9 => ?_)
    refine lv_aload_n hx hb dL_law_381 rfl (lv_at hl 5 rfl) ?_
    refine lv_iconst (v := 0) hx hb dL_law_382 (by decide) ?_
    refine lO C0 hH dL_law_383 ?_
    refine lv_iload hx hb dL_law_384 (lv_at hl 0 rfl) ?_
    refine lv_i2l (v := r.toInt64) hx hb dL_law_386 rfl ?_
    refine W.lcmp hx hb dL_law_387 ?_
    refine lv_if_eq (tgt := 393) hx hb dL_law_388 (by decide) (fun c9 => ?_) (fun c9 => absurd (lcmp_same _) c9)
    refine lv_goto (tgt := 1331) hx hb dL_law_393 (by decide) ?_
    exact K _ v9 t9 u9 h9 S9 _ _ _ hs hH (lv_sub hl [2, 3, 4, 5, 6] rfl)
  · rcases k with _ | k
    · obtain rfl := Option.some.inj hk
      rw [nI_k1] at hv0
      refine lv_aload_n hx hb dL_law_352 rfl (lv_at hl 1 rfl) ?_
      refine lv_aload_n hx hb dL_law_353 rfl (lv_at hl 3 rfl) ?_
      have hH := hH.perm LW_h
      refine cl_j C0 hH hl.1 (As := [.ref (h 2), .ref o]) (rest := []) (eL_destageAll_1 l hfl D ca o a b h f (mW d ca v ++ []) ol t u hh S  hT) gL_law_L_destageAll rfl rfl rfl hd_L_destageAll ⟨Nat.le_of_ble_eq_true rfl, Nat.le_of_ble_eq_true rfl⟩ hroom rfl (Nat.le_of_ble_eq_true rfl) dL_law_354 (fun H locs hH => ?_)
      have hH := hH.perm LW_h.symm
      refine lv_istore (lv' := [(5, .int 1), (0, .ref b0), (1, .ref (h 2)), (2, .ref (d 0)), (3, .ref o), (4, .int x4)]) hx hb dL_law_357 hl (by decide) rfl (fun ls hl => ?_)
      refine lv_aload_n hx hb dL_law_359 rfl (lv_at hl 3 rfl) ?_
      have hH := hH.perm LW_m
      refine cl_iV C0 hH hl.1 (As := []) (rest := []) (mX5_destageAll l D ca d _ v  hG) gL_law_X5_destageAll rfl rfl rfl hd_X5_destageAll ⟨Nat.le_of_ble_eq_true rfl, Nat.le_of_ble_eq_true rfl⟩ ⟨hroom.1, hroom.2⟩ (vM_X5 C0 hH) rfl (Nat.le_of_ble_eq_true rfl) dL_law_360 (fun H locs hH => ?_)
      have hH := hH.perm LW_m.symm
      refine lv_istore (lv' := [(6, .int r), (5, .int 1), (0, .ref b0), (1, .ref (h 2)), (2, .ref (d 0)), (3, .ref o), (4, .int x4)]) hx hb dL_law_363 hl (by decide) rfl (fun ls hl => ?_)
      refine lv_aload_n hx hb dL_law_365 rfl (lv_at hl 4 rfl) ?_
      have hH := hH.perm LW_m
      refine cl_iV C0 hH hl.1 (As := []) (rest := []) (mX5_thrown l D ca d _ v9 rfl) gL_law_X5_thrown rfl rfl rfl hd_X5_thrown ⟨Nat.le_of_ble_eq_true rfl, Nat.le_of_ble_eq_true rfl⟩ ⟨hroom.1, hroom.2⟩ (vM_X5 C0 hH) rfl (Nat.le_of_ble_eq_true rfl) dL_law_366 (fun H locs hH => ?_)
      have hH := hH.perm LW_m.symm
      refine lv_iload hx hb dL_law_369 (lv_at hl 1 rfl) ?_
      refine lv_icmp_eq (tgt := 376) hx hb dL_law_371 (by decide) (fun c9 => ?_) (fun c9 => absurd hv0 c9)
      refine lv_iload hx hb dL_law_376 (lv_at hl 1 rfl) ?_
      refine lv_if_ne (tgt := 393) hx hb dL_law_378 (by decide) (fun c9 => ?_) (fun c9 => absurd c9 (by decide))
      refine lv_goto (tgt := 1331) hx hb dL_law_393 (by decide) ?_
      exact K _ v9 t9 u hh S _ _ _ hs hH (lv_sub hl [2, 3, 4, 5, 6] rfl)
    · simp at hk
set_option maxHeartbeats 4000000 in
set_option maxRecDepth 100000 in
theorem law_4 {p : Program} {l : Launch} {e : Env} {s : State} {m : MethodId} {args : Array Value} {below : List Frame} {meth : Method} {c : Code} {H : Heap} {locs : List Loc} {cells slots : Nat} {Q : State → Prop} {ls : Array Slot} {D : va_G} {ca : Gp} {A : Nat → Prop} {b0 L o : Nat} {xs : Nat → Int32} {d a b h : Nat → Nat} {f : Nat → Nat → Nat} {ol : Nat → Int64} {v t u hh : Mem} {S : Nat → Mem} {x4 : Int32} {Sim : Mem → Mem → Mem → Mem → (Nat → Mem) → Prop} (C0 : Cx p s m args c cL_law 9 wsL_law RL D ca A) (hfl : l.stackTraces = false) (hX : va_X b0 L xs s s.heap) (hbl : b0 < s.heap.size) (hbA : ¬ A b0) (hH : HS D A s (LW o d a b h f ca ol v t u hh S) H locs) (hl : lv_has ls 9 [(0, .ref b0), (1, .ref (h 2)), (2, .ref (d 0)), (3, .ref o), (4, .int x4)]) (h1 : vp_in (x4 + 1) L) (h2 : vp_in (x4 + 2) L) (h3 : vp_in (x4 + 3) L) (hroom : cells + 1 ≤ room_1.cells ∧ slots + 6 ≤ room_1.slots) (ok : StepA Sim (pX4_pass t u hh S (xs (x4 + 1).toNatClampNeg)) (tX4_pass t u hh S (xs (x4 + 1).toNatClampNeg)) (pX5_pass v (xs (x4 + 1).toNatClampNeg)) ["java/lang/IllegalArgumentException"] u hh S) (K : ∀ (ol : Nat → Int64) (v t u hh : Mem) (S : Nat → Mem) (H : Heap) (locs : List Loc) (ls : Array Slot), Sim v t u hh S → HS D A s (LW o d a b h f ca ol v t u hh S) H locs → lv_has ls 9 [(0, .ref b0), (1, .ref (h 2)), (2, .ref (d 0)), (3, .ref o), (4, .int x4)] → W p l e room_1 s m args below meth c H locs (cells + 1) (slots + 6) Q (F0 m 1331 ls [])) : W p l e room_1 s m args below meth c H locs cells slots Q (F0 m 396 ls []) := by
  obtain ⟨hx, hb, hml, hown, hts⟩ := id C0.1
  unfold StepA at ok
  rcases ok with ⟨r, t9, u9, h9, S9, v9, hP, hG, hv0, hs⟩ | ⟨k, E, t9, r, v9, hk, hT, hG, hv0, hs⟩
  · refine lv_aload_n hx hb dL_law_396 rfl (lv_at hl 1 rfl) ?_
    refine lv_aload_n hx hb dL_law_397 rfl (lv_at hl 0 rfl) ?_
    refine lv_iload hx hb dL_law_398 (lv_at hl 4 rfl) ?_
    refine lv_iconst (v := 1) hx hb dL_law_400 (by decide) ?_
    refine lv_iadd hx hb dL_law_401 ?_
    refine va_sld hx hb hX hbl hbA hH.2.2 h1 dL_law_402 ?_
    refine lv_aload_n hx hb dL_law_403 rfl (lv_at hl 3 rfl) ?_
    have hH := hH.perm LW_h
    refine cl_j C0 hH hl.1 (As := [.ref (h 2), .int (xs (x4 + 1).toNatClampNeg), .ref o]) (rest := []) (mL_pass l hfl D ca o a b h f (mW d ca v ++ []) ol t u hh S (xs (x4 + 1).toNatClampNeg) hP) gL_law_L_pass rfl rfl rfl hd_L_pass ⟨Nat.le_of_ble_eq_true rfl, Nat.le_of_ble_eq_true rfl⟩ hroom rfl (Nat.le_of_ble_eq_true rfl) dL_law_404 (fun H locs hH => ?_)
    have hH := hH.perm LW_h.symm
    refine lv_istore (lv' := [(5, .int 0), (0, .ref b0), (1, .ref (h 2)), (2, .ref (d 0)), (3, .ref o), (4, .int x4)]) hx hb dL_law_407 hl (by decide) rfl (fun ls hl => ?_)
    refine lv_aload_n hx hb dL_law_409 rfl (lv_at hl 3 rfl) ?_
    refine lv_aload_n hx hb dL_law_410 rfl (lv_at hl 1 rfl) ?_
    refine lv_iload hx hb dL_law_411 (lv_at hl 5 rfl) ?_
    refine lv_iconst (v := 1) hx hb dL_law_413 (by decide) ?_
    refine lv_iadd hx hb dL_law_414 ?_
    refine va_sld hx hb hX hbl hbA hH.2.2 h1 dL_law_415 ?_
    have hH := hH.perm LW_m
    refine cl_iV C0 hH hl.1 (As := [.int (xs (x4 + 1).toNatClampNeg)]) (rest := []) (mX5_pass l D ca d _ v (xs (x4 + 1).toNatClampNeg) hG) gL_law_X5_pass rfl rfl rfl hd_X5_pass ⟨Nat.le_of_ble_eq_true rfl, Nat.le_of_ble_eq_true rfl⟩ ⟨hroom.1, hroom.2⟩ (vM_X5 C0 hH) rfl (Nat.le_of_ble_eq_true rfl) dL_law_416 (fun H locs hH => ?_)
    have hH := hH.perm LW_m.symm
    refine lv_istore (lv' := [(6, .int r), (5, .int 0), (0, .ref b0), (1, .ref (h 2)), (2, .ref (d 0)), (3, .ref o), (4, .int x4)]) hx hb dL_law_419 hl (by decide) rfl (fun ls hl => ?_)
    refine lv_aload_n hx hb dL_law_421 rfl (lv_at hl 4 rfl) ?_
    have hH := hH.perm LW_m
    refine cl_iV C0 hH hl.1 (As := []) (rest := []) (mX5_thrown l D ca d _ v9 rfl) gL_law_X5_thrown rfl rfl rfl hd_X5_thrown ⟨Nat.le_of_ble_eq_true rfl, Nat.le_of_ble_eq_true rfl⟩ ⟨hroom.1, hroom.2⟩ (vM_X5 C0 hH) rfl (Nat.le_of_ble_eq_true rfl) dL_law_422 (fun H locs hH => ?_)
    have hH := hH.perm LW_m.symm
    refine lv_iload hx hb dL_law_425 (lv_at hl 1 rfl) ?_
    refine lv_icmp_eq (tgt := 432) hx hb dL_law_427 (by decide) (fun c9 => ?_) (fun c9 => absurd hv0 c9)
    refine lv_iload hx hb dL_law_432 (lv_at hl 1 rfl) ?_
    refine lv_if_ne (tgt := 449) hx hb dL_law_434 (by decide) (fun c9 => absurd rfl c9) (fun c9 => ?_)
    refine lv_aload_n hx hb dL_law_437 rfl (lv_at hl 5 rfl) ?_
    refine lv_iconst (v := 0) hx hb dL_law_438 (by decide) ?_
    refine lO C0 hH dL_law_439 ?_
    refine lv_iload hx hb dL_law_440 (lv_at hl 0 rfl) ?_
    refine lv_i2l (v := r.toInt64) hx hb dL_law_442 rfl ?_
    refine W.lcmp hx hb dL_law_443 ?_
    refine lv_if_eq (tgt := 449) hx hb dL_law_444 (by decide) (fun c9 => ?_) (fun c9 => absurd (lcmp_same _) c9)
    refine lv_goto (tgt := 1331) hx hb dL_law_449 (by decide) ?_
    exact K _ v9 t9 u9 h9 S9 _ _ _ hs hH (lv_sub hl [2, 3, 4, 5, 6] rfl)
  · rcases k with _ | k
    · obtain rfl := Option.some.inj hk
      rw [nI_k1] at hv0
      refine lv_aload_n hx hb dL_law_396 rfl (lv_at hl 1 rfl) ?_
      refine lv_aload_n hx hb dL_law_397 rfl (lv_at hl 0 rfl) ?_
      refine lv_iload hx hb dL_law_398 (lv_at hl 4 rfl) ?_
      refine lv_iconst (v := 1) hx hb dL_law_400 (by decide) ?_
      refine lv_iadd hx hb dL_law_401 ?_
      refine va_sld hx hb hX hbl hbA hH.2.2 h1 dL_law_402 ?_
      refine lv_aload_n hx hb dL_law_403 rfl (lv_at hl 3 rfl) ?_
      have hH := hH.perm LW_h
      refine cl_j C0 hH hl.1 (As := [.ref (h 2), .int (xs (x4 + 1).toNatClampNeg), .ref o]) (rest := []) (eL_pass_1 l hfl D ca o a b h f (mW d ca v ++ []) ol t u hh S (xs (x4 + 1).toNatClampNeg) hT) gL_law_L_pass rfl rfl rfl hd_L_pass ⟨Nat.le_of_ble_eq_true rfl, Nat.le_of_ble_eq_true rfl⟩ hroom rfl (Nat.le_of_ble_eq_true rfl) dL_law_404 (fun H locs hH => ?_)
      have hH := hH.perm LW_h.symm
      refine lv_istore (lv' := [(5, .int 1), (0, .ref b0), (1, .ref (h 2)), (2, .ref (d 0)), (3, .ref o), (4, .int x4)]) hx hb dL_law_407 hl (by decide) rfl (fun ls hl => ?_)
      refine lv_aload_n hx hb dL_law_409 rfl (lv_at hl 3 rfl) ?_
      refine lv_aload_n hx hb dL_law_410 rfl (lv_at hl 1 rfl) ?_
      refine lv_iload hx hb dL_law_411 (lv_at hl 5 rfl) ?_
      refine lv_iconst (v := 1) hx hb dL_law_413 (by decide) ?_
      refine lv_iadd hx hb dL_law_414 ?_
      refine va_sld hx hb hX hbl hbA hH.2.2 h1 dL_law_415 ?_
      have hH := hH.perm LW_m
      refine cl_iV C0 hH hl.1 (As := [.int (xs (x4 + 1).toNatClampNeg)]) (rest := []) (mX5_pass l D ca d _ v (xs (x4 + 1).toNatClampNeg) hG) gL_law_X5_pass rfl rfl rfl hd_X5_pass ⟨Nat.le_of_ble_eq_true rfl, Nat.le_of_ble_eq_true rfl⟩ ⟨hroom.1, hroom.2⟩ (vM_X5 C0 hH) rfl (Nat.le_of_ble_eq_true rfl) dL_law_416 (fun H locs hH => ?_)
      have hH := hH.perm LW_m.symm
      refine lv_istore (lv' := [(6, .int r), (5, .int 1), (0, .ref b0), (1, .ref (h 2)), (2, .ref (d 0)), (3, .ref o), (4, .int x4)]) hx hb dL_law_419 hl (by decide) rfl (fun ls hl => ?_)
      refine lv_aload_n hx hb dL_law_421 rfl (lv_at hl 4 rfl) ?_
      have hH := hH.perm LW_m
      refine cl_iV C0 hH hl.1 (As := []) (rest := []) (mX5_thrown l D ca d _ v9 rfl) gL_law_X5_thrown rfl rfl rfl hd_X5_thrown ⟨Nat.le_of_ble_eq_true rfl, Nat.le_of_ble_eq_true rfl⟩ ⟨hroom.1, hroom.2⟩ (vM_X5 C0 hH) rfl (Nat.le_of_ble_eq_true rfl) dL_law_422 (fun H locs hH => ?_)
      have hH := hH.perm LW_m.symm
      refine lv_iload hx hb dL_law_425 (lv_at hl 1 rfl) ?_
      refine lv_icmp_eq (tgt := 432) hx hb dL_law_427 (by decide) (fun c9 => ?_) (fun c9 => absurd hv0 c9)
      refine lv_iload hx hb dL_law_432 (lv_at hl 1 rfl) ?_
      refine lv_if_ne (tgt := 449) hx hb dL_law_434 (by decide) (fun c9 => ?_) (fun c9 => absurd c9 (by decide))
      refine lv_goto (tgt := 1331) hx hb dL_law_449 (by decide) ?_
      exact K _ v9 t9 u hh S _ _ _ hs hH (lv_sub hl [2, 3, 4, 5, 6] rfl)
    · simp at hk
set_option maxHeartbeats 4000000 in
set_option maxRecDepth 100000 in
theorem law_5 {p : Program} {l : Launch} {e : Env} {s : State} {m : MethodId} {args : Array Value} {below : List Frame} {meth : Method} {c : Code} {H : Heap} {locs : List Loc} {cells slots : Nat} {Q : State → Prop} {ls : Array Slot} {D : va_G} {ca : Gp} {A : Nat → Prop} {b0 L o : Nat} {xs : Nat → Int32} {d a b h : Nat → Nat} {f : Nat → Nat → Nat} {ol : Nat → Int64} {v t u hh : Mem} {S : Nat → Mem} {x4 : Int32} {Sim : Mem → Mem → Mem → Mem → (Nat → Mem) → Prop} (C0 : Cx p s m args c cL_law 9 wsL_law RL D ca A) (hfl : l.stackTraces = false) (hX : va_X b0 L xs s s.heap) (hbl : b0 < s.heap.size) (hbA : ¬ A b0) (hH : HS D A s (LW o d a b h f ca ol v t u hh S) H locs) (hl : lv_has ls 9 [(0, .ref b0), (1, .ref (h 2)), (2, .ref (d 0)), (3, .ref o), (4, .int x4)]) (h1 : vp_in (x4 + 1) L) (h2 : vp_in (x4 + 2) L) (h3 : vp_in (x4 + 3) L) (hroom : cells + 1 ≤ room_1.cells ∧ slots + 6 ≤ room_1.slots) (ok : StepA Sim (pX4_setLimit t u hh S (xs (x4 + 1).toNatClampNeg)) (tX4_setLimit t u hh S (xs (x4 + 1).toNatClampNeg)) (pX5_setLimit v (xs (x4 + 1).toNatClampNeg)) ["java/lang/IllegalArgumentException"] u hh S) (K : ∀ (ol : Nat → Int64) (v t u hh : Mem) (S : Nat → Mem) (H : Heap) (locs : List Loc) (ls : Array Slot), Sim v t u hh S → HS D A s (LW o d a b h f ca ol v t u hh S) H locs → lv_has ls 9 [(0, .ref b0), (1, .ref (h 2)), (2, .ref (d 0)), (3, .ref o), (4, .int x4)] → W p l e room_1 s m args below meth c H locs (cells + 1) (slots + 6) Q (F0 m 1331 ls [])) : W p l e room_1 s m args below meth c H locs cells slots Q (F0 m 452 ls []) := by
  obtain ⟨hx, hb, hml, hown, hts⟩ := id C0.1
  unfold StepA at ok
  rcases ok with ⟨r, t9, u9, h9, S9, v9, hP, hG, hv0, hs⟩ | ⟨k, E, t9, r, v9, hk, hT, hG, hv0, hs⟩
  · refine lv_aload_n hx hb dL_law_452 rfl (lv_at hl 1 rfl) ?_
    refine lv_aload_n hx hb dL_law_453 rfl (lv_at hl 0 rfl) ?_
    refine lv_iload hx hb dL_law_454 (lv_at hl 4 rfl) ?_
    refine lv_iconst (v := 1) hx hb dL_law_456 (by decide) ?_
    refine lv_iadd hx hb dL_law_457 ?_
    refine va_sld hx hb hX hbl hbA hH.2.2 h1 dL_law_458 ?_
    refine lv_aload_n hx hb dL_law_459 rfl (lv_at hl 3 rfl) ?_
    have hH := hH.perm LW_h
    refine cl_j C0 hH hl.1 (As := [.ref (h 2), .int (xs (x4 + 1).toNatClampNeg), .ref o]) (rest := []) (mL_setLimit l hfl D ca o a b h f (mW d ca v ++ []) ol t u hh S (xs (x4 + 1).toNatClampNeg) hP) gL_law_L_setLimit rfl rfl rfl hd_L_setLimit ⟨Nat.le_of_ble_eq_true rfl, Nat.le_of_ble_eq_true rfl⟩ hroom rfl (Nat.le_of_ble_eq_true rfl) dL_law_460 (fun H locs hH => ?_)
    have hH := hH.perm LW_h.symm
    refine lv_istore (lv' := [(5, .int 0), (0, .ref b0), (1, .ref (h 2)), (2, .ref (d 0)), (3, .ref o), (4, .int x4)]) hx hb dL_law_463 hl (by decide) rfl (fun ls hl => ?_)
    refine lv_aload_n hx hb dL_law_465 rfl (lv_at hl 3 rfl) ?_
    refine lv_aload_n hx hb dL_law_466 rfl (lv_at hl 1 rfl) ?_
    refine lv_iload hx hb dL_law_467 (lv_at hl 5 rfl) ?_
    refine lv_iconst (v := 1) hx hb dL_law_469 (by decide) ?_
    refine lv_iadd hx hb dL_law_470 ?_
    refine va_sld hx hb hX hbl hbA hH.2.2 h1 dL_law_471 ?_
    have hH := hH.perm LW_m
    refine cl_iV C0 hH hl.1 (As := [.int (xs (x4 + 1).toNatClampNeg)]) (rest := []) (mX5_setLimit l D ca d _ v (xs (x4 + 1).toNatClampNeg) hG) gL_law_X5_setLimit rfl rfl rfl hd_X5_setLimit ⟨Nat.le_of_ble_eq_true rfl, Nat.le_of_ble_eq_true rfl⟩ ⟨hroom.1, hroom.2⟩ (vM_X5 C0 hH) rfl (Nat.le_of_ble_eq_true rfl) dL_law_472 (fun H locs hH => ?_)
    have hH := hH.perm LW_m.symm
    refine lv_istore (lv' := [(6, .int r), (5, .int 0), (0, .ref b0), (1, .ref (h 2)), (2, .ref (d 0)), (3, .ref o), (4, .int x4)]) hx hb dL_law_475 hl (by decide) rfl (fun ls hl => ?_)
    refine lv_aload_n hx hb dL_law_477 rfl (lv_at hl 4 rfl) ?_
    have hH := hH.perm LW_m
    refine cl_iV C0 hH hl.1 (As := []) (rest := []) (mX5_thrown l D ca d _ v9 rfl) gL_law_X5_thrown rfl rfl rfl hd_X5_thrown ⟨Nat.le_of_ble_eq_true rfl, Nat.le_of_ble_eq_true rfl⟩ ⟨hroom.1, hroom.2⟩ (vM_X5 C0 hH) rfl (Nat.le_of_ble_eq_true rfl) dL_law_478 (fun H locs hH => ?_)
    have hH := hH.perm LW_m.symm
    refine lv_iload hx hb dL_law_481 (lv_at hl 1 rfl) ?_
    refine lv_icmp_eq (tgt := 488) hx hb dL_law_483 (by decide) (fun c9 => ?_) (fun c9 => absurd hv0 c9)
    refine lv_iload hx hb dL_law_488 (lv_at hl 1 rfl) ?_
    refine lv_if_ne (tgt := 505) hx hb dL_law_490 (by decide) (fun c9 => absurd rfl c9) (fun c9 => ?_)
    refine lv_aload_n hx hb dL_law_493 rfl (lv_at hl 5 rfl) ?_
    refine lv_iconst (v := 0) hx hb dL_law_494 (by decide) ?_
    refine lO C0 hH dL_law_495 ?_
    refine lv_iload hx hb dL_law_496 (lv_at hl 0 rfl) ?_
    refine lv_i2l (v := r.toInt64) hx hb dL_law_498 rfl ?_
    refine W.lcmp hx hb dL_law_499 ?_
    refine lv_if_eq (tgt := 505) hx hb dL_law_500 (by decide) (fun c9 => ?_) (fun c9 => absurd (lcmp_same _) c9)
    refine lv_goto (tgt := 1331) hx hb dL_law_505 (by decide) ?_
    exact K _ v9 t9 u9 h9 S9 _ _ _ hs hH (lv_sub hl [2, 3, 4, 5, 6] rfl)
  · rcases k with _ | k
    · obtain rfl := Option.some.inj hk
      rw [nI_k1] at hv0
      refine lv_aload_n hx hb dL_law_452 rfl (lv_at hl 1 rfl) ?_
      refine lv_aload_n hx hb dL_law_453 rfl (lv_at hl 0 rfl) ?_
      refine lv_iload hx hb dL_law_454 (lv_at hl 4 rfl) ?_
      refine lv_iconst (v := 1) hx hb dL_law_456 (by decide) ?_
      refine lv_iadd hx hb dL_law_457 ?_
      refine va_sld hx hb hX hbl hbA hH.2.2 h1 dL_law_458 ?_
      refine lv_aload_n hx hb dL_law_459 rfl (lv_at hl 3 rfl) ?_
      have hH := hH.perm LW_h
      refine cl_j C0 hH hl.1 (As := [.ref (h 2), .int (xs (x4 + 1).toNatClampNeg), .ref o]) (rest := []) (eL_setLimit_1 l hfl D ca o a b h f (mW d ca v ++ []) ol t u hh S (xs (x4 + 1).toNatClampNeg) hT) gL_law_L_setLimit rfl rfl rfl hd_L_setLimit ⟨Nat.le_of_ble_eq_true rfl, Nat.le_of_ble_eq_true rfl⟩ hroom rfl (Nat.le_of_ble_eq_true rfl) dL_law_460 (fun H locs hH => ?_)
      have hH := hH.perm LW_h.symm
      refine lv_istore (lv' := [(5, .int 1), (0, .ref b0), (1, .ref (h 2)), (2, .ref (d 0)), (3, .ref o), (4, .int x4)]) hx hb dL_law_463 hl (by decide) rfl (fun ls hl => ?_)
      refine lv_aload_n hx hb dL_law_465 rfl (lv_at hl 3 rfl) ?_
      refine lv_aload_n hx hb dL_law_466 rfl (lv_at hl 1 rfl) ?_
      refine lv_iload hx hb dL_law_467 (lv_at hl 5 rfl) ?_
      refine lv_iconst (v := 1) hx hb dL_law_469 (by decide) ?_
      refine lv_iadd hx hb dL_law_470 ?_
      refine va_sld hx hb hX hbl hbA hH.2.2 h1 dL_law_471 ?_
      have hH := hH.perm LW_m
      refine cl_iV C0 hH hl.1 (As := [.int (xs (x4 + 1).toNatClampNeg)]) (rest := []) (mX5_setLimit l D ca d _ v (xs (x4 + 1).toNatClampNeg) hG) gL_law_X5_setLimit rfl rfl rfl hd_X5_setLimit ⟨Nat.le_of_ble_eq_true rfl, Nat.le_of_ble_eq_true rfl⟩ ⟨hroom.1, hroom.2⟩ (vM_X5 C0 hH) rfl (Nat.le_of_ble_eq_true rfl) dL_law_472 (fun H locs hH => ?_)
      have hH := hH.perm LW_m.symm
      refine lv_istore (lv' := [(6, .int r), (5, .int 1), (0, .ref b0), (1, .ref (h 2)), (2, .ref (d 0)), (3, .ref o), (4, .int x4)]) hx hb dL_law_475 hl (by decide) rfl (fun ls hl => ?_)
      refine lv_aload_n hx hb dL_law_477 rfl (lv_at hl 4 rfl) ?_
      have hH := hH.perm LW_m
      refine cl_iV C0 hH hl.1 (As := []) (rest := []) (mX5_thrown l D ca d _ v9 rfl) gL_law_X5_thrown rfl rfl rfl hd_X5_thrown ⟨Nat.le_of_ble_eq_true rfl, Nat.le_of_ble_eq_true rfl⟩ ⟨hroom.1, hroom.2⟩ (vM_X5 C0 hH) rfl (Nat.le_of_ble_eq_true rfl) dL_law_478 (fun H locs hH => ?_)
      have hH := hH.perm LW_m.symm
      refine lv_iload hx hb dL_law_481 (lv_at hl 1 rfl) ?_
      refine lv_icmp_eq (tgt := 488) hx hb dL_law_483 (by decide) (fun c9 => ?_) (fun c9 => absurd hv0 c9)
      refine lv_iload hx hb dL_law_488 (lv_at hl 1 rfl) ?_
      refine lv_if_ne (tgt := 505) hx hb dL_law_490 (by decide) (fun c9 => ?_) (fun c9 => absurd c9 (by decide))
      refine lv_goto (tgt := 1331) hx hb dL_law_505 (by decide) ?_
      exact K _ v9 t9 u hh S _ _ _ hs hH (lv_sub hl [2, 3, 4, 5, 6] rfl)
    · simp at hk
set_option maxHeartbeats 4000000 in
set_option maxRecDepth 100000 in
theorem law_6 {p : Program} {l : Launch} {e : Env} {s : State} {m : MethodId} {args : Array Value} {below : List Frame} {meth : Method} {c : Code} {H : Heap} {locs : List Loc} {cells slots : Nat} {Q : State → Prop} {ls : Array Slot} {D : va_G} {ca : Gp} {A : Nat → Prop} {b0 L o : Nat} {xs : Nat → Int32} {d a b h : Nat → Nat} {f : Nat → Nat → Nat} {ol : Nat → Int64} {v t u hh : Mem} {S : Nat → Mem} {x4 : Int32} {Sim : Mem → Mem → Mem → Mem → (Nat → Mem) → Prop} (C0 : Cx p s m args c cL_law 9 wsL_law RL D ca A) (hfl : l.stackTraces = false) (hX : va_X b0 L xs s s.heap) (hbl : b0 < s.heap.size) (hbA : ¬ A b0) (hH : HS D A s (LW o d a b h f ca ol v t u hh S) H locs) (hl : lv_has ls 9 [(0, .ref b0), (1, .ref (h 2)), (2, .ref (d 0)), (3, .ref o), (4, .int x4)]) (h1 : vp_in (x4 + 1) L) (h2 : vp_in (x4 + 2) L) (h3 : vp_in (x4 + 3) L) (hroom : cells + 1 ≤ room_1.cells ∧ slots + 6 ≤ room_1.slots) (ok : StepC Sim (pX4_power t u hh S (bz (xs (x4 + 1).toNatClampNeg))) (pX5_power v (bz (xs (x4 + 1).toNatClampNeg)))) (K : ∀ (ol : Nat → Int64) (v t u hh : Mem) (S : Nat → Mem) (H : Heap) (locs : List Loc) (ls : Array Slot), Sim v t u hh S → HS D A s (LW o d a b h f ca ol v t u hh S) H locs → lv_has ls 9 [(0, .ref b0), (1, .ref (h 2)), (2, .ref (d 0)), (3, .ref o), (4, .int x4)] → W p l e room_1 s m args below meth c H locs (cells + 1) (slots + 6) Q (F0 m 1331 ls [])) : W p l e room_1 s m args below meth c H locs cells slots Q (F0 m 508 ls []) := by
  obtain ⟨hx, hb, hml, hown, hts⟩ := id C0.1
  unfold StepC at ok
  by_cases hb1 : (xs (x4 + 1).toNatClampNeg) = 0
  · rw [show bz (xs (x4 + 1).toNatClampNeg) = 0 from if_pos hb1] at ok
    obtain ⟨r, t9, u9, h9, S9, v9, hP, hG, hs⟩ := ok
    refine lv_aload_n hx hb dL_law_508 rfl (lv_at hl 1 rfl) ?_
    refine lv_aload_n hx hb dL_law_509 rfl (lv_at hl 0 rfl) ?_
    refine lv_iload hx hb dL_law_510 (lv_at hl 4 rfl) ?_
    refine lv_iconst (v := 1) hx hb dL_law_512 (by decide) ?_
    refine lv_iadd hx hb dL_law_513 ?_
    refine va_sld hx hb hX hbl hbA hH.2.2 h1 dL_law_514 ?_
    refine lv_if_eq (tgt := 522) hx hb dL_law_515 (by decide) (fun c9 => ?_) (fun c9 => absurd hb1 c9)
    refine lv_iconst (v := 0) hx hb dL_law_522 (by decide) ?_
    have hH := hH.perm LW_g
    refine cl_iV C0 hH hl.1 (As := [.int 0]) (rest := []) (mX4_power l D ca a b h f (oW o ca ol ++ (mW d ca v ++ [])) t u hh S 0 hP) gL_law_X4_power rfl rfl rfl hd_X4_power ⟨Nat.le_of_ble_eq_true rfl, Nat.le_of_ble_eq_true rfl⟩ ⟨Nat.le_of_succ_le hroom.1, Nat.le_trans (Nat.le_add_right _ 6) hroom.2⟩ (vG_X4 C0 hH) rfl (Nat.le_of_ble_eq_true rfl) dL_law_523 (fun H locs hH => ?_)
    have hH := hH.perm LW_g.symm
    refine lv_aload_n hx hb dL_law_526 rfl (lv_at hl 2 rfl) ?_
    refine lv_aload_n hx hb dL_law_527 rfl (lv_at hl 0 rfl) ?_
    refine lv_iload hx hb dL_law_528 (lv_at hl 4 rfl) ?_
    refine lv_iconst (v := 1) hx hb dL_law_530 (by decide) ?_
    refine lv_iadd hx hb dL_law_531 ?_
    refine va_sld hx hb hX hbl hbA hH.2.2 h1 dL_law_532 ?_
    refine lv_if_eq (tgt := 540) hx hb dL_law_533 (by decide) (fun c9 => ?_) (fun c9 => absurd hb1 c9)
    refine lv_iconst (v := 0) hx hb dL_law_540 (by decide) ?_
    have hH := hH.perm LW_m
    refine cl_iV C0 hH hl.1 (As := [.int 0]) (rest := [.int r]) (mX5_power l D ca d _ v 0 hG) gL_law_X5_power rfl rfl rfl hd_X5_power ⟨Nat.le_of_ble_eq_true rfl, Nat.le_of_ble_eq_true rfl⟩ ⟨Nat.le_of_succ_le hroom.1, Nat.le_trans (Nat.le_add_right _ 6) hroom.2⟩ (vM_X5 C0 hH) rfl (Nat.le_of_ble_eq_true rfl) dL_law_541 (fun H locs hH => ?_)
    have hH := hH.perm LW_m.symm
    refine lv_icmp_eq (tgt := 1331) hx hb dL_law_544 (by decide) (fun c9 => ?_) (fun c9 => absurd rfl c9)
    refine W.widen (k := cells + 1) (n := slots + 6) (Nat.le_add_right _ _) (Nat.le_add_right _ _) ?_
    exact K ol v9 t9 u9 h9 S9 _ _ _ hs hH (lv_sub hl [0, 1, 2, 3, 4] rfl)
  · rw [show bz (xs (x4 + 1).toNatClampNeg) = 1 from if_neg hb1] at ok
    obtain ⟨r, t9, u9, h9, S9, v9, hP, hG, hs⟩ := ok
    refine lv_aload_n hx hb dL_law_508 rfl (lv_at hl 1 rfl) ?_
    refine lv_aload_n hx hb dL_law_509 rfl (lv_at hl 0 rfl) ?_
    refine lv_iload hx hb dL_law_510 (lv_at hl 4 rfl) ?_
    refine lv_iconst (v := 1) hx hb dL_law_512 (by decide) ?_
    refine lv_iadd hx hb dL_law_513 ?_
    refine va_sld hx hb hX hbl hbA hH.2.2 h1 dL_law_514 ?_
    refine lv_if_eq (tgt := 522) hx hb dL_law_515 (by decide) (fun c9 => absurd c9 hb1) (fun c9 => ?_)
    refine lv_iconst (v := 1) hx hb dL_law_518 (by decide) ?_
    refine lv_goto (tgt := 523) hx hb dL_law_519 (by decide) ?_
    have hH := hH.perm LW_g
    refine cl_iV C0 hH hl.1 (As := [.int 1]) (rest := []) (mX4_power l D ca a b h f (oW o ca ol ++ (mW d ca v ++ [])) t u hh S 1 hP) gL_law_X4_power rfl rfl rfl hd_X4_power ⟨Nat.le_of_ble_eq_true rfl, Nat.le_of_ble_eq_true rfl⟩ ⟨Nat.le_of_succ_le hroom.1, Nat.le_trans (Nat.le_add_right _ 6) hroom.2⟩ (vG_X4 C0 hH) rfl (Nat.le_of_ble_eq_true rfl) dL_law_523 (fun H locs hH => ?_)
    have hH := hH.perm LW_g.symm
    refine lv_aload_n hx hb dL_law_526 rfl (lv_at hl 2 rfl) ?_
    refine lv_aload_n hx hb dL_law_527 rfl (lv_at hl 0 rfl) ?_
    refine lv_iload hx hb dL_law_528 (lv_at hl 4 rfl) ?_
    refine lv_iconst (v := 1) hx hb dL_law_530 (by decide) ?_
    refine lv_iadd hx hb dL_law_531 ?_
    refine va_sld hx hb hX hbl hbA hH.2.2 h1 dL_law_532 ?_
    refine lv_if_eq (tgt := 540) hx hb dL_law_533 (by decide) (fun c9 => absurd c9 hb1) (fun c9 => ?_)
    refine lv_iconst (v := 1) hx hb dL_law_536 (by decide) ?_
    refine lv_goto (tgt := 541) hx hb dL_law_537 (by decide) ?_
    have hH := hH.perm LW_m
    refine cl_iV C0 hH hl.1 (As := [.int 1]) (rest := [.int r]) (mX5_power l D ca d _ v 1 hG) gL_law_X5_power rfl rfl rfl hd_X5_power ⟨Nat.le_of_ble_eq_true rfl, Nat.le_of_ble_eq_true rfl⟩ ⟨Nat.le_of_succ_le hroom.1, Nat.le_trans (Nat.le_add_right _ 6) hroom.2⟩ (vM_X5 C0 hH) rfl (Nat.le_of_ble_eq_true rfl) dL_law_541 (fun H locs hH => ?_)
    have hH := hH.perm LW_m.symm
    refine lv_icmp_eq (tgt := 1331) hx hb dL_law_544 (by decide) (fun c9 => ?_) (fun c9 => absurd rfl c9)
    refine W.widen (k := cells + 1) (n := slots + 6) (Nat.le_add_right _ _) (Nat.le_add_right _ _) ?_
    exact K ol v9 t9 u9 h9 S9 _ _ _ hs hH (lv_sub hl [0, 1, 2, 3, 4] rfl)
set_option maxHeartbeats 4000000 in
set_option maxRecDepth 100000 in
theorem law_7 {p : Program} {l : Launch} {e : Env} {s : State} {m : MethodId} {args : Array Value} {below : List Frame} {meth : Method} {c : Code} {H : Heap} {locs : List Loc} {cells slots : Nat} {Q : State → Prop} {ls : Array Slot} {D : va_G} {ca : Gp} {A : Nat → Prop} {b0 L o : Nat} {xs : Nat → Int32} {d a b h : Nat → Nat} {f : Nat → Nat → Nat} {ol : Nat → Int64} {v t u hh : Mem} {S : Nat → Mem} {x4 : Int32} {Sim : Mem → Mem → Mem → Mem → (Nat → Mem) → Prop} (C0 : Cx p s m args c cL_law 9 wsL_law RL D ca A) (hfl : l.stackTraces = false) (hX : va_X b0 L xs s s.heap) (hbl : b0 < s.heap.size) (hbA : ¬ A b0) (hH : HS D A s (LW o d a b h f ca ol v t u hh S) H locs) (hl : lv_has ls 9 [(0, .ref b0), (1, .ref (h 2)), (2, .ref (d 0)), (3, .ref o), (4, .int x4)]) (h1 : vp_in (x4 + 1) L) (h2 : vp_in (x4 + 2) L) (h3 : vp_in (x4 + 3) L) (hroom : cells + 1 ≤ room_1.cells ∧ slots + 6 ≤ room_1.slots) (ok : StepA Sim (pX4_moveStick t u hh S (bz (xs (x4 + 1).toNatClampNeg))) (tX4_moveStick t u hh S (bz (xs (x4 + 1).toNatClampNeg))) (pX5_moveStick v (bz (xs (x4 + 1).toNatClampNeg))) ["java/lang/IllegalStateException"] u hh S) (K : ∀ (ol : Nat → Int64) (v t u hh : Mem) (S : Nat → Mem) (H : Heap) (locs : List Loc) (ls : Array Slot), Sim v t u hh S → HS D A s (LW o d a b h f ca ol v t u hh S) H locs → lv_has ls 9 [(0, .ref b0), (1, .ref (h 2)), (2, .ref (d 0)), (3, .ref o), (4, .int x4)] → W p l e room_1 s m args below meth c H locs (cells + 1) (slots + 6) Q (F0 m 1331 ls [])) : W p l e room_1 s m args below meth c H locs cells slots Q (F0 m 549 ls []) := by
  obtain ⟨hx, hb, hml, hown, hts⟩ := id C0.1
  unfold StepA at ok
  by_cases hb1 : (xs (x4 + 1).toNatClampNeg) = 0
  · rw [show bz (xs (x4 + 1).toNatClampNeg) = 0 from if_pos hb1] at ok
    rcases ok with ⟨r, t9, u9, h9, S9, v9, hP, hG, hv0, hs⟩ | ⟨k, E, t9, r, v9, hk, hT, hG, hv0, hs⟩
    · refine lv_aload_n hx hb dL_law_549 rfl (lv_at hl 1 rfl) ?_
      refine lv_aload_n hx hb dL_law_550 rfl (lv_at hl 0 rfl) ?_
      refine lv_iload hx hb dL_law_551 (lv_at hl 4 rfl) ?_
      refine lv_iconst (v := 1) hx hb dL_law_553 (by decide) ?_
      refine lv_iadd hx hb dL_law_554 ?_
      refine va_sld hx hb hX hbl hbA hH.2.2 h1 dL_law_555 ?_
      refine lv_if_eq (tgt := 563) hx hb dL_law_556 (by decide) (fun c9 => ?_) (fun c9 => absurd hb1 c9)
      refine lv_iconst (v := 0) hx hb dL_law_563 (by decide) ?_
      refine lv_aload_n hx hb dL_law_564 rfl (lv_at hl 3 rfl) ?_
      have hH := hH.perm LW_h
      refine cl_j C0 hH hl.1 (As := [.ref (h 2), .int 0, .ref o]) (rest := []) (mL_moveStick l hfl D ca o a b h f (mW d ca v ++ []) ol t u hh S 0 hP) gL_law_L_moveStick rfl rfl rfl hd_L_moveStick ⟨Nat.le_of_ble_eq_true rfl, Nat.le_of_ble_eq_true rfl⟩ hroom rfl (Nat.le_of_ble_eq_true rfl) dL_law_565 (fun H locs hH => ?_)
      have hH := hH.perm LW_h.symm
      refine lv_istore (lv' := [(5, .int 0), (0, .ref b0), (1, .ref (h 2)), (2, .ref (d 0)), (3, .ref o), (4, .int x4)]) hx hb dL_law_568 hl (by decide) rfl (fun ls hl => ?_)
      refine lv_aload_n hx hb dL_law_570 rfl (lv_at hl 3 rfl) ?_
      refine lv_aload_n hx hb dL_law_571 rfl (lv_at hl 1 rfl) ?_
      refine lv_iload hx hb dL_law_572 (lv_at hl 5 rfl) ?_
      refine lv_iconst (v := 1) hx hb dL_law_574 (by decide) ?_
      refine lv_iadd hx hb dL_law_575 ?_
      refine va_sld hx hb hX hbl hbA hH.2.2 h1 dL_law_576 ?_
      refine lv_if_eq (tgt := 584) hx hb dL_law_577 (by decide) (fun c9 => ?_) (fun c9 => absurd hb1 c9)
      refine lv_iconst (v := 0) hx hb dL_law_584 (by decide) ?_
      have hH := hH.perm LW_m
      refine cl_iV C0 hH hl.1 (As := [.int 0]) (rest := []) (mX5_moveStick l D ca d _ v 0 hG) gL_law_X5_moveStick rfl rfl rfl hd_X5_moveStick ⟨Nat.le_of_ble_eq_true rfl, Nat.le_of_ble_eq_true rfl⟩ ⟨hroom.1, hroom.2⟩ (vM_X5 C0 hH) rfl (Nat.le_of_ble_eq_true rfl) dL_law_585 (fun H locs hH => ?_)
      have hH := hH.perm LW_m.symm
      refine lv_istore (lv' := [(6, .int r), (5, .int 0), (0, .ref b0), (1, .ref (h 2)), (2, .ref (d 0)), (3, .ref o), (4, .int x4)]) hx hb dL_law_588 hl (by decide) rfl (fun ls hl => ?_)
      refine lv_aload_n hx hb dL_law_590 rfl (lv_at hl 4 rfl) ?_
      have hH := hH.perm LW_m
      refine cl_iV C0 hH hl.1 (As := []) (rest := []) (mX5_thrown l D ca d _ v9 rfl) gL_law_X5_thrown rfl rfl rfl hd_X5_thrown ⟨Nat.le_of_ble_eq_true rfl, Nat.le_of_ble_eq_true rfl⟩ ⟨hroom.1, hroom.2⟩ (vM_X5 C0 hH) rfl (Nat.le_of_ble_eq_true rfl) dL_law_591 (fun H locs hH => ?_)
      have hH := hH.perm LW_m.symm
      refine lv_iload hx hb dL_law_594 (lv_at hl 1 rfl) ?_
      refine lv_icmp_eq (tgt := 601) hx hb dL_law_596 (by decide) (fun c9 => ?_) (fun c9 => absurd hv0 c9)
      refine lv_iload hx hb dL_law_601 (lv_at hl 1 rfl) ?_
      refine lv_if_ne (tgt := 618) hx hb dL_law_603 (by decide) (fun c9 => absurd rfl c9) (fun c9 => ?_)
      refine lv_aload_n hx hb dL_law_606 rfl (lv_at hl 5 rfl) ?_
      refine lv_iconst (v := 0) hx hb dL_law_607 (by decide) ?_
      refine lO C0 hH dL_law_608 ?_
      refine lv_iload hx hb dL_law_609 (lv_at hl 0 rfl) ?_
      refine lv_i2l (v := r.toInt64) hx hb dL_law_611 rfl ?_
      refine W.lcmp hx hb dL_law_612 ?_
      refine lv_if_eq (tgt := 618) hx hb dL_law_613 (by decide) (fun c9 => ?_) (fun c9 => absurd (lcmp_same _) c9)
      refine lv_goto (tgt := 1331) hx hb dL_law_618 (by decide) ?_
      exact K _ v9 t9 u9 h9 S9 _ _ _ hs hH (lv_sub hl [2, 3, 4, 5, 6] rfl)
    · rcases k with _ | k
      · obtain rfl := Option.some.inj hk
        rw [nI_k1] at hv0
        refine lv_aload_n hx hb dL_law_549 rfl (lv_at hl 1 rfl) ?_
        refine lv_aload_n hx hb dL_law_550 rfl (lv_at hl 0 rfl) ?_
        refine lv_iload hx hb dL_law_551 (lv_at hl 4 rfl) ?_
        refine lv_iconst (v := 1) hx hb dL_law_553 (by decide) ?_
        refine lv_iadd hx hb dL_law_554 ?_
        refine va_sld hx hb hX hbl hbA hH.2.2 h1 dL_law_555 ?_
        refine lv_if_eq (tgt := 563) hx hb dL_law_556 (by decide) (fun c9 => ?_) (fun c9 => absurd hb1 c9)
        refine lv_iconst (v := 0) hx hb dL_law_563 (by decide) ?_
        refine lv_aload_n hx hb dL_law_564 rfl (lv_at hl 3 rfl) ?_
        have hH := hH.perm LW_h
        refine cl_j C0 hH hl.1 (As := [.ref (h 2), .int 0, .ref o]) (rest := []) (eL_moveStick_1 l hfl D ca o a b h f (mW d ca v ++ []) ol t u hh S 0 hT) gL_law_L_moveStick rfl rfl rfl hd_L_moveStick ⟨Nat.le_of_ble_eq_true rfl, Nat.le_of_ble_eq_true rfl⟩ hroom rfl (Nat.le_of_ble_eq_true rfl) dL_law_565 (fun H locs hH => ?_)
        have hH := hH.perm LW_h.symm
        refine lv_istore (lv' := [(5, .int 1), (0, .ref b0), (1, .ref (h 2)), (2, .ref (d 0)), (3, .ref o), (4, .int x4)]) hx hb dL_law_568 hl (by decide) rfl (fun ls hl => ?_)
        refine lv_aload_n hx hb dL_law_570 rfl (lv_at hl 3 rfl) ?_
        refine lv_aload_n hx hb dL_law_571 rfl (lv_at hl 1 rfl) ?_
        refine lv_iload hx hb dL_law_572 (lv_at hl 5 rfl) ?_
        refine lv_iconst (v := 1) hx hb dL_law_574 (by decide) ?_
        refine lv_iadd hx hb dL_law_575 ?_
        refine va_sld hx hb hX hbl hbA hH.2.2 h1 dL_law_576 ?_
        refine lv_if_eq (tgt := 584) hx hb dL_law_577 (by decide) (fun c9 => ?_) (fun c9 => absurd hb1 c9)
        refine lv_iconst (v := 0) hx hb dL_law_584 (by decide) ?_
        have hH := hH.perm LW_m
        refine cl_iV C0 hH hl.1 (As := [.int 0]) (rest := []) (mX5_moveStick l D ca d _ v 0 hG) gL_law_X5_moveStick rfl rfl rfl hd_X5_moveStick ⟨Nat.le_of_ble_eq_true rfl, Nat.le_of_ble_eq_true rfl⟩ ⟨hroom.1, hroom.2⟩ (vM_X5 C0 hH) rfl (Nat.le_of_ble_eq_true rfl) dL_law_585 (fun H locs hH => ?_)
        have hH := hH.perm LW_m.symm
        refine lv_istore (lv' := [(6, .int r), (5, .int 1), (0, .ref b0), (1, .ref (h 2)), (2, .ref (d 0)), (3, .ref o), (4, .int x4)]) hx hb dL_law_588 hl (by decide) rfl (fun ls hl => ?_)
        refine lv_aload_n hx hb dL_law_590 rfl (lv_at hl 4 rfl) ?_
        have hH := hH.perm LW_m
        refine cl_iV C0 hH hl.1 (As := []) (rest := []) (mX5_thrown l D ca d _ v9 rfl) gL_law_X5_thrown rfl rfl rfl hd_X5_thrown ⟨Nat.le_of_ble_eq_true rfl, Nat.le_of_ble_eq_true rfl⟩ ⟨hroom.1, hroom.2⟩ (vM_X5 C0 hH) rfl (Nat.le_of_ble_eq_true rfl) dL_law_591 (fun H locs hH => ?_)
        have hH := hH.perm LW_m.symm
        refine lv_iload hx hb dL_law_594 (lv_at hl 1 rfl) ?_
        refine lv_icmp_eq (tgt := 601) hx hb dL_law_596 (by decide) (fun c9 => ?_) (fun c9 => absurd hv0 c9)
        refine lv_iload hx hb dL_law_601 (lv_at hl 1 rfl) ?_
        refine lv_if_ne (tgt := 618) hx hb dL_law_603 (by decide) (fun c9 => ?_) (fun c9 => absurd c9 (by decide))
        refine lv_goto (tgt := 1331) hx hb dL_law_618 (by decide) ?_
        exact K _ v9 t9 u hh S _ _ _ hs hH (lv_sub hl [2, 3, 4, 5, 6] rfl)
      · simp at hk
  · rw [show bz (xs (x4 + 1).toNatClampNeg) = 1 from if_neg hb1] at ok
    rcases ok with ⟨r, t9, u9, h9, S9, v9, hP, hG, hv0, hs⟩ | ⟨k, E, t9, r, v9, hk, hT, hG, hv0, hs⟩
    · refine lv_aload_n hx hb dL_law_549 rfl (lv_at hl 1 rfl) ?_
      refine lv_aload_n hx hb dL_law_550 rfl (lv_at hl 0 rfl) ?_
      refine lv_iload hx hb dL_law_551 (lv_at hl 4 rfl) ?_
      refine lv_iconst (v := 1) hx hb dL_law_553 (by decide) ?_
      refine lv_iadd hx hb dL_law_554 ?_
      refine va_sld hx hb hX hbl hbA hH.2.2 h1 dL_law_555 ?_
      refine lv_if_eq (tgt := 563) hx hb dL_law_556 (by decide) (fun c9 => absurd c9 hb1) (fun c9 => ?_)
      refine lv_iconst (v := 1) hx hb dL_law_559 (by decide) ?_
      refine lv_goto (tgt := 564) hx hb dL_law_560 (by decide) ?_
      refine lv_aload_n hx hb dL_law_564 rfl (lv_at hl 3 rfl) ?_
      have hH := hH.perm LW_h
      refine cl_j C0 hH hl.1 (As := [.ref (h 2), .int 1, .ref o]) (rest := []) (mL_moveStick l hfl D ca o a b h f (mW d ca v ++ []) ol t u hh S 1 hP) gL_law_L_moveStick rfl rfl rfl hd_L_moveStick ⟨Nat.le_of_ble_eq_true rfl, Nat.le_of_ble_eq_true rfl⟩ hroom rfl (Nat.le_of_ble_eq_true rfl) dL_law_565 (fun H locs hH => ?_)
      have hH := hH.perm LW_h.symm
      refine lv_istore (lv' := [(5, .int 0), (0, .ref b0), (1, .ref (h 2)), (2, .ref (d 0)), (3, .ref o), (4, .int x4)]) hx hb dL_law_568 hl (by decide) rfl (fun ls hl => ?_)
      refine lv_aload_n hx hb dL_law_570 rfl (lv_at hl 3 rfl) ?_
      refine lv_aload_n hx hb dL_law_571 rfl (lv_at hl 1 rfl) ?_
      refine lv_iload hx hb dL_law_572 (lv_at hl 5 rfl) ?_
      refine lv_iconst (v := 1) hx hb dL_law_574 (by decide) ?_
      refine lv_iadd hx hb dL_law_575 ?_
      refine va_sld hx hb hX hbl hbA hH.2.2 h1 dL_law_576 ?_
      refine lv_if_eq (tgt := 584) hx hb dL_law_577 (by decide) (fun c9 => absurd c9 hb1) (fun c9 => ?_)
      refine lv_iconst (v := 1) hx hb dL_law_580 (by decide) ?_
      refine lv_goto (tgt := 585) hx hb dL_law_581 (by decide) ?_
      have hH := hH.perm LW_m
      refine cl_iV C0 hH hl.1 (As := [.int 1]) (rest := []) (mX5_moveStick l D ca d _ v 1 hG) gL_law_X5_moveStick rfl rfl rfl hd_X5_moveStick ⟨Nat.le_of_ble_eq_true rfl, Nat.le_of_ble_eq_true rfl⟩ ⟨hroom.1, hroom.2⟩ (vM_X5 C0 hH) rfl (Nat.le_of_ble_eq_true rfl) dL_law_585 (fun H locs hH => ?_)
      have hH := hH.perm LW_m.symm
      refine lv_istore (lv' := [(6, .int r), (5, .int 0), (0, .ref b0), (1, .ref (h 2)), (2, .ref (d 0)), (3, .ref o), (4, .int x4)]) hx hb dL_law_588 hl (by decide) rfl (fun ls hl => ?_)
      refine lv_aload_n hx hb dL_law_590 rfl (lv_at hl 4 rfl) ?_
      have hH := hH.perm LW_m
      refine cl_iV C0 hH hl.1 (As := []) (rest := []) (mX5_thrown l D ca d _ v9 rfl) gL_law_X5_thrown rfl rfl rfl hd_X5_thrown ⟨Nat.le_of_ble_eq_true rfl, Nat.le_of_ble_eq_true rfl⟩ ⟨hroom.1, hroom.2⟩ (vM_X5 C0 hH) rfl (Nat.le_of_ble_eq_true rfl) dL_law_591 (fun H locs hH => ?_)
      have hH := hH.perm LW_m.symm
      refine lv_iload hx hb dL_law_594 (lv_at hl 1 rfl) ?_
      refine lv_icmp_eq (tgt := 601) hx hb dL_law_596 (by decide) (fun c9 => ?_) (fun c9 => absurd hv0 c9)
      refine lv_iload hx hb dL_law_601 (lv_at hl 1 rfl) ?_
      refine lv_if_ne (tgt := 618) hx hb dL_law_603 (by decide) (fun c9 => absurd rfl c9) (fun c9 => ?_)
      refine lv_aload_n hx hb dL_law_606 rfl (lv_at hl 5 rfl) ?_
      refine lv_iconst (v := 0) hx hb dL_law_607 (by decide) ?_
      refine lO C0 hH dL_law_608 ?_
      refine lv_iload hx hb dL_law_609 (lv_at hl 0 rfl) ?_
      refine lv_i2l (v := r.toInt64) hx hb dL_law_611 rfl ?_
      refine W.lcmp hx hb dL_law_612 ?_
      refine lv_if_eq (tgt := 618) hx hb dL_law_613 (by decide) (fun c9 => ?_) (fun c9 => absurd (lcmp_same _) c9)
      refine lv_goto (tgt := 1331) hx hb dL_law_618 (by decide) ?_
      exact K _ v9 t9 u9 h9 S9 _ _ _ hs hH (lv_sub hl [2, 3, 4, 5, 6] rfl)
    · rcases k with _ | k
      · obtain rfl := Option.some.inj hk
        rw [nI_k1] at hv0
        refine lv_aload_n hx hb dL_law_549 rfl (lv_at hl 1 rfl) ?_
        refine lv_aload_n hx hb dL_law_550 rfl (lv_at hl 0 rfl) ?_
        refine lv_iload hx hb dL_law_551 (lv_at hl 4 rfl) ?_
        refine lv_iconst (v := 1) hx hb dL_law_553 (by decide) ?_
        refine lv_iadd hx hb dL_law_554 ?_
        refine va_sld hx hb hX hbl hbA hH.2.2 h1 dL_law_555 ?_
        refine lv_if_eq (tgt := 563) hx hb dL_law_556 (by decide) (fun c9 => absurd c9 hb1) (fun c9 => ?_)
        refine lv_iconst (v := 1) hx hb dL_law_559 (by decide) ?_
        refine lv_goto (tgt := 564) hx hb dL_law_560 (by decide) ?_
        refine lv_aload_n hx hb dL_law_564 rfl (lv_at hl 3 rfl) ?_
        have hH := hH.perm LW_h
        refine cl_j C0 hH hl.1 (As := [.ref (h 2), .int 1, .ref o]) (rest := []) (eL_moveStick_1 l hfl D ca o a b h f (mW d ca v ++ []) ol t u hh S 1 hT) gL_law_L_moveStick rfl rfl rfl hd_L_moveStick ⟨Nat.le_of_ble_eq_true rfl, Nat.le_of_ble_eq_true rfl⟩ hroom rfl (Nat.le_of_ble_eq_true rfl) dL_law_565 (fun H locs hH => ?_)
        have hH := hH.perm LW_h.symm
        refine lv_istore (lv' := [(5, .int 1), (0, .ref b0), (1, .ref (h 2)), (2, .ref (d 0)), (3, .ref o), (4, .int x4)]) hx hb dL_law_568 hl (by decide) rfl (fun ls hl => ?_)
        refine lv_aload_n hx hb dL_law_570 rfl (lv_at hl 3 rfl) ?_
        refine lv_aload_n hx hb dL_law_571 rfl (lv_at hl 1 rfl) ?_
        refine lv_iload hx hb dL_law_572 (lv_at hl 5 rfl) ?_
        refine lv_iconst (v := 1) hx hb dL_law_574 (by decide) ?_
        refine lv_iadd hx hb dL_law_575 ?_
        refine va_sld hx hb hX hbl hbA hH.2.2 h1 dL_law_576 ?_
        refine lv_if_eq (tgt := 584) hx hb dL_law_577 (by decide) (fun c9 => absurd c9 hb1) (fun c9 => ?_)
        refine lv_iconst (v := 1) hx hb dL_law_580 (by decide) ?_
        refine lv_goto (tgt := 585) hx hb dL_law_581 (by decide) ?_
        have hH := hH.perm LW_m
        refine cl_iV C0 hH hl.1 (As := [.int 1]) (rest := []) (mX5_moveStick l D ca d _ v 1 hG) gL_law_X5_moveStick rfl rfl rfl hd_X5_moveStick ⟨Nat.le_of_ble_eq_true rfl, Nat.le_of_ble_eq_true rfl⟩ ⟨hroom.1, hroom.2⟩ (vM_X5 C0 hH) rfl (Nat.le_of_ble_eq_true rfl) dL_law_585 (fun H locs hH => ?_)
        have hH := hH.perm LW_m.symm
        refine lv_istore (lv' := [(6, .int r), (5, .int 1), (0, .ref b0), (1, .ref (h 2)), (2, .ref (d 0)), (3, .ref o), (4, .int x4)]) hx hb dL_law_588 hl (by decide) rfl (fun ls hl => ?_)
        refine lv_aload_n hx hb dL_law_590 rfl (lv_at hl 4 rfl) ?_
        have hH := hH.perm LW_m
        refine cl_iV C0 hH hl.1 (As := []) (rest := []) (mX5_thrown l D ca d _ v9 rfl) gL_law_X5_thrown rfl rfl rfl hd_X5_thrown ⟨Nat.le_of_ble_eq_true rfl, Nat.le_of_ble_eq_true rfl⟩ ⟨hroom.1, hroom.2⟩ (vM_X5 C0 hH) rfl (Nat.le_of_ble_eq_true rfl) dL_law_591 (fun H locs hH => ?_)
        have hH := hH.perm LW_m.symm
        refine lv_iload hx hb dL_law_594 (lv_at hl 1 rfl) ?_
        refine lv_icmp_eq (tgt := 601) hx hb dL_law_596 (by decide) (fun c9 => ?_) (fun c9 => absurd hv0 c9)
        refine lv_iload hx hb dL_law_601 (lv_at hl 1 rfl) ?_
        refine lv_if_ne (tgt := 618) hx hb dL_law_603 (by decide) (fun c9 => ?_) (fun c9 => absurd c9 (by decide))
        refine lv_goto (tgt := 1331) hx hb dL_law_618 (by decide) ?_
        exact K _ v9 t9 u hh S _ _ _ hs hH (lv_sub hl [2, 3, 4, 5, 6] rfl)
      · simp at hk
set_option maxHeartbeats 4000000 in
set_option maxRecDepth 100000 in
theorem law_8 {p : Program} {l : Launch} {e : Env} {s : State} {m : MethodId} {args : Array Value} {below : List Frame} {meth : Method} {c : Code} {H : Heap} {locs : List Loc} {cells slots : Nat} {Q : State → Prop} {ls : Array Slot} {D : va_G} {ca : Gp} {A : Nat → Prop} {b0 L o : Nat} {xs : Nat → Int32} {d a b h : Nat → Nat} {f : Nat → Nat → Nat} {ol : Nat → Int64} {v t u hh : Mem} {S : Nat → Mem} {x4 : Int32} {Sim : Mem → Mem → Mem → Mem → (Nat → Mem) → Prop} (C0 : Cx p s m args c cL_law 9 wsL_law RL D ca A) (hfl : l.stackTraces = false) (hX : va_X b0 L xs s s.heap) (hbl : b0 < s.heap.size) (hbA : ¬ A b0) (hH : HS D A s (LW o d a b h f ca ol v t u hh S) H locs) (hl : lv_has ls 9 [(0, .ref b0), (1, .ref (h 2)), (2, .ref (d 0)), (3, .ref o), (4, .int x4)]) (h1 : vp_in (x4 + 1) L) (h2 : vp_in (x4 + 2) L) (h3 : vp_in (x4 + 3) L) (hroom : cells + 1 ≤ room_1.cells ∧ slots + 6 ≤ room_1.slots) (ok : StepA Sim (pX4_appendText t u hh S (xs (x4 + 1).toNatClampNeg)) (tX4_appendText t u hh S (xs (x4 + 1).toNatClampNeg)) (pX5_appendText v (xs (x4 + 1).toNatClampNeg)) ["java/lang/IllegalArgumentException", "java/lang/IllegalStateException"] u hh S) (K : ∀ (ol : Nat → Int64) (v t u hh : Mem) (S : Nat → Mem) (H : Heap) (locs : List Loc) (ls : Array Slot), Sim v t u hh S → HS D A s (LW o d a b h f ca ol v t u hh S) H locs → lv_has ls 9 [(0, .ref b0), (1, .ref (h 2)), (2, .ref (d 0)), (3, .ref o), (4, .int x4)] → W p l e room_1 s m args below meth c H locs (cells + 1) (slots + 6) Q (F0 m 1331 ls [])) : W p l e room_1 s m args below meth c H locs cells slots Q (F0 m 621 ls []) := by
  obtain ⟨hx, hb, hml, hown, hts⟩ := id C0.1
  unfold StepA at ok
  rcases ok with ⟨r, t9, u9, h9, S9, v9, hP, hG, hv0, hs⟩ | ⟨k, E, t9, r, v9, hk, hT, hG, hv0, hs⟩
  · refine lv_aload_n hx hb dL_law_621 rfl (lv_at hl 1 rfl) ?_
    refine lv_aload_n hx hb dL_law_622 rfl (lv_at hl 0 rfl) ?_
    refine lv_iload hx hb dL_law_623 (lv_at hl 4 rfl) ?_
    refine lv_iconst (v := 1) hx hb dL_law_625 (by decide) ?_
    refine lv_iadd hx hb dL_law_626 ?_
    refine va_sld hx hb hX hbl hbA hH.2.2 h1 dL_law_627 ?_
    refine lv_aload_n hx hb dL_law_628 rfl (lv_at hl 3 rfl) ?_
    have hH := hH.perm LW_h
    refine cl_j C0 hH hl.1 (As := [.ref (h 2), .int (xs (x4 + 1).toNatClampNeg), .ref o]) (rest := []) (mL_appendText l hfl D ca o a b h f (mW d ca v ++ []) ol t u hh S (xs (x4 + 1).toNatClampNeg) hP) gL_law_L_appendText rfl rfl rfl hd_L_appendText ⟨Nat.le_of_ble_eq_true rfl, Nat.le_of_ble_eq_true rfl⟩ hroom rfl (Nat.le_of_ble_eq_true rfl) dL_law_629 (fun H locs hH => ?_)
    have hH := hH.perm LW_h.symm
    refine lv_istore (lv' := [(5, .int 0), (0, .ref b0), (1, .ref (h 2)), (2, .ref (d 0)), (3, .ref o), (4, .int x4)]) hx hb dL_law_632 hl (by decide) rfl (fun ls hl => ?_)
    refine lv_aload_n hx hb dL_law_634 rfl (lv_at hl 3 rfl) ?_
    refine lv_aload_n hx hb dL_law_635 rfl (lv_at hl 1 rfl) ?_
    refine lv_iload hx hb dL_law_636 (lv_at hl 5 rfl) ?_
    refine lv_iconst (v := 1) hx hb dL_law_638 (by decide) ?_
    refine lv_iadd hx hb dL_law_639 ?_
    refine va_sld hx hb hX hbl hbA hH.2.2 h1 dL_law_640 ?_
    have hH := hH.perm LW_m
    refine cl_iV C0 hH hl.1 (As := [.int (xs (x4 + 1).toNatClampNeg)]) (rest := []) (mX5_appendText l D ca d _ v (xs (x4 + 1).toNatClampNeg) hG) gL_law_X5_appendText rfl rfl rfl hd_X5_appendText ⟨Nat.le_of_ble_eq_true rfl, Nat.le_of_ble_eq_true rfl⟩ ⟨hroom.1, hroom.2⟩ (vM_X5 C0 hH) rfl (Nat.le_of_ble_eq_true rfl) dL_law_641 (fun H locs hH => ?_)
    have hH := hH.perm LW_m.symm
    refine lv_istore (lv' := [(6, .int r), (5, .int 0), (0, .ref b0), (1, .ref (h 2)), (2, .ref (d 0)), (3, .ref o), (4, .int x4)]) hx hb dL_law_644 hl (by decide) rfl (fun ls hl => ?_)
    refine lv_aload_n hx hb dL_law_646 rfl (lv_at hl 4 rfl) ?_
    have hH := hH.perm LW_m
    refine cl_iV C0 hH hl.1 (As := []) (rest := []) (mX5_thrown l D ca d _ v9 rfl) gL_law_X5_thrown rfl rfl rfl hd_X5_thrown ⟨Nat.le_of_ble_eq_true rfl, Nat.le_of_ble_eq_true rfl⟩ ⟨hroom.1, hroom.2⟩ (vM_X5 C0 hH) rfl (Nat.le_of_ble_eq_true rfl) dL_law_647 (fun H locs hH => ?_)
    have hH := hH.perm LW_m.symm
    refine lv_iload hx hb dL_law_650 (lv_at hl 1 rfl) ?_
    refine lv_icmp_eq (tgt := 657) hx hb dL_law_652 (by decide) (fun c9 => ?_) (fun c9 => absurd hv0 c9)
    refine lv_iload hx hb dL_law_657 (lv_at hl 1 rfl) ?_
    refine lv_if_ne (tgt := 674) hx hb dL_law_659 (by decide) (fun c9 => absurd rfl c9) (fun c9 => ?_)
    refine lv_aload_n hx hb dL_law_662 rfl (lv_at hl 5 rfl) ?_
    refine lv_iconst (v := 0) hx hb dL_law_663 (by decide) ?_
    refine lO C0 hH dL_law_664 ?_
    refine lv_iload hx hb dL_law_665 (lv_at hl 0 rfl) ?_
    refine lv_i2l (v := r.toInt64) hx hb dL_law_667 rfl ?_
    refine W.lcmp hx hb dL_law_668 ?_
    refine lv_if_eq (tgt := 674) hx hb dL_law_669 (by decide) (fun c9 => ?_) (fun c9 => absurd (lcmp_same _) c9)
    refine lv_goto (tgt := 1331) hx hb dL_law_674 (by decide) ?_
    exact K _ v9 t9 u9 h9 S9 _ _ _ hs hH (lv_sub hl [2, 3, 4, 5, 6] rfl)
  · rcases k with _ | _ | k
    · obtain rfl := Option.some.inj hk
      rw [nI_k1] at hv0
      refine lv_aload_n hx hb dL_law_621 rfl (lv_at hl 1 rfl) ?_
      refine lv_aload_n hx hb dL_law_622 rfl (lv_at hl 0 rfl) ?_
      refine lv_iload hx hb dL_law_623 (lv_at hl 4 rfl) ?_
      refine lv_iconst (v := 1) hx hb dL_law_625 (by decide) ?_
      refine lv_iadd hx hb dL_law_626 ?_
      refine va_sld hx hb hX hbl hbA hH.2.2 h1 dL_law_627 ?_
      refine lv_aload_n hx hb dL_law_628 rfl (lv_at hl 3 rfl) ?_
      have hH := hH.perm LW_h
      refine cl_j C0 hH hl.1 (As := [.ref (h 2), .int (xs (x4 + 1).toNatClampNeg), .ref o]) (rest := []) (eL_appendText_1 l hfl D ca o a b h f (mW d ca v ++ []) ol t u hh S (xs (x4 + 1).toNatClampNeg) hT) gL_law_L_appendText rfl rfl rfl hd_L_appendText ⟨Nat.le_of_ble_eq_true rfl, Nat.le_of_ble_eq_true rfl⟩ hroom rfl (Nat.le_of_ble_eq_true rfl) dL_law_629 (fun H locs hH => ?_)
      have hH := hH.perm LW_h.symm
      refine lv_istore (lv' := [(5, .int 1), (0, .ref b0), (1, .ref (h 2)), (2, .ref (d 0)), (3, .ref o), (4, .int x4)]) hx hb dL_law_632 hl (by decide) rfl (fun ls hl => ?_)
      refine lv_aload_n hx hb dL_law_634 rfl (lv_at hl 3 rfl) ?_
      refine lv_aload_n hx hb dL_law_635 rfl (lv_at hl 1 rfl) ?_
      refine lv_iload hx hb dL_law_636 (lv_at hl 5 rfl) ?_
      refine lv_iconst (v := 1) hx hb dL_law_638 (by decide) ?_
      refine lv_iadd hx hb dL_law_639 ?_
      refine va_sld hx hb hX hbl hbA hH.2.2 h1 dL_law_640 ?_
      have hH := hH.perm LW_m
      refine cl_iV C0 hH hl.1 (As := [.int (xs (x4 + 1).toNatClampNeg)]) (rest := []) (mX5_appendText l D ca d _ v (xs (x4 + 1).toNatClampNeg) hG) gL_law_X5_appendText rfl rfl rfl hd_X5_appendText ⟨Nat.le_of_ble_eq_true rfl, Nat.le_of_ble_eq_true rfl⟩ ⟨hroom.1, hroom.2⟩ (vM_X5 C0 hH) rfl (Nat.le_of_ble_eq_true rfl) dL_law_641 (fun H locs hH => ?_)
      have hH := hH.perm LW_m.symm
      refine lv_istore (lv' := [(6, .int r), (5, .int 1), (0, .ref b0), (1, .ref (h 2)), (2, .ref (d 0)), (3, .ref o), (4, .int x4)]) hx hb dL_law_644 hl (by decide) rfl (fun ls hl => ?_)
      refine lv_aload_n hx hb dL_law_646 rfl (lv_at hl 4 rfl) ?_
      have hH := hH.perm LW_m
      refine cl_iV C0 hH hl.1 (As := []) (rest := []) (mX5_thrown l D ca d _ v9 rfl) gL_law_X5_thrown rfl rfl rfl hd_X5_thrown ⟨Nat.le_of_ble_eq_true rfl, Nat.le_of_ble_eq_true rfl⟩ ⟨hroom.1, hroom.2⟩ (vM_X5 C0 hH) rfl (Nat.le_of_ble_eq_true rfl) dL_law_647 (fun H locs hH => ?_)
      have hH := hH.perm LW_m.symm
      refine lv_iload hx hb dL_law_650 (lv_at hl 1 rfl) ?_
      refine lv_icmp_eq (tgt := 657) hx hb dL_law_652 (by decide) (fun c9 => ?_) (fun c9 => absurd hv0 c9)
      refine lv_iload hx hb dL_law_657 (lv_at hl 1 rfl) ?_
      refine lv_if_ne (tgt := 674) hx hb dL_law_659 (by decide) (fun c9 => ?_) (fun c9 => absurd c9 (by decide))
      refine lv_goto (tgt := 1331) hx hb dL_law_674 (by decide) ?_
      exact K _ v9 t9 u hh S _ _ _ hs hH (lv_sub hl [2, 3, 4, 5, 6] rfl)
    · obtain rfl := Option.some.inj hk
      rw [nI_k2] at hv0
      refine lv_aload_n hx hb dL_law_621 rfl (lv_at hl 1 rfl) ?_
      refine lv_aload_n hx hb dL_law_622 rfl (lv_at hl 0 rfl) ?_
      refine lv_iload hx hb dL_law_623 (lv_at hl 4 rfl) ?_
      refine lv_iconst (v := 1) hx hb dL_law_625 (by decide) ?_
      refine lv_iadd hx hb dL_law_626 ?_
      refine va_sld hx hb hX hbl hbA hH.2.2 h1 dL_law_627 ?_
      refine lv_aload_n hx hb dL_law_628 rfl (lv_at hl 3 rfl) ?_
      have hH := hH.perm LW_h
      refine cl_j C0 hH hl.1 (As := [.ref (h 2), .int (xs (x4 + 1).toNatClampNeg), .ref o]) (rest := []) (eL_appendText_2 l hfl D ca o a b h f (mW d ca v ++ []) ol t u hh S (xs (x4 + 1).toNatClampNeg) hT) gL_law_L_appendText rfl rfl rfl hd_L_appendText ⟨Nat.le_of_ble_eq_true rfl, Nat.le_of_ble_eq_true rfl⟩ hroom rfl (Nat.le_of_ble_eq_true rfl) dL_law_629 (fun H locs hH => ?_)
      have hH := hH.perm LW_h.symm
      refine lv_istore (lv' := [(5, .int 2), (0, .ref b0), (1, .ref (h 2)), (2, .ref (d 0)), (3, .ref o), (4, .int x4)]) hx hb dL_law_632 hl (by decide) rfl (fun ls hl => ?_)
      refine lv_aload_n hx hb dL_law_634 rfl (lv_at hl 3 rfl) ?_
      refine lv_aload_n hx hb dL_law_635 rfl (lv_at hl 1 rfl) ?_
      refine lv_iload hx hb dL_law_636 (lv_at hl 5 rfl) ?_
      refine lv_iconst (v := 1) hx hb dL_law_638 (by decide) ?_
      refine lv_iadd hx hb dL_law_639 ?_
      refine va_sld hx hb hX hbl hbA hH.2.2 h1 dL_law_640 ?_
      have hH := hH.perm LW_m
      refine cl_iV C0 hH hl.1 (As := [.int (xs (x4 + 1).toNatClampNeg)]) (rest := []) (mX5_appendText l D ca d _ v (xs (x4 + 1).toNatClampNeg) hG) gL_law_X5_appendText rfl rfl rfl hd_X5_appendText ⟨Nat.le_of_ble_eq_true rfl, Nat.le_of_ble_eq_true rfl⟩ ⟨hroom.1, hroom.2⟩ (vM_X5 C0 hH) rfl (Nat.le_of_ble_eq_true rfl) dL_law_641 (fun H locs hH => ?_)
      have hH := hH.perm LW_m.symm
      refine lv_istore (lv' := [(6, .int r), (5, .int 2), (0, .ref b0), (1, .ref (h 2)), (2, .ref (d 0)), (3, .ref o), (4, .int x4)]) hx hb dL_law_644 hl (by decide) rfl (fun ls hl => ?_)
      refine lv_aload_n hx hb dL_law_646 rfl (lv_at hl 4 rfl) ?_
      have hH := hH.perm LW_m
      refine cl_iV C0 hH hl.1 (As := []) (rest := []) (mX5_thrown l D ca d _ v9 rfl) gL_law_X5_thrown rfl rfl rfl hd_X5_thrown ⟨Nat.le_of_ble_eq_true rfl, Nat.le_of_ble_eq_true rfl⟩ ⟨hroom.1, hroom.2⟩ (vM_X5 C0 hH) rfl (Nat.le_of_ble_eq_true rfl) dL_law_647 (fun H locs hH => ?_)
      have hH := hH.perm LW_m.symm
      refine lv_iload hx hb dL_law_650 (lv_at hl 1 rfl) ?_
      refine lv_icmp_eq (tgt := 657) hx hb dL_law_652 (by decide) (fun c9 => ?_) (fun c9 => absurd hv0 c9)
      refine lv_iload hx hb dL_law_657 (lv_at hl 1 rfl) ?_
      refine lv_if_ne (tgt := 674) hx hb dL_law_659 (by decide) (fun c9 => ?_) (fun c9 => absurd c9 (by decide))
      refine lv_goto (tgt := 1331) hx hb dL_law_674 (by decide) ?_
      exact K _ v9 t9 u hh S _ _ _ hs hH (lv_sub hl [2, 3, 4, 5, 6] rfl)
    · simp at hk
set_option maxHeartbeats 4000000 in
set_option maxRecDepth 100000 in
theorem law_9 {p : Program} {l : Launch} {e : Env} {s : State} {m : MethodId} {args : Array Value} {below : List Frame} {meth : Method} {c : Code} {H : Heap} {locs : List Loc} {cells slots : Nat} {Q : State → Prop} {ls : Array Slot} {D : va_G} {ca : Gp} {A : Nat → Prop} {b0 L o : Nat} {xs : Nat → Int32} {d a b h : Nat → Nat} {f : Nat → Nat → Nat} {ol : Nat → Int64} {v t u hh : Mem} {S : Nat → Mem} {x4 : Int32} {Sim : Mem → Mem → Mem → Mem → (Nat → Mem) → Prop} (C0 : Cx p s m args c cL_law 9 wsL_law RL D ca A) (hfl : l.stackTraces = false) (hX : va_X b0 L xs s s.heap) (hbl : b0 < s.heap.size) (hbA : ¬ A b0) (hH : HS D A s (LW o d a b h f ca ol v t u hh S) H locs) (hl : lv_has ls 9 [(0, .ref b0), (1, .ref (h 2)), (2, .ref (d 0)), (3, .ref o), (4, .int x4)]) (h1 : vp_in (x4 + 1) L) (h2 : vp_in (x4 + 2) L) (h3 : vp_in (x4 + 3) L) (hroom : cells + 1 ≤ room_1.cells ∧ slots + 6 ≤ room_1.slots) (ok : StepC Sim (pX4_clearText t u hh S ) (pX5_clearText v )) (K : ∀ (ol : Nat → Int64) (v t u hh : Mem) (S : Nat → Mem) (H : Heap) (locs : List Loc) (ls : Array Slot), Sim v t u hh S → HS D A s (LW o d a b h f ca ol v t u hh S) H locs → lv_has ls 9 [(0, .ref b0), (1, .ref (h 2)), (2, .ref (d 0)), (3, .ref o), (4, .int x4)] → W p l e room_1 s m args below meth c H locs (cells + 1) (slots + 6) Q (F0 m 1331 ls [])) : W p l e room_1 s m args below meth c H locs cells slots Q (F0 m 677 ls []) := by
  obtain ⟨hx, hb, hml, hown, hts⟩ := id C0.1
  unfold StepC at ok
  obtain ⟨r, t9, u9, h9, S9, v9, hP, hG, hs⟩ := ok
  refine lv_aload_n hx hb dL_law_677 rfl (lv_at hl 1 rfl) ?_
  have hH := hH.perm LW_g
  refine cl_iV C0 hH hl.1 (As := []) (rest := []) (mX4_clearText l D ca a b h f (oW o ca ol ++ (mW d ca v ++ [])) t u hh S  hP) gL_law_X4_clearText rfl rfl rfl hd_X4_clearText ⟨Nat.le_of_ble_eq_true rfl, Nat.le_of_ble_eq_true rfl⟩ ⟨Nat.le_of_succ_le hroom.1, Nat.le_trans (Nat.le_add_right _ 6) hroom.2⟩ (vG_X4 C0 hH) rfl (Nat.le_of_ble_eq_true rfl) dL_law_678 (fun H locs hH => ?_)
  have hH := hH.perm LW_g.symm
  refine lv_aload_n hx hb dL_law_681 rfl (lv_at hl 2 rfl) ?_
  have hH := hH.perm LW_m
  refine cl_iV C0 hH hl.1 (As := []) (rest := [.int r]) (mX5_clearText l D ca d _ v  hG) gL_law_X5_clearText rfl rfl rfl hd_X5_clearText ⟨Nat.le_of_ble_eq_true rfl, Nat.le_of_ble_eq_true rfl⟩ ⟨Nat.le_of_succ_le hroom.1, Nat.le_trans (Nat.le_add_right _ 6) hroom.2⟩ (vM_X5 C0 hH) rfl (Nat.le_of_ble_eq_true rfl) dL_law_682 (fun H locs hH => ?_)
  have hH := hH.perm LW_m.symm
  refine lv_icmp_eq (tgt := 1331) hx hb dL_law_685 (by decide) (fun c9 => ?_) (fun c9 => absurd rfl c9)
  refine W.widen (k := cells + 1) (n := slots + 6) (Nat.le_add_right _ _) (Nat.le_add_right _ _) ?_
  exact K ol v9 t9 u9 h9 S9 _ _ _ hs hH (lv_sub hl [0, 1, 2, 3, 4] rfl)
set_option maxHeartbeats 4000000 in
set_option maxRecDepth 100000 in
theorem law_10 {p : Program} {l : Launch} {e : Env} {s : State} {m : MethodId} {args : Array Value} {below : List Frame} {meth : Method} {c : Code} {H : Heap} {locs : List Loc} {cells slots : Nat} {Q : State → Prop} {ls : Array Slot} {D : va_G} {ca : Gp} {A : Nat → Prop} {b0 L o : Nat} {xs : Nat → Int32} {d a b h : Nat → Nat} {f : Nat → Nat → Nat} {ol : Nat → Int64} {v t u hh : Mem} {S : Nat → Mem} {x4 : Int32} {Sim : Mem → Mem → Mem → Mem → (Nat → Mem) → Prop} (C0 : Cx p s m args c cL_law 9 wsL_law RL D ca A) (hfl : l.stackTraces = false) (hX : va_X b0 L xs s s.heap) (hbl : b0 < s.heap.size) (hbA : ¬ A b0) (hH : HS D A s (LW o d a b h f ca ol v t u hh S) H locs) (hl : lv_has ls 9 [(0, .ref b0), (1, .ref (h 2)), (2, .ref (d 0)), (3, .ref o), (4, .int x4)]) (h1 : vp_in (x4 + 1) L) (h2 : vp_in (x4 + 2) L) (h3 : vp_in (x4 + 3) L) (hroom : cells + 1 ≤ room_1.cells ∧ slots + 6 ≤ room_1.slots) (ok : StepC Sim (pX4_errorPosition t u hh S ) (pX5_errorPosition v )) (K : ∀ (ol : Nat → Int64) (v t u hh : Mem) (S : Nat → Mem) (H : Heap) (locs : List Loc) (ls : Array Slot), Sim v t u hh S → HS D A s (LW o d a b h f ca ol v t u hh S) H locs → lv_has ls 9 [(0, .ref b0), (1, .ref (h 2)), (2, .ref (d 0)), (3, .ref o), (4, .int x4)] → W p l e room_1 s m args below meth c H locs (cells + 1) (slots + 6) Q (F0 m 1331 ls [])) : W p l e room_1 s m args below meth c H locs cells slots Q (F0 m 690 ls []) := by
  obtain ⟨hx, hb, hml, hown, hts⟩ := id C0.1
  unfold StepC at ok
  obtain ⟨r, t9, u9, h9, S9, v9, hP, hG, hs⟩ := ok
  refine lv_aload_n hx hb dL_law_690 rfl (lv_at hl 1 rfl) ?_
  have hH := hH.perm LW_g
  refine cl_iV C0 hH hl.1 (As := []) (rest := []) (mX4_errorPosition l D ca a b h f (oW o ca ol ++ (mW d ca v ++ [])) t u hh S  hP) gL_law_X4_errorPosition rfl rfl rfl hd_X4_errorPosition ⟨Nat.le_of_ble_eq_true rfl, Nat.le_of_ble_eq_true rfl⟩ ⟨Nat.le_of_succ_le hroom.1, Nat.le_trans (Nat.le_add_right _ 6) hroom.2⟩ (vG_X4 C0 hH) rfl (Nat.le_of_ble_eq_true rfl) dL_law_691 (fun H locs hH => ?_)
  have hH := hH.perm LW_g.symm
  refine lv_aload_n hx hb dL_law_694 rfl (lv_at hl 2 rfl) ?_
  have hH := hH.perm LW_m
  refine cl_iV C0 hH hl.1 (As := []) (rest := [.int r]) (mX5_errorPosition l D ca d _ v  hG) gL_law_X5_errorPosition rfl rfl rfl hd_X5_errorPosition ⟨Nat.le_of_ble_eq_true rfl, Nat.le_of_ble_eq_true rfl⟩ ⟨Nat.le_of_succ_le hroom.1, Nat.le_trans (Nat.le_add_right _ 6) hroom.2⟩ (vM_X5 C0 hH) rfl (Nat.le_of_ble_eq_true rfl) dL_law_695 (fun H locs hH => ?_)
  have hH := hH.perm LW_m.symm
  refine lv_icmp_eq (tgt := 1331) hx hb dL_law_698 (by decide) (fun c9 => ?_) (fun c9 => absurd rfl c9)
  refine W.widen (k := cells + 1) (n := slots + 6) (Nat.le_add_right _ _) (Nat.le_add_right _ _) ?_
  exact K ol v9 t9 u9 h9 S9 _ _ _ hs hH (lv_sub hl [0, 1, 2, 3, 4] rfl)
set_option maxHeartbeats 4000000 in
set_option maxRecDepth 100000 in
theorem law_11 {p : Program} {l : Launch} {e : Env} {s : State} {m : MethodId} {args : Array Value} {below : List Frame} {meth : Method} {c : Code} {H : Heap} {locs : List Loc} {cells slots : Nat} {Q : State → Prop} {ls : Array Slot} {D : va_G} {ca : Gp} {A : Nat → Prop} {b0 L o : Nat} {xs : Nat → Int32} {d a b h : Nat → Nat} {f : Nat → Nat → Nat} {ol : Nat → Int64} {v t u hh : Mem} {S : Nat → Mem} {x4 : Int32} {Sim : Mem → Mem → Mem → Mem → (Nat → Mem) → Prop} (C0 : Cx p s m args c cL_law 9 wsL_law RL D ca A) (hfl : l.stackTraces = false) (hX : va_X b0 L xs s s.heap) (hbl : b0 < s.heap.size) (hbA : ¬ A b0) (hH : HS D A s (LW o d a b h f ca ol v t u hh S) H locs) (hl : lv_has ls 9 [(0, .ref b0), (1, .ref (h 2)), (2, .ref (d 0)), (3, .ref o), (4, .int x4)]) (h1 : vp_in (x4 + 1) L) (h2 : vp_in (x4 + 2) L) (h3 : vp_in (x4 + 3) L) (hroom : cells + 1 ≤ room_1.cells ∧ slots + 6 ≤ room_1.slots) (ok : StepA Sim (pX4_runText t u hh S ) (tX4_runText t u hh S ) (pX5_runText v ) ["java/lang/IllegalStateException"] u hh S) (K : ∀ (ol : Nat → Int64) (v t u hh : Mem) (S : Nat → Mem) (H : Heap) (locs : List Loc) (ls : Array Slot), Sim v t u hh S → HS D A s (LW o d a b h f ca ol v t u hh S) H locs → lv_has ls 9 [(0, .ref b0), (1, .ref (h 2)), (2, .ref (d 0)), (3, .ref o), (4, .int x4)] → W p l e room_1 s m args below meth c H locs (cells + 1) (slots + 6) Q (F0 m 1331 ls [])) : W p l e room_1 s m args below meth c H locs cells slots Q (F0 m 703 ls []) := by
  obtain ⟨hx, hb, hml, hown, hts⟩ := id C0.1
  unfold StepA at ok
  rcases ok with ⟨r, t9, u9, h9, S9, v9, hP, hG, hv0, hs⟩ | ⟨k, E, t9, r, v9, hk, hT, hG, hv0, hs⟩
  · refine lv_aload_n hx hb dL_law_703 rfl (lv_at hl 1 rfl) ?_
    refine lv_aload_n hx hb dL_law_704 rfl (lv_at hl 3 rfl) ?_
    have hH := hH.perm LW_h
    refine cl_j C0 hH hl.1 (As := [.ref (h 2), .ref o]) (rest := []) (mL_runText l hfl D ca o a b h f (mW d ca v ++ []) ol t u hh S  hP) gL_law_L_runText rfl rfl rfl hd_L_runText ⟨Nat.le_of_ble_eq_true rfl, Nat.le_of_ble_eq_true rfl⟩ hroom rfl (Nat.le_of_ble_eq_true rfl) dL_law_705 (fun H locs hH => ?_)
    have hH := hH.perm LW_h.symm
    refine lv_istore (lv' := [(5, .int 0), (0, .ref b0), (1, .ref (h 2)), (2, .ref (d 0)), (3, .ref o), (4, .int x4)]) hx hb dL_law_708 hl (by decide) rfl (fun ls hl => ?_)
    refine lv_aload_n hx hb dL_law_710 rfl (lv_at hl 3 rfl) ?_
    have hH := hH.perm LW_m
    refine cl_iV C0 hH hl.1 (As := []) (rest := []) (mX5_runText l D ca d _ v  hG) gL_law_X5_runText rfl rfl rfl hd_X5_runText ⟨Nat.le_of_ble_eq_true rfl, Nat.le_of_ble_eq_true rfl⟩ ⟨hroom.1, hroom.2⟩ (vM_X5 C0 hH) rfl (Nat.le_of_ble_eq_true rfl) dL_law_711 (fun H locs hH => ?_)
    have hH := hH.perm LW_m.symm
    refine lv_istore (lv' := [(6, .int r), (5, .int 0), (0, .ref b0), (1, .ref (h 2)), (2, .ref (d 0)), (3, .ref o), (4, .int x4)]) hx hb dL_law_714 hl (by decide) rfl (fun ls hl => ?_)
    refine lv_aload_n hx hb dL_law_716 rfl (lv_at hl 4 rfl) ?_
    have hH := hH.perm LW_m
    refine cl_iV C0 hH hl.1 (As := []) (rest := []) (mX5_thrown l D ca d _ v9 rfl) gL_law_X5_thrown rfl rfl rfl hd_X5_thrown ⟨Nat.le_of_ble_eq_true rfl, Nat.le_of_ble_eq_true rfl⟩ ⟨hroom.1, hroom.2⟩ (vM_X5 C0 hH) rfl (Nat.le_of_ble_eq_true rfl) dL_law_717 (fun H locs hH => ?_)
    have hH := hH.perm LW_m.symm
    refine lv_iload hx hb dL_law_720 (lv_at hl 1 rfl) ?_
    refine lv_icmp_eq (tgt := 727) hx hb dL_law_722 (by decide) (fun c9 => ?_) (fun c9 => absurd hv0 c9)
    refine lv_iload hx hb dL_law_727 (lv_at hl 1 rfl) ?_
    refine lv_if_ne (tgt := 744) hx hb dL_law_729 (by decide) (fun c9 => absurd rfl c9) (fun c9 => ?_)
    refine lv_aload_n hx hb dL_law_732 rfl (lv_at hl 5 rfl) ?_
    refine lv_iconst (v := 0) hx hb dL_law_733 (by decide) ?_
    refine lO C0 hH dL_law_734 ?_
    refine lv_iload hx hb dL_law_735 (lv_at hl 0 rfl) ?_
    refine lv_i2l (v := r.toInt64) hx hb dL_law_737 rfl ?_
    refine W.lcmp hx hb dL_law_738 ?_
    refine lv_if_eq (tgt := 744) hx hb dL_law_739 (by decide) (fun c9 => ?_) (fun c9 => absurd (lcmp_same _) c9)
    refine lv_goto (tgt := 1331) hx hb dL_law_744 (by decide) ?_
    exact K _ v9 t9 u9 h9 S9 _ _ _ hs hH (lv_sub hl [2, 3, 4, 5, 6] rfl)
  · rcases k with _ | k
    · obtain rfl := Option.some.inj hk
      rw [nI_k1] at hv0
      refine lv_aload_n hx hb dL_law_703 rfl (lv_at hl 1 rfl) ?_
      refine lv_aload_n hx hb dL_law_704 rfl (lv_at hl 3 rfl) ?_
      have hH := hH.perm LW_h
      refine cl_j C0 hH hl.1 (As := [.ref (h 2), .ref o]) (rest := []) (eL_runText_1 l hfl D ca o a b h f (mW d ca v ++ []) ol t u hh S  hT) gL_law_L_runText rfl rfl rfl hd_L_runText ⟨Nat.le_of_ble_eq_true rfl, Nat.le_of_ble_eq_true rfl⟩ hroom rfl (Nat.le_of_ble_eq_true rfl) dL_law_705 (fun H locs hH => ?_)
      have hH := hH.perm LW_h.symm
      refine lv_istore (lv' := [(5, .int 1), (0, .ref b0), (1, .ref (h 2)), (2, .ref (d 0)), (3, .ref o), (4, .int x4)]) hx hb dL_law_708 hl (by decide) rfl (fun ls hl => ?_)
      refine lv_aload_n hx hb dL_law_710 rfl (lv_at hl 3 rfl) ?_
      have hH := hH.perm LW_m
      refine cl_iV C0 hH hl.1 (As := []) (rest := []) (mX5_runText l D ca d _ v  hG) gL_law_X5_runText rfl rfl rfl hd_X5_runText ⟨Nat.le_of_ble_eq_true rfl, Nat.le_of_ble_eq_true rfl⟩ ⟨hroom.1, hroom.2⟩ (vM_X5 C0 hH) rfl (Nat.le_of_ble_eq_true rfl) dL_law_711 (fun H locs hH => ?_)
      have hH := hH.perm LW_m.symm
      refine lv_istore (lv' := [(6, .int r), (5, .int 1), (0, .ref b0), (1, .ref (h 2)), (2, .ref (d 0)), (3, .ref o), (4, .int x4)]) hx hb dL_law_714 hl (by decide) rfl (fun ls hl => ?_)
      refine lv_aload_n hx hb dL_law_716 rfl (lv_at hl 4 rfl) ?_
      have hH := hH.perm LW_m
      refine cl_iV C0 hH hl.1 (As := []) (rest := []) (mX5_thrown l D ca d _ v9 rfl) gL_law_X5_thrown rfl rfl rfl hd_X5_thrown ⟨Nat.le_of_ble_eq_true rfl, Nat.le_of_ble_eq_true rfl⟩ ⟨hroom.1, hroom.2⟩ (vM_X5 C0 hH) rfl (Nat.le_of_ble_eq_true rfl) dL_law_717 (fun H locs hH => ?_)
      have hH := hH.perm LW_m.symm
      refine lv_iload hx hb dL_law_720 (lv_at hl 1 rfl) ?_
      refine lv_icmp_eq (tgt := 727) hx hb dL_law_722 (by decide) (fun c9 => ?_) (fun c9 => absurd hv0 c9)
      refine lv_iload hx hb dL_law_727 (lv_at hl 1 rfl) ?_
      refine lv_if_ne (tgt := 744) hx hb dL_law_729 (by decide) (fun c9 => ?_) (fun c9 => absurd c9 (by decide))
      refine lv_goto (tgt := 1331) hx hb dL_law_744 (by decide) ?_
      exact K _ v9 t9 u hh S _ _ _ hs hH (lv_sub hl [2, 3, 4, 5, 6] rfl)
    · simp at hk
set_option maxHeartbeats 4000000 in
set_option maxRecDepth 100000 in
theorem law_12 {p : Program} {l : Launch} {e : Env} {s : State} {m : MethodId} {args : Array Value} {below : List Frame} {meth : Method} {c : Code} {H : Heap} {locs : List Loc} {cells slots : Nat} {Q : State → Prop} {ls : Array Slot} {D : va_G} {ca : Gp} {A : Nat → Prop} {b0 L o : Nat} {xs : Nat → Int32} {d a b h : Nat → Nat} {f : Nat → Nat → Nat} {ol : Nat → Int64} {v t u hh : Mem} {S : Nat → Mem} {x4 : Int32} {Sim : Mem → Mem → Mem → Mem → (Nat → Mem) → Prop} (C0 : Cx p s m args c cL_law 9 wsL_law RL D ca A) (hfl : l.stackTraces = false) (hX : va_X b0 L xs s s.heap) (hbl : b0 < s.heap.size) (hbA : ¬ A b0) (hH : HS D A s (LW o d a b h f ca ol v t u hh S) H locs) (hl : lv_has ls 9 [(0, .ref b0), (1, .ref (h 2)), (2, .ref (d 0)), (3, .ref o), (4, .int x4)]) (h1 : vp_in (x4 + 1) L) (h2 : vp_in (x4 + 2) L) (h3 : vp_in (x4 + 3) L) (hroom : cells + 1 ≤ room_1.cells ∧ slots + 6 ≤ room_1.slots) (ok : StepA Sim (pX4_undo t u hh S ) (tX4_undo t u hh S ) (pX5_undo v ) ["java/lang/IllegalStateException"] u hh S) (K : ∀ (ol : Nat → Int64) (v t u hh : Mem) (S : Nat → Mem) (H : Heap) (locs : List Loc) (ls : Array Slot), Sim v t u hh S → HS D A s (LW o d a b h f ca ol v t u hh S) H locs → lv_has ls 9 [(0, .ref b0), (1, .ref (h 2)), (2, .ref (d 0)), (3, .ref o), (4, .int x4)] → W p l e room_1 s m args below meth c H locs (cells + 1) (slots + 6) Q (F0 m 1331 ls [])) : W p l e room_1 s m args below meth c H locs cells slots Q (F0 m 747 ls []) := by
  obtain ⟨hx, hb, hml, hown, hts⟩ := id C0.1
  unfold StepA at ok
  rcases ok with ⟨r, t9, u9, h9, S9, v9, hP, hG, hv0, hs⟩ | ⟨k, E, t9, r, v9, hk, hT, hG, hv0, hs⟩
  · refine lv_aload_n hx hb dL_law_747 rfl (lv_at hl 1 rfl) ?_
    refine lv_aload_n hx hb dL_law_748 rfl (lv_at hl 3 rfl) ?_
    have hH := hH.perm LW_h
    refine cl_j C0 hH hl.1 (As := [.ref (h 2), .ref o]) (rest := []) (mL_undo l hfl D ca o a b h f (mW d ca v ++ []) ol t u hh S  hP) gL_law_L_undo rfl rfl rfl hd_L_undo ⟨Nat.le_of_ble_eq_true rfl, Nat.le_of_ble_eq_true rfl⟩ hroom rfl (Nat.le_of_ble_eq_true rfl) dL_law_749 (fun H locs hH => ?_)
    have hH := hH.perm LW_h.symm
    refine lv_istore (lv' := [(5, .int 0), (0, .ref b0), (1, .ref (h 2)), (2, .ref (d 0)), (3, .ref o), (4, .int x4)]) hx hb dL_law_752 hl (by decide) rfl (fun ls hl => ?_)
    refine lv_aload_n hx hb dL_law_754 rfl (lv_at hl 3 rfl) ?_
    have hH := hH.perm LW_m
    refine cl_iV C0 hH hl.1 (As := []) (rest := []) (mX5_undo l D ca d _ v  hG) gL_law_X5_undo rfl rfl rfl hd_X5_undo ⟨Nat.le_of_ble_eq_true rfl, Nat.le_of_ble_eq_true rfl⟩ ⟨hroom.1, hroom.2⟩ (vM_X5 C0 hH) rfl (Nat.le_of_ble_eq_true rfl) dL_law_755 (fun H locs hH => ?_)
    have hH := hH.perm LW_m.symm
    refine lv_istore (lv' := [(6, .int r), (5, .int 0), (0, .ref b0), (1, .ref (h 2)), (2, .ref (d 0)), (3, .ref o), (4, .int x4)]) hx hb dL_law_758 hl (by decide) rfl (fun ls hl => ?_)
    refine lv_aload_n hx hb dL_law_760 rfl (lv_at hl 4 rfl) ?_
    have hH := hH.perm LW_m
    refine cl_iV C0 hH hl.1 (As := []) (rest := []) (mX5_thrown l D ca d _ v9 rfl) gL_law_X5_thrown rfl rfl rfl hd_X5_thrown ⟨Nat.le_of_ble_eq_true rfl, Nat.le_of_ble_eq_true rfl⟩ ⟨hroom.1, hroom.2⟩ (vM_X5 C0 hH) rfl (Nat.le_of_ble_eq_true rfl) dL_law_761 (fun H locs hH => ?_)
    have hH := hH.perm LW_m.symm
    refine lv_iload hx hb dL_law_764 (lv_at hl 1 rfl) ?_
    refine lv_icmp_eq (tgt := 771) hx hb dL_law_766 (by decide) (fun c9 => ?_) (fun c9 => absurd hv0 c9)
    refine lv_iload hx hb dL_law_771 (lv_at hl 1 rfl) ?_
    refine lv_if_ne (tgt := 788) hx hb dL_law_773 (by decide) (fun c9 => absurd rfl c9) (fun c9 => ?_)
    refine lv_aload_n hx hb dL_law_776 rfl (lv_at hl 5 rfl) ?_
    refine lv_iconst (v := 0) hx hb dL_law_777 (by decide) ?_
    refine lO C0 hH dL_law_778 ?_
    refine lv_iload hx hb dL_law_779 (lv_at hl 0 rfl) ?_
    refine lv_i2l (v := r.toInt64) hx hb dL_law_781 rfl ?_
    refine W.lcmp hx hb dL_law_782 ?_
    refine lv_if_eq (tgt := 788) hx hb dL_law_783 (by decide) (fun c9 => ?_) (fun c9 => absurd (lcmp_same _) c9)
    refine lv_goto (tgt := 1331) hx hb dL_law_788 (by decide) ?_
    exact K _ v9 t9 u9 h9 S9 _ _ _ hs hH (lv_sub hl [2, 3, 4, 5, 6] rfl)
  · rcases k with _ | k
    · obtain rfl := Option.some.inj hk
      rw [nI_k1] at hv0
      refine lv_aload_n hx hb dL_law_747 rfl (lv_at hl 1 rfl) ?_
      refine lv_aload_n hx hb dL_law_748 rfl (lv_at hl 3 rfl) ?_
      have hH := hH.perm LW_h
      refine cl_j C0 hH hl.1 (As := [.ref (h 2), .ref o]) (rest := []) (eL_undo_1 l hfl D ca o a b h f (mW d ca v ++ []) ol t u hh S  hT) gL_law_L_undo rfl rfl rfl hd_L_undo ⟨Nat.le_of_ble_eq_true rfl, Nat.le_of_ble_eq_true rfl⟩ hroom rfl (Nat.le_of_ble_eq_true rfl) dL_law_749 (fun H locs hH => ?_)
      have hH := hH.perm LW_h.symm
      refine lv_istore (lv' := [(5, .int 1), (0, .ref b0), (1, .ref (h 2)), (2, .ref (d 0)), (3, .ref o), (4, .int x4)]) hx hb dL_law_752 hl (by decide) rfl (fun ls hl => ?_)
      refine lv_aload_n hx hb dL_law_754 rfl (lv_at hl 3 rfl) ?_
      have hH := hH.perm LW_m
      refine cl_iV C0 hH hl.1 (As := []) (rest := []) (mX5_undo l D ca d _ v  hG) gL_law_X5_undo rfl rfl rfl hd_X5_undo ⟨Nat.le_of_ble_eq_true rfl, Nat.le_of_ble_eq_true rfl⟩ ⟨hroom.1, hroom.2⟩ (vM_X5 C0 hH) rfl (Nat.le_of_ble_eq_true rfl) dL_law_755 (fun H locs hH => ?_)
      have hH := hH.perm LW_m.symm
      refine lv_istore (lv' := [(6, .int r), (5, .int 1), (0, .ref b0), (1, .ref (h 2)), (2, .ref (d 0)), (3, .ref o), (4, .int x4)]) hx hb dL_law_758 hl (by decide) rfl (fun ls hl => ?_)
      refine lv_aload_n hx hb dL_law_760 rfl (lv_at hl 4 rfl) ?_
      have hH := hH.perm LW_m
      refine cl_iV C0 hH hl.1 (As := []) (rest := []) (mX5_thrown l D ca d _ v9 rfl) gL_law_X5_thrown rfl rfl rfl hd_X5_thrown ⟨Nat.le_of_ble_eq_true rfl, Nat.le_of_ble_eq_true rfl⟩ ⟨hroom.1, hroom.2⟩ (vM_X5 C0 hH) rfl (Nat.le_of_ble_eq_true rfl) dL_law_761 (fun H locs hH => ?_)
      have hH := hH.perm LW_m.symm
      refine lv_iload hx hb dL_law_764 (lv_at hl 1 rfl) ?_
      refine lv_icmp_eq (tgt := 771) hx hb dL_law_766 (by decide) (fun c9 => ?_) (fun c9 => absurd hv0 c9)
      refine lv_iload hx hb dL_law_771 (lv_at hl 1 rfl) ?_
      refine lv_if_ne (tgt := 788) hx hb dL_law_773 (by decide) (fun c9 => ?_) (fun c9 => absurd c9 (by decide))
      refine lv_goto (tgt := 1331) hx hb dL_law_788 (by decide) ?_
      exact K _ v9 t9 u hh S _ _ _ hs hH (lv_sub hl [2, 3, 4, 5, 6] rfl)
    · simp at hk
set_option maxHeartbeats 4000000 in
set_option maxRecDepth 100000 in
theorem law_13 {p : Program} {l : Launch} {e : Env} {s : State} {m : MethodId} {args : Array Value} {below : List Frame} {meth : Method} {c : Code} {H : Heap} {locs : List Loc} {cells slots : Nat} {Q : State → Prop} {ls : Array Slot} {D : va_G} {ca : Gp} {A : Nat → Prop} {b0 L o : Nat} {xs : Nat → Int32} {d a b h : Nat → Nat} {f : Nat → Nat → Nat} {ol : Nat → Int64} {v t u hh : Mem} {S : Nat → Mem} {x4 : Int32} {Sim : Mem → Mem → Mem → Mem → (Nat → Mem) → Prop} (C0 : Cx p s m args c cL_law 9 wsL_law RL D ca A) (hfl : l.stackTraces = false) (hX : va_X b0 L xs s s.heap) (hbl : b0 < s.heap.size) (hbA : ¬ A b0) (hH : HS D A s (LW o d a b h f ca ol v t u hh S) H locs) (hl : lv_has ls 9 [(0, .ref b0), (1, .ref (h 2)), (2, .ref (d 0)), (3, .ref o), (4, .int x4)]) (h1 : vp_in (x4 + 1) L) (h2 : vp_in (x4 + 2) L) (h3 : vp_in (x4 + 3) L) (hroom : cells + 1 ≤ room_1.cells ∧ slots + 6 ≤ room_1.slots) (ok : StepD Sim (pX4_isOn t u hh S ) (pX5_isOn v ) t u hh S) (K : ∀ (ol : Nat → Int64) (v t u hh : Mem) (S : Nat → Mem) (H : Heap) (locs : List Loc) (ls : Array Slot), Sim v t u hh S → HS D A s (LW o d a b h f ca ol v t u hh S) H locs → lv_has ls 9 [(0, .ref b0), (1, .ref (h 2)), (2, .ref (d 0)), (3, .ref o), (4, .int x4)] → W p l e room_1 s m args below meth c H locs (cells + 1) (slots + 6) Q (F0 m 1331 ls [])) : W p l e room_1 s m args below meth c H locs cells slots Q (F0 m 791 ls []) := by
  obtain ⟨hx, hb, hml, hown, hts⟩ := id C0.1
  unfold StepD at ok
  obtain ⟨r, v9, hP, hG, hs⟩ := ok
  refine lv_aload_n hx hb dL_law_791 rfl (lv_at hl 1 rfl) ?_
  have hH := hH.perm LW_g
  refine cl_iV C0 hH hl.1 (As := []) (rest := []) (mX4_isOn l D ca a b h f (oW o ca ol ++ (mW d ca v ++ [])) t u hh S  hP) gL_law_X4_isOn rfl rfl rfl hd_X4_isOn ⟨Nat.le_of_ble_eq_true rfl, Nat.le_of_ble_eq_true rfl⟩ ⟨Nat.le_of_succ_le hroom.1, Nat.le_trans (Nat.le_add_right _ 6) hroom.2⟩ (vG_X4 C0 hH) rfl (Nat.le_of_ble_eq_true rfl) dL_law_792 (fun H locs hH => ?_)
  have hH := hH.perm LW_g.symm
  refine lv_aload_n hx hb dL_law_795 rfl (lv_at hl 2 rfl) ?_
  have hH := hH.perm LW_m
  refine cl_iV C0 hH hl.1 (As := []) (rest := [.int r]) (mX5_isOn l D ca d _ v  hG) gL_law_X5_isOn rfl rfl rfl hd_X5_isOn ⟨Nat.le_of_ble_eq_true rfl, Nat.le_of_ble_eq_true rfl⟩ ⟨Nat.le_of_succ_le hroom.1, Nat.le_trans (Nat.le_add_right _ 6) hroom.2⟩ (vM_X5 C0 hH) rfl (Nat.le_of_ble_eq_true rfl) dL_law_796 (fun H locs hH => ?_)
  have hH := hH.perm LW_m.symm
  refine lv_icmp_eq (tgt := 1331) hx hb dL_law_799 (by decide) (fun c9 => ?_) (fun c9 => absurd rfl c9)
  refine W.widen (k := cells + 1) (n := slots + 6) (Nat.le_add_right _ _) (Nat.le_add_right _ _) ?_
  exact K ol v9 t u hh S _ _ _ hs hH (lv_sub hl [0, 1, 2, 3, 4] rfl)
set_option maxHeartbeats 4000000 in
set_option maxRecDepth 100000 in
theorem law_14 {p : Program} {l : Launch} {e : Env} {s : State} {m : MethodId} {args : Array Value} {below : List Frame} {meth : Method} {c : Code} {H : Heap} {locs : List Loc} {cells slots : Nat} {Q : State → Prop} {ls : Array Slot} {D : va_G} {ca : Gp} {A : Nat → Prop} {b0 L o : Nat} {xs : Nat → Int32} {d a b h : Nat → Nat} {f : Nat → Nat → Nat} {ol : Nat → Int64} {v t u hh : Mem} {S : Nat → Mem} {x4 : Int32} {Sim : Mem → Mem → Mem → Mem → (Nat → Mem) → Prop} (C0 : Cx p s m args c cL_law 9 wsL_law RL D ca A) (hfl : l.stackTraces = false) (hX : va_X b0 L xs s s.heap) (hbl : b0 < s.heap.size) (hbA : ¬ A b0) (hH : HS D A s (LW o d a b h f ca ol v t u hh S) H locs) (hl : lv_has ls 9 [(0, .ref b0), (1, .ref (h 2)), (2, .ref (d 0)), (3, .ref o), (4, .int x4)]) (h1 : vp_in (x4 + 1) L) (h2 : vp_in (x4 + 2) L) (h3 : vp_in (x4 + 3) L) (hroom : cells + 1 ≤ room_1.cells ∧ slots + 6 ≤ room_1.slots) (ok : StepD Sim (pX4_isIn t u hh S ) (pX5_isIn v ) t u hh S) (K : ∀ (ol : Nat → Int64) (v t u hh : Mem) (S : Nat → Mem) (H : Heap) (locs : List Loc) (ls : Array Slot), Sim v t u hh S → HS D A s (LW o d a b h f ca ol v t u hh S) H locs → lv_has ls 9 [(0, .ref b0), (1, .ref (h 2)), (2, .ref (d 0)), (3, .ref o), (4, .int x4)] → W p l e room_1 s m args below meth c H locs (cells + 1) (slots + 6) Q (F0 m 1331 ls [])) : W p l e room_1 s m args below meth c H locs cells slots Q (F0 m 804 ls []) := by
  obtain ⟨hx, hb, hml, hown, hts⟩ := id C0.1
  unfold StepD at ok
  obtain ⟨r, v9, hP, hG, hs⟩ := ok
  refine lv_aload_n hx hb dL_law_804 rfl (lv_at hl 1 rfl) ?_
  have hH := hH.perm LW_g
  refine cl_iV C0 hH hl.1 (As := []) (rest := []) (mX4_isIn l D ca a b h f (oW o ca ol ++ (mW d ca v ++ [])) t u hh S  hP) gL_law_X4_isIn rfl rfl rfl hd_X4_isIn ⟨Nat.le_of_ble_eq_true rfl, Nat.le_of_ble_eq_true rfl⟩ ⟨Nat.le_of_succ_le hroom.1, Nat.le_trans (Nat.le_add_right _ 6) hroom.2⟩ (vG_X4 C0 hH) rfl (Nat.le_of_ble_eq_true rfl) dL_law_805 (fun H locs hH => ?_)
  have hH := hH.perm LW_g.symm
  refine lv_aload_n hx hb dL_law_808 rfl (lv_at hl 2 rfl) ?_
  have hH := hH.perm LW_m
  refine cl_iV C0 hH hl.1 (As := []) (rest := [.int r]) (mX5_isIn l D ca d _ v  hG) gL_law_X5_isIn rfl rfl rfl hd_X5_isIn ⟨Nat.le_of_ble_eq_true rfl, Nat.le_of_ble_eq_true rfl⟩ ⟨Nat.le_of_succ_le hroom.1, Nat.le_trans (Nat.le_add_right _ 6) hroom.2⟩ (vM_X5 C0 hH) rfl (Nat.le_of_ble_eq_true rfl) dL_law_809 (fun H locs hH => ?_)
  have hH := hH.perm LW_m.symm
  refine lv_icmp_eq (tgt := 1331) hx hb dL_law_812 (by decide) (fun c9 => ?_) (fun c9 => absurd rfl c9)
  refine W.widen (k := cells + 1) (n := slots + 6) (Nat.le_add_right _ _) (Nat.le_add_right _ _) ?_
  exact K ol v9 t u hh S _ _ _ hs hH (lv_sub hl [0, 1, 2, 3, 4] rfl)
set_option maxHeartbeats 4000000 in
set_option maxRecDepth 100000 in
theorem law_15 {p : Program} {l : Launch} {e : Env} {s : State} {m : MethodId} {args : Array Value} {below : List Frame} {meth : Method} {c : Code} {H : Heap} {locs : List Loc} {cells slots : Nat} {Q : State → Prop} {ls : Array Slot} {D : va_G} {ca : Gp} {A : Nat → Prop} {b0 L o : Nat} {xs : Nat → Int32} {d a b h : Nat → Nat} {f : Nat → Nat → Nat} {ol : Nat → Int64} {v t u hh : Mem} {S : Nat → Mem} {x4 : Int32} {Sim : Mem → Mem → Mem → Mem → (Nat → Mem) → Prop} (C0 : Cx p s m args c cL_law 9 wsL_law RL D ca A) (hfl : l.stackTraces = false) (hX : va_X b0 L xs s s.heap) (hbl : b0 < s.heap.size) (hbA : ¬ A b0) (hH : HS D A s (LW o d a b h f ca ol v t u hh S) H locs) (hl : lv_has ls 9 [(0, .ref b0), (1, .ref (h 2)), (2, .ref (d 0)), (3, .ref o), (4, .int x4)]) (h1 : vp_in (x4 + 1) L) (h2 : vp_in (x4 + 2) L) (h3 : vp_in (x4 + 3) L) (hroom : cells + 1 ≤ room_1.cells ∧ slots + 6 ≤ room_1.slots) (ok : StepD Sim (pX4_charge t u hh S ) (pX5_charge v ) t u hh S) (K : ∀ (ol : Nat → Int64) (v t u hh : Mem) (S : Nat → Mem) (H : Heap) (locs : List Loc) (ls : Array Slot), Sim v t u hh S → HS D A s (LW o d a b h f ca ol v t u hh S) H locs → lv_has ls 9 [(0, .ref b0), (1, .ref (h 2)), (2, .ref (d 0)), (3, .ref o), (4, .int x4)] → W p l e room_1 s m args below meth c H locs (cells + 1) (slots + 6) Q (F0 m 1331 ls [])) : W p l e room_1 s m args below meth c H locs cells slots Q (F0 m 817 ls []) := by
  obtain ⟨hx, hb, hml, hown, hts⟩ := id C0.1
  unfold StepD at ok
  obtain ⟨r, v9, hP, hG, hs⟩ := ok
  refine lv_aload_n hx hb dL_law_817 rfl (lv_at hl 1 rfl) ?_
  have hH := hH.perm LW_g
  refine cl_iV C0 hH hl.1 (As := []) (rest := []) (mX4_charge l D ca a b h f (oW o ca ol ++ (mW d ca v ++ [])) t u hh S  hP) gL_law_X4_charge rfl rfl rfl hd_X4_charge ⟨Nat.le_of_ble_eq_true rfl, Nat.le_of_ble_eq_true rfl⟩ ⟨Nat.le_of_succ_le hroom.1, Nat.le_trans (Nat.le_add_right _ 6) hroom.2⟩ (vG_X4 C0 hH) rfl (Nat.le_of_ble_eq_true rfl) dL_law_818 (fun H locs hH => ?_)
  have hH := hH.perm LW_g.symm
  refine lv_aload_n hx hb dL_law_821 rfl (lv_at hl 2 rfl) ?_
  have hH := hH.perm LW_m
  refine cl_iV C0 hH hl.1 (As := []) (rest := [.int r]) (mX5_charge l D ca d _ v  hG) gL_law_X5_charge rfl rfl rfl hd_X5_charge ⟨Nat.le_of_ble_eq_true rfl, Nat.le_of_ble_eq_true rfl⟩ ⟨Nat.le_of_succ_le hroom.1, Nat.le_trans (Nat.le_add_right _ 6) hroom.2⟩ (vM_X5 C0 hH) rfl (Nat.le_of_ble_eq_true rfl) dL_law_822 (fun H locs hH => ?_)
  have hH := hH.perm LW_m.symm
  refine lv_icmp_eq (tgt := 1331) hx hb dL_law_825 (by decide) (fun c9 => ?_) (fun c9 => absurd rfl c9)
  refine W.widen (k := cells + 1) (n := slots + 6) (Nat.le_add_right _ _) (Nat.le_add_right _ _) ?_
  exact K ol v9 t u hh S _ _ _ hs hH (lv_sub hl [0, 1, 2, 3, 4] rfl)
set_option maxHeartbeats 4000000 in
set_option maxRecDepth 100000 in
theorem law_16 {p : Program} {l : Launch} {e : Env} {s : State} {m : MethodId} {args : Array Value} {below : List Frame} {meth : Method} {c : Code} {H : Heap} {locs : List Loc} {cells slots : Nat} {Q : State → Prop} {ls : Array Slot} {D : va_G} {ca : Gp} {A : Nat → Prop} {b0 L o : Nat} {xs : Nat → Int32} {d a b h : Nat → Nat} {f : Nat → Nat → Nat} {ol : Nat → Int64} {v t u hh : Mem} {S : Nat → Mem} {x4 : Int32} {Sim : Mem → Mem → Mem → Mem → (Nat → Mem) → Prop} (C0 : Cx p s m args c cL_law 9 wsL_law RL D ca A) (hfl : l.stackTraces = false) (hX : va_X b0 L xs s s.heap) (hbl : b0 < s.heap.size) (hbA : ¬ A b0) (hH : HS D A s (LW o d a b h f ca ol v t u hh S) H locs) (hl : lv_has ls 9 [(0, .ref b0), (1, .ref (h 2)), (2, .ref (d 0)), (3, .ref o), (4, .int x4)]) (h1 : vp_in (x4 + 1) L) (h2 : vp_in (x4 + 2) L) (h3 : vp_in (x4 + 3) L) (hroom : cells + 1 ≤ room_1.cells ∧ slots + 6 ≤ room_1.slots) (ok : StepB Sim (pX4_line t u hh S (xs (x4 + 1).toNatClampNeg) (xs (x4 + 2).toNatClampNeg) (xs (x4 + 3).toNatClampNeg)) (tX4_line t u hh S (xs (x4 + 1).toNatClampNeg) (xs (x4 + 2).toNatClampNeg) (xs (x4 + 3).toNatClampNeg)) (pX5_line v (xs (x4 + 1).toNatClampNeg) (xs (x4 + 2).toNatClampNeg) (xs (x4 + 3).toNatClampNeg)) ["java/lang/IndexOutOfBoundsException", "java/lang/IllegalArgumentException"] t u hh S) (K : ∀ (ol : Nat → Int64) (v t u hh : Mem) (S : Nat → Mem) (H : Heap) (locs : List Loc) (ls : Array Slot), Sim v t u hh S → HS D A s (LW o d a b h f ca ol v t u hh S) H locs → lv_has ls 9 [(0, .ref b0), (1, .ref (h 2)), (2, .ref (d 0)), (3, .ref o), (4, .int x4)] → W p l e room_1 s m args below meth c H locs (cells + 1) (slots + 6) Q (F0 m 1331 ls [])) : W p l e room_1 s m args below meth c H locs cells slots Q (F0 m 830 ls []) := by
  obtain ⟨hx, hb, hml, hown, hts⟩ := id C0.1
  unfold StepB at ok
  rcases ok with ⟨r, v9, hP, hG, hv0, hs⟩ | ⟨k, E, t9, r, v9, hk, hT, hG, hv0, hs⟩
  · refine lv_aload_n hx hb dL_law_830 rfl (lv_at hl 1 rfl) ?_
    refine lv_aload_n hx hb dL_law_831 rfl (lv_at hl 0 rfl) ?_
    refine lv_iload hx hb dL_law_832 (lv_at hl 4 rfl) ?_
    refine lv_iconst (v := 1) hx hb dL_law_834 (by decide) ?_
    refine lv_iadd hx hb dL_law_835 ?_
    refine va_sld hx hb hX hbl hbA hH.2.2 h1 dL_law_836 ?_
    refine lv_aload_n hx hb dL_law_837 rfl (lv_at hl 0 rfl) ?_
    refine lv_iload hx hb dL_law_838 (lv_at hl 4 rfl) ?_
    refine lv_iconst (v := 2) hx hb dL_law_840 (by decide) ?_
    refine lv_iadd hx hb dL_law_841 ?_
    refine va_sld hx hb hX hbl hbA hH.2.2 h2 dL_law_842 ?_
    refine lv_aload_n hx hb dL_law_843 rfl (lv_at hl 0 rfl) ?_
    refine lv_iload hx hb dL_law_844 (lv_at hl 4 rfl) ?_
    refine lv_iconst (v := 3) hx hb dL_law_846 (by decide) ?_
    refine lv_iadd hx hb dL_law_847 ?_
    refine va_sld hx hb hX hbl hbA hH.2.2 h3 dL_law_848 ?_
    refine lv_aload_n hx hb dL_law_849 rfl (lv_at hl 3 rfl) ?_
    have hH := hH.perm LW_h
    refine cl_j C0 hH hl.1 (As := [.ref (h 2), .int (xs (x4 + 1).toNatClampNeg), .int (xs (x4 + 2).toNatClampNeg), .int (xs (x4 + 3).toNatClampNeg), .ref o]) (rest := []) (mL_line l hfl D ca o a b h f (mW d ca v ++ []) ol t u hh S (xs (x4 + 1).toNatClampNeg) (xs (x4 + 2).toNatClampNeg) (xs (x4 + 3).toNatClampNeg) hP) gL_law_L_line rfl rfl rfl hd_L_line ⟨Nat.le_of_ble_eq_true rfl, Nat.le_of_ble_eq_true rfl⟩ hroom rfl (Nat.le_of_ble_eq_true rfl) dL_law_850 (fun H locs hH => ?_)
    have hH := hH.perm LW_h.symm
    refine lv_istore (lv' := [(5, .int 0), (0, .ref b0), (1, .ref (h 2)), (2, .ref (d 0)), (3, .ref o), (4, .int x4)]) hx hb dL_law_853 hl (by decide) rfl (fun ls hl => ?_)
    refine lv_aload_n hx hb dL_law_855 rfl (lv_at hl 3 rfl) ?_
    refine lv_aload_n hx hb dL_law_856 rfl (lv_at hl 1 rfl) ?_
    refine lv_iload hx hb dL_law_857 (lv_at hl 5 rfl) ?_
    refine lv_iconst (v := 1) hx hb dL_law_859 (by decide) ?_
    refine lv_iadd hx hb dL_law_860 ?_
    refine va_sld hx hb hX hbl hbA hH.2.2 h1 dL_law_861 ?_
    refine lv_aload_n hx hb dL_law_862 rfl (lv_at hl 1 rfl) ?_
    refine lv_iload hx hb dL_law_863 (lv_at hl 5 rfl) ?_
    refine lv_iconst (v := 2) hx hb dL_law_865 (by decide) ?_
    refine lv_iadd hx hb dL_law_866 ?_
    refine va_sld hx hb hX hbl hbA hH.2.2 h2 dL_law_867 ?_
    refine lv_aload_n hx hb dL_law_868 rfl (lv_at hl 1 rfl) ?_
    refine lv_iload hx hb dL_law_869 (lv_at hl 5 rfl) ?_
    refine lv_iconst (v := 3) hx hb dL_law_871 (by decide) ?_
    refine lv_iadd hx hb dL_law_872 ?_
    refine va_sld hx hb hX hbl hbA hH.2.2 h3 dL_law_873 ?_
    have hH := hH.perm LW_m
    refine cl_iV C0 hH hl.1 (As := [.int (xs (x4 + 1).toNatClampNeg), .int (xs (x4 + 2).toNatClampNeg), .int (xs (x4 + 3).toNatClampNeg)]) (rest := []) (mX5_line l D ca d _ v (xs (x4 + 1).toNatClampNeg) (xs (x4 + 2).toNatClampNeg) (xs (x4 + 3).toNatClampNeg) hG) gL_law_X5_line rfl rfl rfl hd_X5_line ⟨Nat.le_of_ble_eq_true rfl, Nat.le_of_ble_eq_true rfl⟩ ⟨hroom.1, hroom.2⟩ (vM_X5 C0 hH) rfl (Nat.le_of_ble_eq_true rfl) dL_law_874 (fun H locs hH => ?_)
    have hH := hH.perm LW_m.symm
    refine lv_istore (lv' := [(6, .int r), (5, .int 0), (0, .ref b0), (1, .ref (h 2)), (2, .ref (d 0)), (3, .ref o), (4, .int x4)]) hx hb dL_law_877 hl (by decide) rfl (fun ls hl => ?_)
    refine lv_aload_n hx hb dL_law_879 rfl (lv_at hl 4 rfl) ?_
    have hH := hH.perm LW_m
    refine cl_iV C0 hH hl.1 (As := []) (rest := []) (mX5_thrown l D ca d _ v9 rfl) gL_law_X5_thrown rfl rfl rfl hd_X5_thrown ⟨Nat.le_of_ble_eq_true rfl, Nat.le_of_ble_eq_true rfl⟩ ⟨hroom.1, hroom.2⟩ (vM_X5 C0 hH) rfl (Nat.le_of_ble_eq_true rfl) dL_law_880 (fun H locs hH => ?_)
    have hH := hH.perm LW_m.symm
    refine lv_iload hx hb dL_law_883 (lv_at hl 1 rfl) ?_
    refine lv_icmp_eq (tgt := 890) hx hb dL_law_885 (by decide) (fun c9 => ?_) (fun c9 => absurd hv0 c9)
    refine lv_iload hx hb dL_law_890 (lv_at hl 1 rfl) ?_
    refine lv_if_ne (tgt := 907) hx hb dL_law_892 (by decide) (fun c9 => absurd rfl c9) (fun c9 => ?_)
    refine lv_aload_n hx hb dL_law_895 rfl (lv_at hl 5 rfl) ?_
    refine lv_iconst (v := 0) hx hb dL_law_896 (by decide) ?_
    refine lO C0 hH dL_law_897 ?_
    refine lv_iload hx hb dL_law_898 (lv_at hl 0 rfl) ?_
    refine lv_i2l (v := r.toInt64) hx hb dL_law_900 rfl ?_
    refine W.lcmp hx hb dL_law_901 ?_
    refine lv_if_eq (tgt := 907) hx hb dL_law_902 (by decide) (fun c9 => ?_) (fun c9 => absurd (lcmp_same _) c9)
    refine lv_goto (tgt := 1331) hx hb dL_law_907 (by decide) ?_
    exact K _ v9 t u hh S _ _ _ hs hH (lv_sub hl [2, 3, 4, 5, 6] rfl)
  · rcases k with _ | _ | k
    · obtain rfl := Option.some.inj hk
      rw [nI_k1] at hv0
      refine lv_aload_n hx hb dL_law_830 rfl (lv_at hl 1 rfl) ?_
      refine lv_aload_n hx hb dL_law_831 rfl (lv_at hl 0 rfl) ?_
      refine lv_iload hx hb dL_law_832 (lv_at hl 4 rfl) ?_
      refine lv_iconst (v := 1) hx hb dL_law_834 (by decide) ?_
      refine lv_iadd hx hb dL_law_835 ?_
      refine va_sld hx hb hX hbl hbA hH.2.2 h1 dL_law_836 ?_
      refine lv_aload_n hx hb dL_law_837 rfl (lv_at hl 0 rfl) ?_
      refine lv_iload hx hb dL_law_838 (lv_at hl 4 rfl) ?_
      refine lv_iconst (v := 2) hx hb dL_law_840 (by decide) ?_
      refine lv_iadd hx hb dL_law_841 ?_
      refine va_sld hx hb hX hbl hbA hH.2.2 h2 dL_law_842 ?_
      refine lv_aload_n hx hb dL_law_843 rfl (lv_at hl 0 rfl) ?_
      refine lv_iload hx hb dL_law_844 (lv_at hl 4 rfl) ?_
      refine lv_iconst (v := 3) hx hb dL_law_846 (by decide) ?_
      refine lv_iadd hx hb dL_law_847 ?_
      refine va_sld hx hb hX hbl hbA hH.2.2 h3 dL_law_848 ?_
      refine lv_aload_n hx hb dL_law_849 rfl (lv_at hl 3 rfl) ?_
      have hH := hH.perm LW_h
      refine cl_j C0 hH hl.1 (As := [.ref (h 2), .int (xs (x4 + 1).toNatClampNeg), .int (xs (x4 + 2).toNatClampNeg), .int (xs (x4 + 3).toNatClampNeg), .ref o]) (rest := []) (eL_line_1 l hfl D ca o a b h f (mW d ca v ++ []) ol t u hh S (xs (x4 + 1).toNatClampNeg) (xs (x4 + 2).toNatClampNeg) (xs (x4 + 3).toNatClampNeg) hT) gL_law_L_line rfl rfl rfl hd_L_line ⟨Nat.le_of_ble_eq_true rfl, Nat.le_of_ble_eq_true rfl⟩ hroom rfl (Nat.le_of_ble_eq_true rfl) dL_law_850 (fun H locs hH => ?_)
      have hH := hH.perm LW_h.symm
      refine lv_istore (lv' := [(5, .int 1), (0, .ref b0), (1, .ref (h 2)), (2, .ref (d 0)), (3, .ref o), (4, .int x4)]) hx hb dL_law_853 hl (by decide) rfl (fun ls hl => ?_)
      refine lv_aload_n hx hb dL_law_855 rfl (lv_at hl 3 rfl) ?_
      refine lv_aload_n hx hb dL_law_856 rfl (lv_at hl 1 rfl) ?_
      refine lv_iload hx hb dL_law_857 (lv_at hl 5 rfl) ?_
      refine lv_iconst (v := 1) hx hb dL_law_859 (by decide) ?_
      refine lv_iadd hx hb dL_law_860 ?_
      refine va_sld hx hb hX hbl hbA hH.2.2 h1 dL_law_861 ?_
      refine lv_aload_n hx hb dL_law_862 rfl (lv_at hl 1 rfl) ?_
      refine lv_iload hx hb dL_law_863 (lv_at hl 5 rfl) ?_
      refine lv_iconst (v := 2) hx hb dL_law_865 (by decide) ?_
      refine lv_iadd hx hb dL_law_866 ?_
      refine va_sld hx hb hX hbl hbA hH.2.2 h2 dL_law_867 ?_
      refine lv_aload_n hx hb dL_law_868 rfl (lv_at hl 1 rfl) ?_
      refine lv_iload hx hb dL_law_869 (lv_at hl 5 rfl) ?_
      refine lv_iconst (v := 3) hx hb dL_law_871 (by decide) ?_
      refine lv_iadd hx hb dL_law_872 ?_
      refine va_sld hx hb hX hbl hbA hH.2.2 h3 dL_law_873 ?_
      have hH := hH.perm LW_m
      refine cl_iV C0 hH hl.1 (As := [.int (xs (x4 + 1).toNatClampNeg), .int (xs (x4 + 2).toNatClampNeg), .int (xs (x4 + 3).toNatClampNeg)]) (rest := []) (mX5_line l D ca d _ v (xs (x4 + 1).toNatClampNeg) (xs (x4 + 2).toNatClampNeg) (xs (x4 + 3).toNatClampNeg) hG) gL_law_X5_line rfl rfl rfl hd_X5_line ⟨Nat.le_of_ble_eq_true rfl, Nat.le_of_ble_eq_true rfl⟩ ⟨hroom.1, hroom.2⟩ (vM_X5 C0 hH) rfl (Nat.le_of_ble_eq_true rfl) dL_law_874 (fun H locs hH => ?_)
      have hH := hH.perm LW_m.symm
      refine lv_istore (lv' := [(6, .int r), (5, .int 1), (0, .ref b0), (1, .ref (h 2)), (2, .ref (d 0)), (3, .ref o), (4, .int x4)]) hx hb dL_law_877 hl (by decide) rfl (fun ls hl => ?_)
      refine lv_aload_n hx hb dL_law_879 rfl (lv_at hl 4 rfl) ?_
      have hH := hH.perm LW_m
      refine cl_iV C0 hH hl.1 (As := []) (rest := []) (mX5_thrown l D ca d _ v9 rfl) gL_law_X5_thrown rfl rfl rfl hd_X5_thrown ⟨Nat.le_of_ble_eq_true rfl, Nat.le_of_ble_eq_true rfl⟩ ⟨hroom.1, hroom.2⟩ (vM_X5 C0 hH) rfl (Nat.le_of_ble_eq_true rfl) dL_law_880 (fun H locs hH => ?_)
      have hH := hH.perm LW_m.symm
      refine lv_iload hx hb dL_law_883 (lv_at hl 1 rfl) ?_
      refine lv_icmp_eq (tgt := 890) hx hb dL_law_885 (by decide) (fun c9 => ?_) (fun c9 => absurd hv0 c9)
      refine lv_iload hx hb dL_law_890 (lv_at hl 1 rfl) ?_
      refine lv_if_ne (tgt := 907) hx hb dL_law_892 (by decide) (fun c9 => ?_) (fun c9 => absurd c9 (by decide))
      refine lv_goto (tgt := 1331) hx hb dL_law_907 (by decide) ?_
      exact K _ v9 t9 u hh S _ _ _ hs hH (lv_sub hl [2, 3, 4, 5, 6] rfl)
    · obtain rfl := Option.some.inj hk
      rw [nI_k2] at hv0
      refine lv_aload_n hx hb dL_law_830 rfl (lv_at hl 1 rfl) ?_
      refine lv_aload_n hx hb dL_law_831 rfl (lv_at hl 0 rfl) ?_
      refine lv_iload hx hb dL_law_832 (lv_at hl 4 rfl) ?_
      refine lv_iconst (v := 1) hx hb dL_law_834 (by decide) ?_
      refine lv_iadd hx hb dL_law_835 ?_
      refine va_sld hx hb hX hbl hbA hH.2.2 h1 dL_law_836 ?_
      refine lv_aload_n hx hb dL_law_837 rfl (lv_at hl 0 rfl) ?_
      refine lv_iload hx hb dL_law_838 (lv_at hl 4 rfl) ?_
      refine lv_iconst (v := 2) hx hb dL_law_840 (by decide) ?_
      refine lv_iadd hx hb dL_law_841 ?_
      refine va_sld hx hb hX hbl hbA hH.2.2 h2 dL_law_842 ?_
      refine lv_aload_n hx hb dL_law_843 rfl (lv_at hl 0 rfl) ?_
      refine lv_iload hx hb dL_law_844 (lv_at hl 4 rfl) ?_
      refine lv_iconst (v := 3) hx hb dL_law_846 (by decide) ?_
      refine lv_iadd hx hb dL_law_847 ?_
      refine va_sld hx hb hX hbl hbA hH.2.2 h3 dL_law_848 ?_
      refine lv_aload_n hx hb dL_law_849 rfl (lv_at hl 3 rfl) ?_
      have hH := hH.perm LW_h
      refine cl_j C0 hH hl.1 (As := [.ref (h 2), .int (xs (x4 + 1).toNatClampNeg), .int (xs (x4 + 2).toNatClampNeg), .int (xs (x4 + 3).toNatClampNeg), .ref o]) (rest := []) (eL_line_2 l hfl D ca o a b h f (mW d ca v ++ []) ol t u hh S (xs (x4 + 1).toNatClampNeg) (xs (x4 + 2).toNatClampNeg) (xs (x4 + 3).toNatClampNeg) hT) gL_law_L_line rfl rfl rfl hd_L_line ⟨Nat.le_of_ble_eq_true rfl, Nat.le_of_ble_eq_true rfl⟩ hroom rfl (Nat.le_of_ble_eq_true rfl) dL_law_850 (fun H locs hH => ?_)
      have hH := hH.perm LW_h.symm
      refine lv_istore (lv' := [(5, .int 2), (0, .ref b0), (1, .ref (h 2)), (2, .ref (d 0)), (3, .ref o), (4, .int x4)]) hx hb dL_law_853 hl (by decide) rfl (fun ls hl => ?_)
      refine lv_aload_n hx hb dL_law_855 rfl (lv_at hl 3 rfl) ?_
      refine lv_aload_n hx hb dL_law_856 rfl (lv_at hl 1 rfl) ?_
      refine lv_iload hx hb dL_law_857 (lv_at hl 5 rfl) ?_
      refine lv_iconst (v := 1) hx hb dL_law_859 (by decide) ?_
      refine lv_iadd hx hb dL_law_860 ?_
      refine va_sld hx hb hX hbl hbA hH.2.2 h1 dL_law_861 ?_
      refine lv_aload_n hx hb dL_law_862 rfl (lv_at hl 1 rfl) ?_
      refine lv_iload hx hb dL_law_863 (lv_at hl 5 rfl) ?_
      refine lv_iconst (v := 2) hx hb dL_law_865 (by decide) ?_
      refine lv_iadd hx hb dL_law_866 ?_
      refine va_sld hx hb hX hbl hbA hH.2.2 h2 dL_law_867 ?_
      refine lv_aload_n hx hb dL_law_868 rfl (lv_at hl 1 rfl) ?_
      refine lv_iload hx hb dL_law_869 (lv_at hl 5 rfl) ?_
      refine lv_iconst (v := 3) hx hb dL_law_871 (by decide) ?_
      refine lv_iadd hx hb dL_law_872 ?_
      refine va_sld hx hb hX hbl hbA hH.2.2 h3 dL_law_873 ?_
      have hH := hH.perm LW_m
      refine cl_iV C0 hH hl.1 (As := [.int (xs (x4 + 1).toNatClampNeg), .int (xs (x4 + 2).toNatClampNeg), .int (xs (x4 + 3).toNatClampNeg)]) (rest := []) (mX5_line l D ca d _ v (xs (x4 + 1).toNatClampNeg) (xs (x4 + 2).toNatClampNeg) (xs (x4 + 3).toNatClampNeg) hG) gL_law_X5_line rfl rfl rfl hd_X5_line ⟨Nat.le_of_ble_eq_true rfl, Nat.le_of_ble_eq_true rfl⟩ ⟨hroom.1, hroom.2⟩ (vM_X5 C0 hH) rfl (Nat.le_of_ble_eq_true rfl) dL_law_874 (fun H locs hH => ?_)
      have hH := hH.perm LW_m.symm
      refine lv_istore (lv' := [(6, .int r), (5, .int 2), (0, .ref b0), (1, .ref (h 2)), (2, .ref (d 0)), (3, .ref o), (4, .int x4)]) hx hb dL_law_877 hl (by decide) rfl (fun ls hl => ?_)
      refine lv_aload_n hx hb dL_law_879 rfl (lv_at hl 4 rfl) ?_
      have hH := hH.perm LW_m
      refine cl_iV C0 hH hl.1 (As := []) (rest := []) (mX5_thrown l D ca d _ v9 rfl) gL_law_X5_thrown rfl rfl rfl hd_X5_thrown ⟨Nat.le_of_ble_eq_true rfl, Nat.le_of_ble_eq_true rfl⟩ ⟨hroom.1, hroom.2⟩ (vM_X5 C0 hH) rfl (Nat.le_of_ble_eq_true rfl) dL_law_880 (fun H locs hH => ?_)
      have hH := hH.perm LW_m.symm
      refine lv_iload hx hb dL_law_883 (lv_at hl 1 rfl) ?_
      refine lv_icmp_eq (tgt := 890) hx hb dL_law_885 (by decide) (fun c9 => ?_) (fun c9 => absurd hv0 c9)
      refine lv_iload hx hb dL_law_890 (lv_at hl 1 rfl) ?_
      refine lv_if_ne (tgt := 907) hx hb dL_law_892 (by decide) (fun c9 => ?_) (fun c9 => absurd c9 (by decide))
      refine lv_goto (tgt := 1331) hx hb dL_law_907 (by decide) ?_
      exact K _ v9 t9 u hh S _ _ _ hs hH (lv_sub hl [2, 3, 4, 5, 6] rfl)
    · simp at hk
set_option maxHeartbeats 4000000 in
set_option maxRecDepth 100000 in
theorem law_17 {p : Program} {l : Launch} {e : Env} {s : State} {m : MethodId} {args : Array Value} {below : List Frame} {meth : Method} {c : Code} {H : Heap} {locs : List Loc} {cells slots : Nat} {Q : State → Prop} {ls : Array Slot} {D : va_G} {ca : Gp} {A : Nat → Prop} {b0 L o : Nat} {xs : Nat → Int32} {d a b h : Nat → Nat} {f : Nat → Nat → Nat} {ol : Nat → Int64} {v t u hh : Mem} {S : Nat → Mem} {x4 : Int32} {Sim : Mem → Mem → Mem → Mem → (Nat → Mem) → Prop} (C0 : Cx p s m args c cL_law 9 wsL_law RL D ca A) (hfl : l.stackTraces = false) (hX : va_X b0 L xs s s.heap) (hbl : b0 < s.heap.size) (hbA : ¬ A b0) (hH : HS D A s (LW o d a b h f ca ol v t u hh S) H locs) (hl : lv_has ls 9 [(0, .ref b0), (1, .ref (h 2)), (2, .ref (d 0)), (3, .ref o), (4, .int x4)]) (h1 : vp_in (x4 + 1) L) (h2 : vp_in (x4 + 2) L) (h3 : vp_in (x4 + 3) L) (hroom : cells + 1 ≤ room_1.cells ∧ slots + 6 ≤ room_1.slots) (ok : StepB Sim (pX4_dirtyOf t u hh S (xs (x4 + 1).toNatClampNeg)) (tX4_dirtyOf t u hh S (xs (x4 + 1).toNatClampNeg)) (pX5_dirtyOf v (xs (x4 + 1).toNatClampNeg)) ["java/lang/IndexOutOfBoundsException"] t u hh S) (K : ∀ (ol : Nat → Int64) (v t u hh : Mem) (S : Nat → Mem) (H : Heap) (locs : List Loc) (ls : Array Slot), Sim v t u hh S → HS D A s (LW o d a b h f ca ol v t u hh S) H locs → lv_has ls 9 [(0, .ref b0), (1, .ref (h 2)), (2, .ref (d 0)), (3, .ref o), (4, .int x4)] → W p l e room_1 s m args below meth c H locs (cells + 1) (slots + 6) Q (F0 m 1331 ls [])) : W p l e room_1 s m args below meth c H locs cells slots Q (F0 m 910 ls []) := by
  obtain ⟨hx, hb, hml, hown, hts⟩ := id C0.1
  unfold StepB at ok
  rcases ok with ⟨r, v9, hP, hG, hv0, hs⟩ | ⟨k, E, t9, r, v9, hk, hT, hG, hv0, hs⟩
  · refine lv_aload_n hx hb dL_law_910 rfl (lv_at hl 1 rfl) ?_
    refine lv_aload_n hx hb dL_law_911 rfl (lv_at hl 0 rfl) ?_
    refine lv_iload hx hb dL_law_912 (lv_at hl 4 rfl) ?_
    refine lv_iconst (v := 1) hx hb dL_law_914 (by decide) ?_
    refine lv_iadd hx hb dL_law_915 ?_
    refine va_sld hx hb hX hbl hbA hH.2.2 h1 dL_law_916 ?_
    refine lv_aload_n hx hb dL_law_917 rfl (lv_at hl 3 rfl) ?_
    have hH := hH.perm LW_h
    refine cl_j C0 hH hl.1 (As := [.ref (h 2), .int (xs (x4 + 1).toNatClampNeg), .ref o]) (rest := []) (mL_dirtyOf l hfl D ca o a b h f (mW d ca v ++ []) ol t u hh S (xs (x4 + 1).toNatClampNeg) hP) gL_law_L_dirtyOf rfl rfl rfl hd_L_dirtyOf ⟨Nat.le_of_ble_eq_true rfl, Nat.le_of_ble_eq_true rfl⟩ hroom rfl (Nat.le_of_ble_eq_true rfl) dL_law_918 (fun H locs hH => ?_)
    have hH := hH.perm LW_h.symm
    refine lv_istore (lv' := [(5, .int 0), (0, .ref b0), (1, .ref (h 2)), (2, .ref (d 0)), (3, .ref o), (4, .int x4)]) hx hb dL_law_921 hl (by decide) rfl (fun ls hl => ?_)
    refine lv_aload_n hx hb dL_law_923 rfl (lv_at hl 3 rfl) ?_
    refine lv_aload_n hx hb dL_law_924 rfl (lv_at hl 1 rfl) ?_
    refine lv_iload hx hb dL_law_925 (lv_at hl 5 rfl) ?_
    refine lv_iconst (v := 1) hx hb dL_law_927 (by decide) ?_
    refine lv_iadd hx hb dL_law_928 ?_
    refine va_sld hx hb hX hbl hbA hH.2.2 h1 dL_law_929 ?_
    have hH := hH.perm LW_m
    refine cl_iV C0 hH hl.1 (As := [.int (xs (x4 + 1).toNatClampNeg)]) (rest := []) (mX5_dirtyOf l D ca d _ v (xs (x4 + 1).toNatClampNeg) hG) gL_law_X5_dirtyOf rfl rfl rfl hd_X5_dirtyOf ⟨Nat.le_of_ble_eq_true rfl, Nat.le_of_ble_eq_true rfl⟩ ⟨hroom.1, hroom.2⟩ (vM_X5 C0 hH) rfl (Nat.le_of_ble_eq_true rfl) dL_law_930 (fun H locs hH => ?_)
    have hH := hH.perm LW_m.symm
    refine lv_istore (lv' := [(6, .int r), (5, .int 0), (0, .ref b0), (1, .ref (h 2)), (2, .ref (d 0)), (3, .ref o), (4, .int x4)]) hx hb dL_law_933 hl (by decide) rfl (fun ls hl => ?_)
    refine lv_aload_n hx hb dL_law_935 rfl (lv_at hl 4 rfl) ?_
    have hH := hH.perm LW_m
    refine cl_iV C0 hH hl.1 (As := []) (rest := []) (mX5_thrown l D ca d _ v9 rfl) gL_law_X5_thrown rfl rfl rfl hd_X5_thrown ⟨Nat.le_of_ble_eq_true rfl, Nat.le_of_ble_eq_true rfl⟩ ⟨hroom.1, hroom.2⟩ (vM_X5 C0 hH) rfl (Nat.le_of_ble_eq_true rfl) dL_law_936 (fun H locs hH => ?_)
    have hH := hH.perm LW_m.symm
    refine lv_iload hx hb dL_law_939 (lv_at hl 1 rfl) ?_
    refine lv_icmp_eq (tgt := 946) hx hb dL_law_941 (by decide) (fun c9 => ?_) (fun c9 => absurd hv0 c9)
    refine lv_iload hx hb dL_law_946 (lv_at hl 1 rfl) ?_
    refine lv_if_ne (tgt := 963) hx hb dL_law_948 (by decide) (fun c9 => absurd rfl c9) (fun c9 => ?_)
    refine lv_aload_n hx hb dL_law_951 rfl (lv_at hl 5 rfl) ?_
    refine lv_iconst (v := 0) hx hb dL_law_952 (by decide) ?_
    refine lO C0 hH dL_law_953 ?_
    refine lv_iload hx hb dL_law_954 (lv_at hl 0 rfl) ?_
    refine lv_i2l (v := r.toInt64) hx hb dL_law_956 rfl ?_
    refine W.lcmp hx hb dL_law_957 ?_
    refine lv_if_eq (tgt := 963) hx hb dL_law_958 (by decide) (fun c9 => ?_) (fun c9 => absurd (lcmp_same _) c9)
    refine lv_goto (tgt := 1331) hx hb dL_law_963 (by decide) ?_
    exact K _ v9 t u hh S _ _ _ hs hH (lv_sub hl [2, 3, 4, 5, 6] rfl)
  · rcases k with _ | k
    · obtain rfl := Option.some.inj hk
      rw [nI_k1] at hv0
      refine lv_aload_n hx hb dL_law_910 rfl (lv_at hl 1 rfl) ?_
      refine lv_aload_n hx hb dL_law_911 rfl (lv_at hl 0 rfl) ?_
      refine lv_iload hx hb dL_law_912 (lv_at hl 4 rfl) ?_
      refine lv_iconst (v := 1) hx hb dL_law_914 (by decide) ?_
      refine lv_iadd hx hb dL_law_915 ?_
      refine va_sld hx hb hX hbl hbA hH.2.2 h1 dL_law_916 ?_
      refine lv_aload_n hx hb dL_law_917 rfl (lv_at hl 3 rfl) ?_
      have hH := hH.perm LW_h
      refine cl_j C0 hH hl.1 (As := [.ref (h 2), .int (xs (x4 + 1).toNatClampNeg), .ref o]) (rest := []) (eL_dirtyOf_1 l hfl D ca o a b h f (mW d ca v ++ []) ol t u hh S (xs (x4 + 1).toNatClampNeg) hT) gL_law_L_dirtyOf rfl rfl rfl hd_L_dirtyOf ⟨Nat.le_of_ble_eq_true rfl, Nat.le_of_ble_eq_true rfl⟩ hroom rfl (Nat.le_of_ble_eq_true rfl) dL_law_918 (fun H locs hH => ?_)
      have hH := hH.perm LW_h.symm
      refine lv_istore (lv' := [(5, .int 1), (0, .ref b0), (1, .ref (h 2)), (2, .ref (d 0)), (3, .ref o), (4, .int x4)]) hx hb dL_law_921 hl (by decide) rfl (fun ls hl => ?_)
      refine lv_aload_n hx hb dL_law_923 rfl (lv_at hl 3 rfl) ?_
      refine lv_aload_n hx hb dL_law_924 rfl (lv_at hl 1 rfl) ?_
      refine lv_iload hx hb dL_law_925 (lv_at hl 5 rfl) ?_
      refine lv_iconst (v := 1) hx hb dL_law_927 (by decide) ?_
      refine lv_iadd hx hb dL_law_928 ?_
      refine va_sld hx hb hX hbl hbA hH.2.2 h1 dL_law_929 ?_
      have hH := hH.perm LW_m
      refine cl_iV C0 hH hl.1 (As := [.int (xs (x4 + 1).toNatClampNeg)]) (rest := []) (mX5_dirtyOf l D ca d _ v (xs (x4 + 1).toNatClampNeg) hG) gL_law_X5_dirtyOf rfl rfl rfl hd_X5_dirtyOf ⟨Nat.le_of_ble_eq_true rfl, Nat.le_of_ble_eq_true rfl⟩ ⟨hroom.1, hroom.2⟩ (vM_X5 C0 hH) rfl (Nat.le_of_ble_eq_true rfl) dL_law_930 (fun H locs hH => ?_)
      have hH := hH.perm LW_m.symm
      refine lv_istore (lv' := [(6, .int r), (5, .int 1), (0, .ref b0), (1, .ref (h 2)), (2, .ref (d 0)), (3, .ref o), (4, .int x4)]) hx hb dL_law_933 hl (by decide) rfl (fun ls hl => ?_)
      refine lv_aload_n hx hb dL_law_935 rfl (lv_at hl 4 rfl) ?_
      have hH := hH.perm LW_m
      refine cl_iV C0 hH hl.1 (As := []) (rest := []) (mX5_thrown l D ca d _ v9 rfl) gL_law_X5_thrown rfl rfl rfl hd_X5_thrown ⟨Nat.le_of_ble_eq_true rfl, Nat.le_of_ble_eq_true rfl⟩ ⟨hroom.1, hroom.2⟩ (vM_X5 C0 hH) rfl (Nat.le_of_ble_eq_true rfl) dL_law_936 (fun H locs hH => ?_)
      have hH := hH.perm LW_m.symm
      refine lv_iload hx hb dL_law_939 (lv_at hl 1 rfl) ?_
      refine lv_icmp_eq (tgt := 946) hx hb dL_law_941 (by decide) (fun c9 => ?_) (fun c9 => absurd hv0 c9)
      refine lv_iload hx hb dL_law_946 (lv_at hl 1 rfl) ?_
      refine lv_if_ne (tgt := 963) hx hb dL_law_948 (by decide) (fun c9 => ?_) (fun c9 => absurd c9 (by decide))
      refine lv_goto (tgt := 1331) hx hb dL_law_963 (by decide) ?_
      exact K _ v9 t9 u hh S _ _ _ hs hH (lv_sub hl [2, 3, 4, 5, 6] rfl)
    · simp at hk
set_option maxHeartbeats 4000000 in
set_option maxRecDepth 100000 in
theorem law_18 {p : Program} {l : Launch} {e : Env} {s : State} {m : MethodId} {args : Array Value} {below : List Frame} {meth : Method} {c : Code} {H : Heap} {locs : List Loc} {cells slots : Nat} {Q : State → Prop} {ls : Array Slot} {D : va_G} {ca : Gp} {A : Nat → Prop} {b0 L o : Nat} {xs : Nat → Int32} {d a b h : Nat → Nat} {f : Nat → Nat → Nat} {ol : Nat → Int64} {v t u hh : Mem} {S : Nat → Mem} {x4 : Int32} {Sim : Mem → Mem → Mem → Mem → (Nat → Mem) → Prop} (C0 : Cx p s m args c cL_law 9 wsL_law RL D ca A) (hfl : l.stackTraces = false) (hX : va_X b0 L xs s s.heap) (hbl : b0 < s.heap.size) (hbA : ¬ A b0) (hH : HS D A s (LW o d a b h f ca ol v t u hh S) H locs) (hl : lv_has ls 9 [(0, .ref b0), (1, .ref (h 2)), (2, .ref (d 0)), (3, .ref o), (4, .int x4)]) (h1 : vp_in (x4 + 1) L) (h2 : vp_in (x4 + 2) L) (h3 : vp_in (x4 + 3) L) (hroom : cells + 1 ≤ room_1.cells ∧ slots + 6 ≤ room_1.slots) (ok : StepD Sim (pX4_dirty t u hh S ) (pX5_dirty v ) t u hh S) (K : ∀ (ol : Nat → Int64) (v t u hh : Mem) (S : Nat → Mem) (H : Heap) (locs : List Loc) (ls : Array Slot), Sim v t u hh S → HS D A s (LW o d a b h f ca ol v t u hh S) H locs → lv_has ls 9 [(0, .ref b0), (1, .ref (h 2)), (2, .ref (d 0)), (3, .ref o), (4, .int x4)] → W p l e room_1 s m args below meth c H locs (cells + 1) (slots + 6) Q (F0 m 1331 ls [])) : W p l e room_1 s m args below meth c H locs cells slots Q (F0 m 966 ls []) := by
  obtain ⟨hx, hb, hml, hown, hts⟩ := id C0.1
  unfold StepD at ok
  obtain ⟨r, v9, hP, hG, hs⟩ := ok
  refine lv_aload_n hx hb dL_law_966 rfl (lv_at hl 1 rfl) ?_
  have hH := hH.perm LW_g
  refine cl_iV C0 hH hl.1 (As := []) (rest := []) (mX4_dirty l D ca a b h f (oW o ca ol ++ (mW d ca v ++ [])) t u hh S  hP) gL_law_X4_dirty rfl rfl rfl hd_X4_dirty ⟨Nat.le_of_ble_eq_true rfl, Nat.le_of_ble_eq_true rfl⟩ ⟨Nat.le_of_succ_le hroom.1, Nat.le_trans (Nat.le_add_right _ 6) hroom.2⟩ (vG_X4 C0 hH) rfl (Nat.le_of_ble_eq_true rfl) dL_law_967 (fun H locs hH => ?_)
  have hH := hH.perm LW_g.symm
  refine lv_aload_n hx hb dL_law_970 rfl (lv_at hl 2 rfl) ?_
  have hH := hH.perm LW_m
  refine cl_iV C0 hH hl.1 (As := []) (rest := [.int r]) (mX5_dirty l D ca d _ v  hG) gL_law_X5_dirty rfl rfl rfl hd_X5_dirty ⟨Nat.le_of_ble_eq_true rfl, Nat.le_of_ble_eq_true rfl⟩ ⟨Nat.le_of_succ_le hroom.1, Nat.le_trans (Nat.le_add_right _ 6) hroom.2⟩ (vM_X5 C0 hH) rfl (Nat.le_of_ble_eq_true rfl) dL_law_971 (fun H locs hH => ?_)
  have hH := hH.perm LW_m.symm
  refine lv_icmp_eq (tgt := 1331) hx hb dL_law_974 (by decide) (fun c9 => ?_) (fun c9 => absurd rfl c9)
  refine W.widen (k := cells + 1) (n := slots + 6) (Nat.le_add_right _ _) (Nat.le_add_right _ _) ?_
  exact K ol v9 t u hh S _ _ _ hs hH (lv_sub hl [0, 1, 2, 3, 4] rfl)
set_option maxHeartbeats 4000000 in
set_option maxRecDepth 100000 in
theorem law_19 {p : Program} {l : Launch} {e : Env} {s : State} {m : MethodId} {args : Array Value} {below : List Frame} {meth : Method} {c : Code} {H : Heap} {locs : List Loc} {cells slots : Nat} {Q : State → Prop} {ls : Array Slot} {D : va_G} {ca : Gp} {A : Nat → Prop} {b0 L o : Nat} {xs : Nat → Int32} {d a b h : Nat → Nat} {f : Nat → Nat → Nat} {ol : Nat → Int64} {v t u hh : Mem} {S : Nat → Mem} {x4 : Int32} {Sim : Mem → Mem → Mem → Mem → (Nat → Mem) → Prop} (C0 : Cx p s m args c cL_law 9 wsL_law RL D ca A) (hfl : l.stackTraces = false) (hX : va_X b0 L xs s s.heap) (hbl : b0 < s.heap.size) (hbA : ¬ A b0) (hH : HS D A s (LW o d a b h f ca ol v t u hh S) H locs) (hl : lv_has ls 9 [(0, .ref b0), (1, .ref (h 2)), (2, .ref (d 0)), (3, .ref o), (4, .int x4)]) (h1 : vp_in (x4 + 1) L) (h2 : vp_in (x4 + 2) L) (h3 : vp_in (x4 + 3) L) (hroom : cells + 1 ≤ room_1.cells ∧ slots + 6 ≤ room_1.slots) (ok : StepD Sim (pX4_used t u hh S ) (pX5_used v ) t u hh S) (K : ∀ (ol : Nat → Int64) (v t u hh : Mem) (S : Nat → Mem) (H : Heap) (locs : List Loc) (ls : Array Slot), Sim v t u hh S → HS D A s (LW o d a b h f ca ol v t u hh S) H locs → lv_has ls 9 [(0, .ref b0), (1, .ref (h 2)), (2, .ref (d 0)), (3, .ref o), (4, .int x4)] → W p l e room_1 s m args below meth c H locs (cells + 1) (slots + 6) Q (F0 m 1331 ls [])) : W p l e room_1 s m args below meth c H locs cells slots Q (F0 m 979 ls []) := by
  obtain ⟨hx, hb, hml, hown, hts⟩ := id C0.1
  unfold StepD at ok
  obtain ⟨r, v9, hP, hG, hs⟩ := ok
  refine lv_aload_n hx hb dL_law_979 rfl (lv_at hl 1 rfl) ?_
  have hH := hH.perm LW_g
  refine cl_iV C0 hH hl.1 (As := []) (rest := []) (mX4_used l D ca a b h f (oW o ca ol ++ (mW d ca v ++ [])) t u hh S  hP) gL_law_X4_used rfl rfl rfl hd_X4_used ⟨Nat.le_of_ble_eq_true rfl, Nat.le_of_ble_eq_true rfl⟩ ⟨Nat.le_of_succ_le hroom.1, Nat.le_trans (Nat.le_add_right _ 6) hroom.2⟩ (vG_X4 C0 hH) rfl (Nat.le_of_ble_eq_true rfl) dL_law_980 (fun H locs hH => ?_)
  have hH := hH.perm LW_g.symm
  refine lv_aload_n hx hb dL_law_983 rfl (lv_at hl 2 rfl) ?_
  have hH := hH.perm LW_m
  refine cl_iV C0 hH hl.1 (As := []) (rest := [.int r]) (mX5_used l D ca d _ v  hG) gL_law_X5_used rfl rfl rfl hd_X5_used ⟨Nat.le_of_ble_eq_true rfl, Nat.le_of_ble_eq_true rfl⟩ ⟨Nat.le_of_succ_le hroom.1, Nat.le_trans (Nat.le_add_right _ 6) hroom.2⟩ (vM_X5 C0 hH) rfl (Nat.le_of_ble_eq_true rfl) dL_law_984 (fun H locs hH => ?_)
  have hH := hH.perm LW_m.symm
  refine lv_icmp_eq (tgt := 1331) hx hb dL_law_987 (by decide) (fun c9 => ?_) (fun c9 => absurd rfl c9)
  refine W.widen (k := cells + 1) (n := slots + 6) (Nat.le_add_right _ _) (Nat.le_add_right _ _) ?_
  exact K ol v9 t u hh S _ _ _ hs hH (lv_sub hl [0, 1, 2, 3, 4] rfl)
set_option maxHeartbeats 4000000 in
set_option maxRecDepth 100000 in
theorem law_20 {p : Program} {l : Launch} {e : Env} {s : State} {m : MethodId} {args : Array Value} {below : List Frame} {meth : Method} {c : Code} {H : Heap} {locs : List Loc} {cells slots : Nat} {Q : State → Prop} {ls : Array Slot} {D : va_G} {ca : Gp} {A : Nat → Prop} {b0 L o : Nat} {xs : Nat → Int32} {d a b h : Nat → Nat} {f : Nat → Nat → Nat} {ol : Nat → Int64} {v t u hh : Mem} {S : Nat → Mem} {x4 : Int32} {Sim : Mem → Mem → Mem → Mem → (Nat → Mem) → Prop} (C0 : Cx p s m args c cL_law 9 wsL_law RL D ca A) (hfl : l.stackTraces = false) (hX : va_X b0 L xs s s.heap) (hbl : b0 < s.heap.size) (hbA : ¬ A b0) (hH : HS D A s (LW o d a b h f ca ol v t u hh S) H locs) (hl : lv_has ls 9 [(0, .ref b0), (1, .ref (h 2)), (2, .ref (d 0)), (3, .ref o), (4, .int x4)]) (h1 : vp_in (x4 + 1) L) (h2 : vp_in (x4 + 2) L) (h3 : vp_in (x4 + 3) L) (hroom : cells + 1 ≤ room_1.cells ∧ slots + 6 ≤ room_1.slots) (ok : StepB Sim (pX4_onDisk t u hh S (xs (x4 + 1).toNatClampNeg)) (tX4_onDisk t u hh S (xs (x4 + 1).toNatClampNeg)) (pX5_onDisk v (xs (x4 + 1).toNatClampNeg)) ["java/lang/IndexOutOfBoundsException"] t u hh S) (K : ∀ (ol : Nat → Int64) (v t u hh : Mem) (S : Nat → Mem) (H : Heap) (locs : List Loc) (ls : Array Slot), Sim v t u hh S → HS D A s (LW o d a b h f ca ol v t u hh S) H locs → lv_has ls 9 [(0, .ref b0), (1, .ref (h 2)), (2, .ref (d 0)), (3, .ref o), (4, .int x4)] → W p l e room_1 s m args below meth c H locs (cells + 1) (slots + 6) Q (F0 m 1331 ls [])) : W p l e room_1 s m args below meth c H locs cells slots Q (F0 m 992 ls []) := by
  obtain ⟨hx, hb, hml, hown, hts⟩ := id C0.1
  unfold StepB at ok
  rcases ok with ⟨r, v9, hP, hG, hv0, hs⟩ | ⟨k, E, t9, r, v9, hk, hT, hG, hv0, hs⟩
  · refine lv_aload_n hx hb dL_law_992 rfl (lv_at hl 1 rfl) ?_
    refine lv_aload_n hx hb dL_law_993 rfl (lv_at hl 0 rfl) ?_
    refine lv_iload hx hb dL_law_994 (lv_at hl 4 rfl) ?_
    refine lv_iconst (v := 1) hx hb dL_law_996 (by decide) ?_
    refine lv_iadd hx hb dL_law_997 ?_
    refine va_sld hx hb hX hbl hbA hH.2.2 h1 dL_law_998 ?_
    refine lv_aload_n hx hb dL_law_999 rfl (lv_at hl 3 rfl) ?_
    have hH := hH.perm LW_h
    refine cl_j C0 hH hl.1 (As := [.ref (h 2), .int (xs (x4 + 1).toNatClampNeg), .ref o]) (rest := []) (mL_onDisk l hfl D ca o a b h f (mW d ca v ++ []) ol t u hh S (xs (x4 + 1).toNatClampNeg) hP) gL_law_L_onDisk rfl rfl rfl hd_L_onDisk ⟨Nat.le_of_ble_eq_true rfl, Nat.le_of_ble_eq_true rfl⟩ hroom rfl (Nat.le_of_ble_eq_true rfl) dL_law_1000 (fun H locs hH => ?_)
    have hH := hH.perm LW_h.symm
    refine lv_istore (lv' := [(5, .int 0), (0, .ref b0), (1, .ref (h 2)), (2, .ref (d 0)), (3, .ref o), (4, .int x4)]) hx hb dL_law_1003 hl (by decide) rfl (fun ls hl => ?_)
    refine lv_aload_n hx hb dL_law_1005 rfl (lv_at hl 3 rfl) ?_
    refine lv_aload_n hx hb dL_law_1006 rfl (lv_at hl 1 rfl) ?_
    refine lv_iload hx hb dL_law_1007 (lv_at hl 5 rfl) ?_
    refine lv_iconst (v := 1) hx hb dL_law_1009 (by decide) ?_
    refine lv_iadd hx hb dL_law_1010 ?_
    refine va_sld hx hb hX hbl hbA hH.2.2 h1 dL_law_1011 ?_
    have hH := hH.perm LW_m
    refine cl_iV C0 hH hl.1 (As := [.int (xs (x4 + 1).toNatClampNeg)]) (rest := []) (mX5_onDisk l D ca d _ v (xs (x4 + 1).toNatClampNeg) hG) gL_law_X5_onDisk rfl rfl rfl hd_X5_onDisk ⟨Nat.le_of_ble_eq_true rfl, Nat.le_of_ble_eq_true rfl⟩ ⟨hroom.1, hroom.2⟩ (vM_X5 C0 hH) rfl (Nat.le_of_ble_eq_true rfl) dL_law_1012 (fun H locs hH => ?_)
    have hH := hH.perm LW_m.symm
    refine lv_istore (lv' := [(6, .int r), (5, .int 0), (0, .ref b0), (1, .ref (h 2)), (2, .ref (d 0)), (3, .ref o), (4, .int x4)]) hx hb dL_law_1015 hl (by decide) rfl (fun ls hl => ?_)
    refine lv_aload_n hx hb dL_law_1017 rfl (lv_at hl 4 rfl) ?_
    have hH := hH.perm LW_m
    refine cl_iV C0 hH hl.1 (As := []) (rest := []) (mX5_thrown l D ca d _ v9 rfl) gL_law_X5_thrown rfl rfl rfl hd_X5_thrown ⟨Nat.le_of_ble_eq_true rfl, Nat.le_of_ble_eq_true rfl⟩ ⟨hroom.1, hroom.2⟩ (vM_X5 C0 hH) rfl (Nat.le_of_ble_eq_true rfl) dL_law_1018 (fun H locs hH => ?_)
    have hH := hH.perm LW_m.symm
    refine lv_iload hx hb dL_law_1021 (lv_at hl 1 rfl) ?_
    refine lv_icmp_eq (tgt := 1028) hx hb dL_law_1023 (by decide) (fun c9 => ?_) (fun c9 => absurd hv0 c9)
    refine lv_iload hx hb dL_law_1028 (lv_at hl 1 rfl) ?_
    refine lv_if_ne (tgt := 1045) hx hb dL_law_1030 (by decide) (fun c9 => absurd rfl c9) (fun c9 => ?_)
    refine lv_aload_n hx hb dL_law_1033 rfl (lv_at hl 5 rfl) ?_
    refine lv_iconst (v := 0) hx hb dL_law_1034 (by decide) ?_
    refine lO C0 hH dL_law_1035 ?_
    refine lv_iload hx hb dL_law_1036 (lv_at hl 0 rfl) ?_
    refine lv_i2l (v := r.toInt64) hx hb dL_law_1038 rfl ?_
    refine W.lcmp hx hb dL_law_1039 ?_
    refine lv_if_eq (tgt := 1045) hx hb dL_law_1040 (by decide) (fun c9 => ?_) (fun c9 => absurd (lcmp_same _) c9)
    refine lv_goto (tgt := 1331) hx hb dL_law_1045 (by decide) ?_
    exact K _ v9 t u hh S _ _ _ hs hH (lv_sub hl [2, 3, 4, 5, 6] rfl)
  · rcases k with _ | k
    · obtain rfl := Option.some.inj hk
      rw [nI_k1] at hv0
      refine lv_aload_n hx hb dL_law_992 rfl (lv_at hl 1 rfl) ?_
      refine lv_aload_n hx hb dL_law_993 rfl (lv_at hl 0 rfl) ?_
      refine lv_iload hx hb dL_law_994 (lv_at hl 4 rfl) ?_
      refine lv_iconst (v := 1) hx hb dL_law_996 (by decide) ?_
      refine lv_iadd hx hb dL_law_997 ?_
      refine va_sld hx hb hX hbl hbA hH.2.2 h1 dL_law_998 ?_
      refine lv_aload_n hx hb dL_law_999 rfl (lv_at hl 3 rfl) ?_
      have hH := hH.perm LW_h
      refine cl_j C0 hH hl.1 (As := [.ref (h 2), .int (xs (x4 + 1).toNatClampNeg), .ref o]) (rest := []) (eL_onDisk_1 l hfl D ca o a b h f (mW d ca v ++ []) ol t u hh S (xs (x4 + 1).toNatClampNeg) hT) gL_law_L_onDisk rfl rfl rfl hd_L_onDisk ⟨Nat.le_of_ble_eq_true rfl, Nat.le_of_ble_eq_true rfl⟩ hroom rfl (Nat.le_of_ble_eq_true rfl) dL_law_1000 (fun H locs hH => ?_)
      have hH := hH.perm LW_h.symm
      refine lv_istore (lv' := [(5, .int 1), (0, .ref b0), (1, .ref (h 2)), (2, .ref (d 0)), (3, .ref o), (4, .int x4)]) hx hb dL_law_1003 hl (by decide) rfl (fun ls hl => ?_)
      refine lv_aload_n hx hb dL_law_1005 rfl (lv_at hl 3 rfl) ?_
      refine lv_aload_n hx hb dL_law_1006 rfl (lv_at hl 1 rfl) ?_
      refine lv_iload hx hb dL_law_1007 (lv_at hl 5 rfl) ?_
      refine lv_iconst (v := 1) hx hb dL_law_1009 (by decide) ?_
      refine lv_iadd hx hb dL_law_1010 ?_
      refine va_sld hx hb hX hbl hbA hH.2.2 h1 dL_law_1011 ?_
      have hH := hH.perm LW_m
      refine cl_iV C0 hH hl.1 (As := [.int (xs (x4 + 1).toNatClampNeg)]) (rest := []) (mX5_onDisk l D ca d _ v (xs (x4 + 1).toNatClampNeg) hG) gL_law_X5_onDisk rfl rfl rfl hd_X5_onDisk ⟨Nat.le_of_ble_eq_true rfl, Nat.le_of_ble_eq_true rfl⟩ ⟨hroom.1, hroom.2⟩ (vM_X5 C0 hH) rfl (Nat.le_of_ble_eq_true rfl) dL_law_1012 (fun H locs hH => ?_)
      have hH := hH.perm LW_m.symm
      refine lv_istore (lv' := [(6, .int r), (5, .int 1), (0, .ref b0), (1, .ref (h 2)), (2, .ref (d 0)), (3, .ref o), (4, .int x4)]) hx hb dL_law_1015 hl (by decide) rfl (fun ls hl => ?_)
      refine lv_aload_n hx hb dL_law_1017 rfl (lv_at hl 4 rfl) ?_
      have hH := hH.perm LW_m
      refine cl_iV C0 hH hl.1 (As := []) (rest := []) (mX5_thrown l D ca d _ v9 rfl) gL_law_X5_thrown rfl rfl rfl hd_X5_thrown ⟨Nat.le_of_ble_eq_true rfl, Nat.le_of_ble_eq_true rfl⟩ ⟨hroom.1, hroom.2⟩ (vM_X5 C0 hH) rfl (Nat.le_of_ble_eq_true rfl) dL_law_1018 (fun H locs hH => ?_)
      have hH := hH.perm LW_m.symm
      refine lv_iload hx hb dL_law_1021 (lv_at hl 1 rfl) ?_
      refine lv_icmp_eq (tgt := 1028) hx hb dL_law_1023 (by decide) (fun c9 => ?_) (fun c9 => absurd hv0 c9)
      refine lv_iload hx hb dL_law_1028 (lv_at hl 1 rfl) ?_
      refine lv_if_ne (tgt := 1045) hx hb dL_law_1030 (by decide) (fun c9 => ?_) (fun c9 => absurd c9 (by decide))
      refine lv_goto (tgt := 1331) hx hb dL_law_1045 (by decide) ?_
      exact K _ v9 t9 u hh S _ _ _ hs hH (lv_sub hl [2, 3, 4, 5, 6] rfl)
    · simp at hk
set_option maxHeartbeats 4000000 in
set_option maxRecDepth 100000 in
theorem law_21 {p : Program} {l : Launch} {e : Env} {s : State} {m : MethodId} {args : Array Value} {below : List Frame} {meth : Method} {c : Code} {H : Heap} {locs : List Loc} {cells slots : Nat} {Q : State → Prop} {ls : Array Slot} {D : va_G} {ca : Gp} {A : Nat → Prop} {b0 L o : Nat} {xs : Nat → Int32} {d a b h : Nat → Nat} {f : Nat → Nat → Nat} {ol : Nat → Int64} {v t u hh : Mem} {S : Nat → Mem} {x4 : Int32} {Sim : Mem → Mem → Mem → Mem → (Nat → Mem) → Prop} (C0 : Cx p s m args c cL_law 9 wsL_law RL D ca A) (hfl : l.stackTraces = false) (hX : va_X b0 L xs s s.heap) (hbl : b0 < s.heap.size) (hbA : ¬ A b0) (hH : HS D A s (LW o d a b h f ca ol v t u hh S) H locs) (hl : lv_has ls 9 [(0, .ref b0), (1, .ref (h 2)), (2, .ref (d 0)), (3, .ref o), (4, .int x4)]) (h1 : vp_in (x4 + 1) L) (h2 : vp_in (x4 + 2) L) (h3 : vp_in (x4 + 3) L) (hroom : cells + 1 ≤ room_1.cells ∧ slots + 6 ≤ room_1.slots) (ok : StepB Sim (pX4_isFound t u hh S (xs (x4 + 1).toNatClampNeg)) (tX4_isFound t u hh S (xs (x4 + 1).toNatClampNeg)) (pX5_isFound v (xs (x4 + 1).toNatClampNeg)) ["java/lang/IndexOutOfBoundsException"] t u hh S) (K : ∀ (ol : Nat → Int64) (v t u hh : Mem) (S : Nat → Mem) (H : Heap) (locs : List Loc) (ls : Array Slot), Sim v t u hh S → HS D A s (LW o d a b h f ca ol v t u hh S) H locs → lv_has ls 9 [(0, .ref b0), (1, .ref (h 2)), (2, .ref (d 0)), (3, .ref o), (4, .int x4)] → W p l e room_1 s m args below meth c H locs (cells + 1) (slots + 6) Q (F0 m 1331 ls [])) : W p l e room_1 s m args below meth c H locs cells slots Q (F0 m 1048 ls []) := by
  obtain ⟨hx, hb, hml, hown, hts⟩ := id C0.1
  unfold StepB at ok
  rcases ok with ⟨r, v9, hP, hG, hv0, hs⟩ | ⟨k, E, t9, r, v9, hk, hT, hG, hv0, hs⟩
  · refine lv_aload_n hx hb dL_law_1048 rfl (lv_at hl 1 rfl) ?_
    refine lv_aload_n hx hb dL_law_1049 rfl (lv_at hl 0 rfl) ?_
    refine lv_iload hx hb dL_law_1050 (lv_at hl 4 rfl) ?_
    refine lv_iconst (v := 1) hx hb dL_law_1052 (by decide) ?_
    refine lv_iadd hx hb dL_law_1053 ?_
    refine va_sld hx hb hX hbl hbA hH.2.2 h1 dL_law_1054 ?_
    refine lv_aload_n hx hb dL_law_1055 rfl (lv_at hl 3 rfl) ?_
    have hH := hH.perm LW_h
    refine cl_j C0 hH hl.1 (As := [.ref (h 2), .int (xs (x4 + 1).toNatClampNeg), .ref o]) (rest := []) (mL_isFound l hfl D ca o a b h f (mW d ca v ++ []) ol t u hh S (xs (x4 + 1).toNatClampNeg) hP) gL_law_L_isFound rfl rfl rfl hd_L_isFound ⟨Nat.le_of_ble_eq_true rfl, Nat.le_of_ble_eq_true rfl⟩ hroom rfl (Nat.le_of_ble_eq_true rfl) dL_law_1056 (fun H locs hH => ?_)
    have hH := hH.perm LW_h.symm
    refine lv_istore (lv' := [(5, .int 0), (0, .ref b0), (1, .ref (h 2)), (2, .ref (d 0)), (3, .ref o), (4, .int x4)]) hx hb dL_law_1059 hl (by decide) rfl (fun ls hl => ?_)
    refine lv_aload_n hx hb dL_law_1061 rfl (lv_at hl 3 rfl) ?_
    refine lv_aload_n hx hb dL_law_1062 rfl (lv_at hl 1 rfl) ?_
    refine lv_iload hx hb dL_law_1063 (lv_at hl 5 rfl) ?_
    refine lv_iconst (v := 1) hx hb dL_law_1065 (by decide) ?_
    refine lv_iadd hx hb dL_law_1066 ?_
    refine va_sld hx hb hX hbl hbA hH.2.2 h1 dL_law_1067 ?_
    have hH := hH.perm LW_m
    refine cl_iV C0 hH hl.1 (As := [.int (xs (x4 + 1).toNatClampNeg)]) (rest := []) (mX5_isFound l D ca d _ v (xs (x4 + 1).toNatClampNeg) hG) gL_law_X5_isFound rfl rfl rfl hd_X5_isFound ⟨Nat.le_of_ble_eq_true rfl, Nat.le_of_ble_eq_true rfl⟩ ⟨hroom.1, hroom.2⟩ (vM_X5 C0 hH) rfl (Nat.le_of_ble_eq_true rfl) dL_law_1068 (fun H locs hH => ?_)
    have hH := hH.perm LW_m.symm
    refine lv_istore (lv' := [(6, .int r), (5, .int 0), (0, .ref b0), (1, .ref (h 2)), (2, .ref (d 0)), (3, .ref o), (4, .int x4)]) hx hb dL_law_1071 hl (by decide) rfl (fun ls hl => ?_)
    refine lv_aload_n hx hb dL_law_1073 rfl (lv_at hl 4 rfl) ?_
    have hH := hH.perm LW_m
    refine cl_iV C0 hH hl.1 (As := []) (rest := []) (mX5_thrown l D ca d _ v9 rfl) gL_law_X5_thrown rfl rfl rfl hd_X5_thrown ⟨Nat.le_of_ble_eq_true rfl, Nat.le_of_ble_eq_true rfl⟩ ⟨hroom.1, hroom.2⟩ (vM_X5 C0 hH) rfl (Nat.le_of_ble_eq_true rfl) dL_law_1074 (fun H locs hH => ?_)
    have hH := hH.perm LW_m.symm
    refine lv_iload hx hb dL_law_1077 (lv_at hl 1 rfl) ?_
    refine lv_icmp_eq (tgt := 1084) hx hb dL_law_1079 (by decide) (fun c9 => ?_) (fun c9 => absurd hv0 c9)
    refine lv_iload hx hb dL_law_1084 (lv_at hl 1 rfl) ?_
    refine lv_if_ne (tgt := 1108) hx hb dL_law_1086 (by decide) (fun c9 => absurd rfl c9) (fun c9 => ?_)
    refine lv_aload_n hx hb dL_law_1089 rfl (lv_at hl 5 rfl) ?_
    refine lv_iconst (v := 0) hx hb dL_law_1090 (by decide) ?_
    refine lO C0 hH dL_law_1091 ?_
    refine lv_iload hx hb dL_law_1092 (lv_at hl 0 rfl) ?_
    refine lv_if_eq (tgt := 1101) hx hb dL_law_1094 (by decide) (fun c8 => ?_) (fun c8 => ?_)
    · rw [if_pos c8] at hH
      refine lv_lconst (v := 0) hx hb dL_law_1101 rfl ?_
      refine W.lcmp hx hb dL_law_1102 ?_
      refine lv_if_eq (tgt := 1108) hx hb dL_law_1103 (by decide) (fun c9 => ?_) (fun c9 => absurd (by rw [pk_uLs, if_pos c8]; exact lcmp_same _) c9)
      refine lv_goto (tgt := 1331) hx hb dL_law_1108 (by decide) ?_
      exact K _ v9 t u hh S _ _ _ hs hH (lv_sub hl [2, 3, 4, 5, 6] rfl)
    · rw [if_neg c8] at hH
      refine lv_lconst (v := 1) hx hb dL_law_1097 rfl ?_
      refine lv_goto (tgt := 1102) hx hb dL_law_1098 (by decide) ?_
      refine W.lcmp hx hb dL_law_1102 ?_
      refine lv_if_eq (tgt := 1108) hx hb dL_law_1103 (by decide) (fun c9 => ?_) (fun c9 => absurd (by rw [pk_uLs, if_neg c8]; exact lcmp_same _) c9)
      refine lv_goto (tgt := 1331) hx hb dL_law_1108 (by decide) ?_
      exact K _ v9 t u hh S _ _ _ hs hH (lv_sub hl [2, 3, 4, 5, 6] rfl)
  · rcases k with _ | k
    · obtain rfl := Option.some.inj hk
      rw [nI_k1] at hv0
      refine lv_aload_n hx hb dL_law_1048 rfl (lv_at hl 1 rfl) ?_
      refine lv_aload_n hx hb dL_law_1049 rfl (lv_at hl 0 rfl) ?_
      refine lv_iload hx hb dL_law_1050 (lv_at hl 4 rfl) ?_
      refine lv_iconst (v := 1) hx hb dL_law_1052 (by decide) ?_
      refine lv_iadd hx hb dL_law_1053 ?_
      refine va_sld hx hb hX hbl hbA hH.2.2 h1 dL_law_1054 ?_
      refine lv_aload_n hx hb dL_law_1055 rfl (lv_at hl 3 rfl) ?_
      have hH := hH.perm LW_h
      refine cl_j C0 hH hl.1 (As := [.ref (h 2), .int (xs (x4 + 1).toNatClampNeg), .ref o]) (rest := []) (eL_isFound_1 l hfl D ca o a b h f (mW d ca v ++ []) ol t u hh S (xs (x4 + 1).toNatClampNeg) hT) gL_law_L_isFound rfl rfl rfl hd_L_isFound ⟨Nat.le_of_ble_eq_true rfl, Nat.le_of_ble_eq_true rfl⟩ hroom rfl (Nat.le_of_ble_eq_true rfl) dL_law_1056 (fun H locs hH => ?_)
      have hH := hH.perm LW_h.symm
      refine lv_istore (lv' := [(5, .int 1), (0, .ref b0), (1, .ref (h 2)), (2, .ref (d 0)), (3, .ref o), (4, .int x4)]) hx hb dL_law_1059 hl (by decide) rfl (fun ls hl => ?_)
      refine lv_aload_n hx hb dL_law_1061 rfl (lv_at hl 3 rfl) ?_
      refine lv_aload_n hx hb dL_law_1062 rfl (lv_at hl 1 rfl) ?_
      refine lv_iload hx hb dL_law_1063 (lv_at hl 5 rfl) ?_
      refine lv_iconst (v := 1) hx hb dL_law_1065 (by decide) ?_
      refine lv_iadd hx hb dL_law_1066 ?_
      refine va_sld hx hb hX hbl hbA hH.2.2 h1 dL_law_1067 ?_
      have hH := hH.perm LW_m
      refine cl_iV C0 hH hl.1 (As := [.int (xs (x4 + 1).toNatClampNeg)]) (rest := []) (mX5_isFound l D ca d _ v (xs (x4 + 1).toNatClampNeg) hG) gL_law_X5_isFound rfl rfl rfl hd_X5_isFound ⟨Nat.le_of_ble_eq_true rfl, Nat.le_of_ble_eq_true rfl⟩ ⟨hroom.1, hroom.2⟩ (vM_X5 C0 hH) rfl (Nat.le_of_ble_eq_true rfl) dL_law_1068 (fun H locs hH => ?_)
      have hH := hH.perm LW_m.symm
      refine lv_istore (lv' := [(6, .int r), (5, .int 1), (0, .ref b0), (1, .ref (h 2)), (2, .ref (d 0)), (3, .ref o), (4, .int x4)]) hx hb dL_law_1071 hl (by decide) rfl (fun ls hl => ?_)
      refine lv_aload_n hx hb dL_law_1073 rfl (lv_at hl 4 rfl) ?_
      have hH := hH.perm LW_m
      refine cl_iV C0 hH hl.1 (As := []) (rest := []) (mX5_thrown l D ca d _ v9 rfl) gL_law_X5_thrown rfl rfl rfl hd_X5_thrown ⟨Nat.le_of_ble_eq_true rfl, Nat.le_of_ble_eq_true rfl⟩ ⟨hroom.1, hroom.2⟩ (vM_X5 C0 hH) rfl (Nat.le_of_ble_eq_true rfl) dL_law_1074 (fun H locs hH => ?_)
      have hH := hH.perm LW_m.symm
      refine lv_iload hx hb dL_law_1077 (lv_at hl 1 rfl) ?_
      refine lv_icmp_eq (tgt := 1084) hx hb dL_law_1079 (by decide) (fun c9 => ?_) (fun c9 => absurd hv0 c9)
      refine lv_iload hx hb dL_law_1084 (lv_at hl 1 rfl) ?_
      refine lv_if_ne (tgt := 1108) hx hb dL_law_1086 (by decide) (fun c9 => ?_) (fun c9 => absurd c9 (by decide))
      refine lv_goto (tgt := 1331) hx hb dL_law_1108 (by decide) ?_
      exact K _ v9 t9 u hh S _ _ _ hs hH (lv_sub hl [2, 3, 4, 5, 6] rfl)
    · simp at hk
set_option maxHeartbeats 4000000 in
set_option maxRecDepth 100000 in
theorem law_22 {p : Program} {l : Launch} {e : Env} {s : State} {m : MethodId} {args : Array Value} {below : List Frame} {meth : Method} {c : Code} {H : Heap} {locs : List Loc} {cells slots : Nat} {Q : State → Prop} {ls : Array Slot} {D : va_G} {ca : Gp} {A : Nat → Prop} {b0 L o : Nat} {xs : Nat → Int32} {d a b h : Nat → Nat} {f : Nat → Nat → Nat} {ol : Nat → Int64} {v t u hh : Mem} {S : Nat → Mem} {x4 : Int32} {Sim : Mem → Mem → Mem → Mem → (Nat → Mem) → Prop} (C0 : Cx p s m args c cL_law 9 wsL_law RL D ca A) (hfl : l.stackTraces = false) (hX : va_X b0 L xs s s.heap) (hbl : b0 < s.heap.size) (hbA : ¬ A b0) (hH : HS D A s (LW o d a b h f ca ol v t u hh S) H locs) (hl : lv_has ls 9 [(0, .ref b0), (1, .ref (h 2)), (2, .ref (d 0)), (3, .ref o), (4, .int x4)]) (h1 : vp_in (x4 + 1) L) (h2 : vp_in (x4 + 2) L) (h3 : vp_in (x4 + 3) L) (hroom : cells + 1 ≤ room_1.cells ∧ slots + 6 ≤ room_1.slots) (ok : StepD Sim (pX4_missing t u hh S ) (pX5_missing v ) t u hh S) (K : ∀ (ol : Nat → Int64) (v t u hh : Mem) (S : Nat → Mem) (H : Heap) (locs : List Loc) (ls : Array Slot), Sim v t u hh S → HS D A s (LW o d a b h f ca ol v t u hh S) H locs → lv_has ls 9 [(0, .ref b0), (1, .ref (h 2)), (2, .ref (d 0)), (3, .ref o), (4, .int x4)] → W p l e room_1 s m args below meth c H locs (cells + 1) (slots + 6) Q (F0 m 1331 ls [])) : W p l e room_1 s m args below meth c H locs cells slots Q (F0 m 1111 ls []) := by
  obtain ⟨hx, hb, hml, hown, hts⟩ := id C0.1
  unfold StepD at ok
  obtain ⟨r, v9, hP, hG, hs⟩ := ok
  refine lv_aload_n hx hb dL_law_1111 rfl (lv_at hl 1 rfl) ?_
  have hH := hH.perm LW_g
  refine cl_iV C0 hH hl.1 (As := []) (rest := []) (mX4_missing l D ca a b h f (oW o ca ol ++ (mW d ca v ++ [])) t u hh S  hP) gL_law_X4_missing rfl rfl rfl hd_X4_missing ⟨Nat.le_of_ble_eq_true rfl, Nat.le_of_ble_eq_true rfl⟩ ⟨Nat.le_of_succ_le hroom.1, Nat.le_trans (Nat.le_add_right _ 6) hroom.2⟩ (vG_X4 C0 hH) rfl (Nat.le_of_ble_eq_true rfl) dL_law_1112 (fun H locs hH => ?_)
  have hH := hH.perm LW_g.symm
  refine lv_aload_n hx hb dL_law_1115 rfl (lv_at hl 2 rfl) ?_
  have hH := hH.perm LW_m
  refine cl_iV C0 hH hl.1 (As := []) (rest := [.int r]) (mX5_missing l D ca d _ v  hG) gL_law_X5_missing rfl rfl rfl hd_X5_missing ⟨Nat.le_of_ble_eq_true rfl, Nat.le_of_ble_eq_true rfl⟩ ⟨Nat.le_of_succ_le hroom.1, Nat.le_trans (Nat.le_add_right _ 6) hroom.2⟩ (vM_X5 C0 hH) rfl (Nat.le_of_ble_eq_true rfl) dL_law_1116 (fun H locs hH => ?_)
  have hH := hH.perm LW_m.symm
  refine lv_icmp_eq (tgt := 1331) hx hb dL_law_1119 (by decide) (fun c9 => ?_) (fun c9 => absurd rfl c9)
  refine W.widen (k := cells + 1) (n := slots + 6) (Nat.le_add_right _ _) (Nat.le_add_right _ _) ?_
  exact K ol v9 t u hh S _ _ _ hs hH (lv_sub hl [0, 1, 2, 3, 4] rfl)
set_option maxHeartbeats 4000000 in
set_option maxRecDepth 100000 in
theorem law_23 {p : Program} {l : Launch} {e : Env} {s : State} {m : MethodId} {args : Array Value} {below : List Frame} {meth : Method} {c : Code} {H : Heap} {locs : List Loc} {cells slots : Nat} {Q : State → Prop} {ls : Array Slot} {D : va_G} {ca : Gp} {A : Nat → Prop} {b0 L o : Nat} {xs : Nat → Int32} {d a b h : Nat → Nat} {f : Nat → Nat → Nat} {ol : Nat → Int64} {v t u hh : Mem} {S : Nat → Mem} {x4 : Int32} {Sim : Mem → Mem → Mem → Mem → (Nat → Mem) → Prop} (C0 : Cx p s m args c cL_law 9 wsL_law RL D ca A) (hfl : l.stackTraces = false) (hX : va_X b0 L xs s s.heap) (hbl : b0 < s.heap.size) (hbA : ¬ A b0) (hH : HS D A s (LW o d a b h f ca ol v t u hh S) H locs) (hl : lv_has ls 9 [(0, .ref b0), (1, .ref (h 2)), (2, .ref (d 0)), (3, .ref o), (4, .int x4)]) (h1 : vp_in (x4 + 1) L) (h2 : vp_in (x4 + 2) L) (h3 : vp_in (x4 + 3) L) (hroom : cells + 1 ≤ room_1.cells ∧ slots + 6 ≤ room_1.slots) (ok : StepB Sim (pX4_ifWritten t u hh S (xs (x4 + 1).toNatClampNeg)) (tX4_ifWritten t u hh S (xs (x4 + 1).toNatClampNeg)) (pX5_ifWritten v (xs (x4 + 1).toNatClampNeg)) ["java/lang/IndexOutOfBoundsException"] t u hh S) (K : ∀ (ol : Nat → Int64) (v t u hh : Mem) (S : Nat → Mem) (H : Heap) (locs : List Loc) (ls : Array Slot), Sim v t u hh S → HS D A s (LW o d a b h f ca ol v t u hh S) H locs → lv_has ls 9 [(0, .ref b0), (1, .ref (h 2)), (2, .ref (d 0)), (3, .ref o), (4, .int x4)] → W p l e room_1 s m args below meth c H locs (cells + 1) (slots + 6) Q (F0 m 1331 ls [])) : W p l e room_1 s m args below meth c H locs cells slots Q (F0 m 1124 ls []) := by
  obtain ⟨hx, hb, hml, hown, hts⟩ := id C0.1
  unfold StepB at ok
  rcases ok with ⟨r, v9, hP, hG, hv0, hs⟩ | ⟨k, E, t9, r, v9, hk, hT, hG, hv0, hs⟩
  · refine lv_aload_n hx hb dL_law_1124 rfl (lv_at hl 1 rfl) ?_
    refine lv_aload_n hx hb dL_law_1125 rfl (lv_at hl 0 rfl) ?_
    refine lv_iload hx hb dL_law_1126 (lv_at hl 4 rfl) ?_
    refine lv_iconst (v := 1) hx hb dL_law_1128 (by decide) ?_
    refine lv_iadd hx hb dL_law_1129 ?_
    refine va_sld hx hb hX hbl hbA hH.2.2 h1 dL_law_1130 ?_
    refine lv_aload_n hx hb dL_law_1131 rfl (lv_at hl 3 rfl) ?_
    have hH := hH.perm LW_h
    refine cl_j C0 hH hl.1 (As := [.ref (h 2), .int (xs (x4 + 1).toNatClampNeg), .ref o]) (rest := []) (mL_ifWritten l hfl D ca o a b h f (mW d ca v ++ []) ol t u hh S (xs (x4 + 1).toNatClampNeg) hP) gL_law_L_ifWritten rfl rfl rfl hd_L_ifWritten ⟨Nat.le_of_ble_eq_true rfl, Nat.le_of_ble_eq_true rfl⟩ hroom rfl (Nat.le_of_ble_eq_true rfl) dL_law_1132 (fun H locs hH => ?_)
    have hH := hH.perm LW_h.symm
    refine lv_istore (lv' := [(5, .int 0), (0, .ref b0), (1, .ref (h 2)), (2, .ref (d 0)), (3, .ref o), (4, .int x4)]) hx hb dL_law_1135 hl (by decide) rfl (fun ls hl => ?_)
    refine lv_aload_n hx hb dL_law_1137 rfl (lv_at hl 3 rfl) ?_
    refine lv_aload_n hx hb dL_law_1138 rfl (lv_at hl 1 rfl) ?_
    refine lv_iload hx hb dL_law_1139 (lv_at hl 5 rfl) ?_
    refine lv_iconst (v := 1) hx hb dL_law_1141 (by decide) ?_
    refine lv_iadd hx hb dL_law_1142 ?_
    refine va_sld hx hb hX hbl hbA hH.2.2 h1 dL_law_1143 ?_
    have hH := hH.perm LW_m
    refine cl_iV C0 hH hl.1 (As := [.int (xs (x4 + 1).toNatClampNeg)]) (rest := []) (mX5_ifWritten l D ca d _ v (xs (x4 + 1).toNatClampNeg) hG) gL_law_X5_ifWritten rfl rfl rfl hd_X5_ifWritten ⟨Nat.le_of_ble_eq_true rfl, Nat.le_of_ble_eq_true rfl⟩ ⟨hroom.1, hroom.2⟩ (vM_X5 C0 hH) rfl (Nat.le_of_ble_eq_true rfl) dL_law_1144 (fun H locs hH => ?_)
    have hH := hH.perm LW_m.symm
    refine lv_istore (lv' := [(6, .int r), (5, .int 0), (0, .ref b0), (1, .ref (h 2)), (2, .ref (d 0)), (3, .ref o), (4, .int x4)]) hx hb dL_law_1147 hl (by decide) rfl (fun ls hl => ?_)
    refine lv_aload_n hx hb dL_law_1149 rfl (lv_at hl 4 rfl) ?_
    have hH := hH.perm LW_m
    refine cl_iV C0 hH hl.1 (As := []) (rest := []) (mX5_thrown l D ca d _ v9 rfl) gL_law_X5_thrown rfl rfl rfl hd_X5_thrown ⟨Nat.le_of_ble_eq_true rfl, Nat.le_of_ble_eq_true rfl⟩ ⟨hroom.1, hroom.2⟩ (vM_X5 C0 hH) rfl (Nat.le_of_ble_eq_true rfl) dL_law_1150 (fun H locs hH => ?_)
    have hH := hH.perm LW_m.symm
    refine lv_iload hx hb dL_law_1153 (lv_at hl 1 rfl) ?_
    refine lv_icmp_eq (tgt := 1160) hx hb dL_law_1155 (by decide) (fun c9 => ?_) (fun c9 => absurd hv0 c9)
    refine lv_iload hx hb dL_law_1160 (lv_at hl 1 rfl) ?_
    refine lv_if_ne (tgt := 1177) hx hb dL_law_1162 (by decide) (fun c9 => absurd rfl c9) (fun c9 => ?_)
    refine lv_aload_n hx hb dL_law_1165 rfl (lv_at hl 5 rfl) ?_
    refine lv_iconst (v := 0) hx hb dL_law_1166 (by decide) ?_
    refine lO C0 hH dL_law_1167 ?_
    refine lv_iload hx hb dL_law_1168 (lv_at hl 0 rfl) ?_
    refine lv_i2l (v := r.toInt64) hx hb dL_law_1170 rfl ?_
    refine W.lcmp hx hb dL_law_1171 ?_
    refine lv_if_eq (tgt := 1177) hx hb dL_law_1172 (by decide) (fun c9 => ?_) (fun c9 => absurd (lcmp_same _) c9)
    refine lv_goto (tgt := 1331) hx hb dL_law_1177 (by decide) ?_
    exact K _ v9 t u hh S _ _ _ hs hH (lv_sub hl [2, 3, 4, 5, 6] rfl)
  · rcases k with _ | k
    · obtain rfl := Option.some.inj hk
      rw [nI_k1] at hv0
      refine lv_aload_n hx hb dL_law_1124 rfl (lv_at hl 1 rfl) ?_
      refine lv_aload_n hx hb dL_law_1125 rfl (lv_at hl 0 rfl) ?_
      refine lv_iload hx hb dL_law_1126 (lv_at hl 4 rfl) ?_
      refine lv_iconst (v := 1) hx hb dL_law_1128 (by decide) ?_
      refine lv_iadd hx hb dL_law_1129 ?_
      refine va_sld hx hb hX hbl hbA hH.2.2 h1 dL_law_1130 ?_
      refine lv_aload_n hx hb dL_law_1131 rfl (lv_at hl 3 rfl) ?_
      have hH := hH.perm LW_h
      refine cl_j C0 hH hl.1 (As := [.ref (h 2), .int (xs (x4 + 1).toNatClampNeg), .ref o]) (rest := []) (eL_ifWritten_1 l hfl D ca o a b h f (mW d ca v ++ []) ol t u hh S (xs (x4 + 1).toNatClampNeg) hT) gL_law_L_ifWritten rfl rfl rfl hd_L_ifWritten ⟨Nat.le_of_ble_eq_true rfl, Nat.le_of_ble_eq_true rfl⟩ hroom rfl (Nat.le_of_ble_eq_true rfl) dL_law_1132 (fun H locs hH => ?_)
      have hH := hH.perm LW_h.symm
      refine lv_istore (lv' := [(5, .int 1), (0, .ref b0), (1, .ref (h 2)), (2, .ref (d 0)), (3, .ref o), (4, .int x4)]) hx hb dL_law_1135 hl (by decide) rfl (fun ls hl => ?_)
      refine lv_aload_n hx hb dL_law_1137 rfl (lv_at hl 3 rfl) ?_
      refine lv_aload_n hx hb dL_law_1138 rfl (lv_at hl 1 rfl) ?_
      refine lv_iload hx hb dL_law_1139 (lv_at hl 5 rfl) ?_
      refine lv_iconst (v := 1) hx hb dL_law_1141 (by decide) ?_
      refine lv_iadd hx hb dL_law_1142 ?_
      refine va_sld hx hb hX hbl hbA hH.2.2 h1 dL_law_1143 ?_
      have hH := hH.perm LW_m
      refine cl_iV C0 hH hl.1 (As := [.int (xs (x4 + 1).toNatClampNeg)]) (rest := []) (mX5_ifWritten l D ca d _ v (xs (x4 + 1).toNatClampNeg) hG) gL_law_X5_ifWritten rfl rfl rfl hd_X5_ifWritten ⟨Nat.le_of_ble_eq_true rfl, Nat.le_of_ble_eq_true rfl⟩ ⟨hroom.1, hroom.2⟩ (vM_X5 C0 hH) rfl (Nat.le_of_ble_eq_true rfl) dL_law_1144 (fun H locs hH => ?_)
      have hH := hH.perm LW_m.symm
      refine lv_istore (lv' := [(6, .int r), (5, .int 1), (0, .ref b0), (1, .ref (h 2)), (2, .ref (d 0)), (3, .ref o), (4, .int x4)]) hx hb dL_law_1147 hl (by decide) rfl (fun ls hl => ?_)
      refine lv_aload_n hx hb dL_law_1149 rfl (lv_at hl 4 rfl) ?_
      have hH := hH.perm LW_m
      refine cl_iV C0 hH hl.1 (As := []) (rest := []) (mX5_thrown l D ca d _ v9 rfl) gL_law_X5_thrown rfl rfl rfl hd_X5_thrown ⟨Nat.le_of_ble_eq_true rfl, Nat.le_of_ble_eq_true rfl⟩ ⟨hroom.1, hroom.2⟩ (vM_X5 C0 hH) rfl (Nat.le_of_ble_eq_true rfl) dL_law_1150 (fun H locs hH => ?_)
      have hH := hH.perm LW_m.symm
      refine lv_iload hx hb dL_law_1153 (lv_at hl 1 rfl) ?_
      refine lv_icmp_eq (tgt := 1160) hx hb dL_law_1155 (by decide) (fun c9 => ?_) (fun c9 => absurd hv0 c9)
      refine lv_iload hx hb dL_law_1160 (lv_at hl 1 rfl) ?_
      refine lv_if_ne (tgt := 1177) hx hb dL_law_1162 (by decide) (fun c9 => ?_) (fun c9 => absurd c9 (by decide))
      refine lv_goto (tgt := 1331) hx hb dL_law_1177 (by decide) ?_
      exact K _ v9 t9 u hh S _ _ _ hs hH (lv_sub hl [2, 3, 4, 5, 6] rfl)
    · simp at hk
set_option maxHeartbeats 4000000 in
set_option maxRecDepth 100000 in
theorem law_24 {p : Program} {l : Launch} {e : Env} {s : State} {m : MethodId} {args : Array Value} {below : List Frame} {meth : Method} {c : Code} {H : Heap} {locs : List Loc} {cells slots : Nat} {Q : State → Prop} {ls : Array Slot} {D : va_G} {ca : Gp} {A : Nat → Prop} {b0 L o : Nat} {xs : Nat → Int32} {d a b h : Nat → Nat} {f : Nat → Nat → Nat} {ol : Nat → Int64} {v t u hh : Mem} {S : Nat → Mem} {x4 : Int32} {Sim : Mem → Mem → Mem → Mem → (Nat → Mem) → Prop} (C0 : Cx p s m args c cL_law 9 wsL_law RL D ca A) (hfl : l.stackTraces = false) (hX : va_X b0 L xs s s.heap) (hbl : b0 < s.heap.size) (hbA : ¬ A b0) (hH : HS D A s (LW o d a b h f ca ol v t u hh S) H locs) (hl : lv_has ls 9 [(0, .ref b0), (1, .ref (h 2)), (2, .ref (d 0)), (3, .ref o), (4, .int x4)]) (h1 : vp_in (x4 + 1) L) (h2 : vp_in (x4 + 2) L) (h3 : vp_in (x4 + 3) L) (hroom : cells + 1 ≤ room_1.cells ∧ slots + 6 ≤ room_1.slots) (ok : StepD Sim (pX4_ifDestaged t u hh S ) (pX5_ifDestaged v ) t u hh S) (K : ∀ (ol : Nat → Int64) (v t u hh : Mem) (S : Nat → Mem) (H : Heap) (locs : List Loc) (ls : Array Slot), Sim v t u hh S → HS D A s (LW o d a b h f ca ol v t u hh S) H locs → lv_has ls 9 [(0, .ref b0), (1, .ref (h 2)), (2, .ref (d 0)), (3, .ref o), (4, .int x4)] → W p l e room_1 s m args below meth c H locs (cells + 1) (slots + 6) Q (F0 m 1331 ls [])) : W p l e room_1 s m args below meth c H locs cells slots Q (F0 m 1180 ls []) := by
  obtain ⟨hx, hb, hml, hown, hts⟩ := id C0.1
  unfold StepD at ok
  obtain ⟨r, v9, hP, hG, hs⟩ := ok
  refine lv_aload_n hx hb dL_law_1180 rfl (lv_at hl 1 rfl) ?_
  have hH := hH.perm LW_g
  refine cl_iV C0 hH hl.1 (As := []) (rest := []) (mX4_ifDestaged l D ca a b h f (oW o ca ol ++ (mW d ca v ++ [])) t u hh S  hP) gL_law_X4_ifDestaged rfl rfl rfl hd_X4_ifDestaged ⟨Nat.le_of_ble_eq_true rfl, Nat.le_of_ble_eq_true rfl⟩ ⟨Nat.le_of_succ_le hroom.1, Nat.le_trans (Nat.le_add_right _ 6) hroom.2⟩ (vG_X4 C0 hH) rfl (Nat.le_of_ble_eq_true rfl) dL_law_1181 (fun H locs hH => ?_)
  have hH := hH.perm LW_g.symm
  refine lv_aload_n hx hb dL_law_1184 rfl (lv_at hl 2 rfl) ?_
  have hH := hH.perm LW_m
  refine cl_iV C0 hH hl.1 (As := []) (rest := [.int r]) (mX5_ifDestaged l D ca d _ v  hG) gL_law_X5_ifDestaged rfl rfl rfl hd_X5_ifDestaged ⟨Nat.le_of_ble_eq_true rfl, Nat.le_of_ble_eq_true rfl⟩ ⟨Nat.le_of_succ_le hroom.1, Nat.le_trans (Nat.le_add_right _ 6) hroom.2⟩ (vM_X5 C0 hH) rfl (Nat.le_of_ble_eq_true rfl) dL_law_1185 (fun H locs hH => ?_)
  have hH := hH.perm LW_m.symm
  refine lv_icmp_eq (tgt := 1331) hx hb dL_law_1188 (by decide) (fun c9 => ?_) (fun c9 => absurd rfl c9)
  refine W.widen (k := cells + 1) (n := slots + 6) (Nat.le_add_right _ _) (Nat.le_add_right _ _) ?_
  exact K ol v9 t u hh S _ _ _ hs hH (lv_sub hl [0, 1, 2, 3, 4] rfl)
set_option maxHeartbeats 4000000 in
set_option maxRecDepth 100000 in
theorem law_25 {p : Program} {l : Launch} {e : Env} {s : State} {m : MethodId} {args : Array Value} {below : List Frame} {meth : Method} {c : Code} {H : Heap} {locs : List Loc} {cells slots : Nat} {Q : State → Prop} {ls : Array Slot} {D : va_G} {ca : Gp} {A : Nat → Prop} {b0 L o : Nat} {xs : Nat → Int32} {d a b h : Nat → Nat} {f : Nat → Nat → Nat} {ol : Nat → Int64} {v t u hh : Mem} {S : Nat → Mem} {x4 : Int32} {Sim : Mem → Mem → Mem → Mem → (Nat → Mem) → Prop} (C0 : Cx p s m args c cL_law 9 wsL_law RL D ca A) (hfl : l.stackTraces = false) (hX : va_X b0 L xs s s.heap) (hbl : b0 < s.heap.size) (hbA : ¬ A b0) (hH : HS D A s (LW o d a b h f ca ol v t u hh S) H locs) (hl : lv_has ls 9 [(0, .ref b0), (1, .ref (h 2)), (2, .ref (d 0)), (3, .ref o), (4, .int x4)]) (h1 : vp_in (x4 + 1) L) (h2 : vp_in (x4 + 2) L) (h3 : vp_in (x4 + 3) L) (hroom : cells + 1 ≤ room_1.cells ∧ slots + 6 ≤ room_1.slots) (ok : StepD Sim (pX4_ticksToLoss t u hh S ) (pX5_ticksToLoss v ) t u hh S) (K : ∀ (ol : Nat → Int64) (v t u hh : Mem) (S : Nat → Mem) (H : Heap) (locs : List Loc) (ls : Array Slot), Sim v t u hh S → HS D A s (LW o d a b h f ca ol v t u hh S) H locs → lv_has ls 9 [(0, .ref b0), (1, .ref (h 2)), (2, .ref (d 0)), (3, .ref o), (4, .int x4)] → W p l e room_1 s m args below meth c H locs (cells + 1) (slots + 6) Q (F0 m 1331 ls [])) : W p l e room_1 s m args below meth c H locs cells slots Q (F0 m 1193 ls []) := by
  obtain ⟨hx, hb, hml, hown, hts⟩ := id C0.1
  unfold StepD at ok
  obtain ⟨r, v9, hP, hG, hs⟩ := ok
  refine lv_aload_n hx hb dL_law_1193 rfl (lv_at hl 1 rfl) ?_
  have hH := hH.perm LW_g
  refine cl_iV C0 hH hl.1 (As := []) (rest := []) (mX4_ticksToLoss l D ca a b h f (oW o ca ol ++ (mW d ca v ++ [])) t u hh S  hP) gL_law_X4_ticksToLoss rfl rfl rfl hd_X4_ticksToLoss ⟨Nat.le_of_ble_eq_true rfl, Nat.le_of_ble_eq_true rfl⟩ ⟨Nat.le_of_succ_le hroom.1, Nat.le_trans (Nat.le_add_right _ 6) hroom.2⟩ (vG_X4 C0 hH) rfl (Nat.le_of_ble_eq_true rfl) dL_law_1194 (fun H locs hH => ?_)
  have hH := hH.perm LW_g.symm
  refine lv_aload_n hx hb dL_law_1197 rfl (lv_at hl 2 rfl) ?_
  have hH := hH.perm LW_m
  refine cl_iV C0 hH hl.1 (As := []) (rest := [.int r]) (mX5_ticksToLoss l D ca d _ v  hG) gL_law_X5_ticksToLoss rfl rfl rfl hd_X5_ticksToLoss ⟨Nat.le_of_ble_eq_true rfl, Nat.le_of_ble_eq_true rfl⟩ ⟨Nat.le_of_succ_le hroom.1, Nat.le_trans (Nat.le_add_right _ 6) hroom.2⟩ (vM_X5 C0 hH) rfl (Nat.le_of_ble_eq_true rfl) dL_law_1198 (fun H locs hH => ?_)
  have hH := hH.perm LW_m.symm
  refine lv_icmp_eq (tgt := 1331) hx hb dL_law_1201 (by decide) (fun c9 => ?_) (fun c9 => absurd rfl c9)
  refine W.widen (k := cells + 1) (n := slots + 6) (Nat.le_add_right _ _) (Nat.le_add_right _ _) ?_
  exact K ol v9 t u hh S _ _ _ hs hH (lv_sub hl [0, 1, 2, 3, 4] rfl)
set_option maxHeartbeats 4000000 in
set_option maxRecDepth 100000 in
theorem law_26 {p : Program} {l : Launch} {e : Env} {s : State} {m : MethodId} {args : Array Value} {below : List Frame} {meth : Method} {c : Code} {H : Heap} {locs : List Loc} {cells slots : Nat} {Q : State → Prop} {ls : Array Slot} {D : va_G} {ca : Gp} {A : Nat → Prop} {b0 L o : Nat} {xs : Nat → Int32} {d a b h : Nat → Nat} {f : Nat → Nat → Nat} {ol : Nat → Int64} {v t u hh : Mem} {S : Nat → Mem} {x4 : Int32} {Sim : Mem → Mem → Mem → Mem → (Nat → Mem) → Prop} (C0 : Cx p s m args c cL_law 9 wsL_law RL D ca A) (hfl : l.stackTraces = false) (hX : va_X b0 L xs s s.heap) (hbl : b0 < s.heap.size) (hbA : ¬ A b0) (hH : HS D A s (LW o d a b h f ca ol v t u hh S) H locs) (hl : lv_has ls 9 [(0, .ref b0), (1, .ref (h 2)), (2, .ref (d 0)), (3, .ref o), (4, .int x4)]) (h1 : vp_in (x4 + 1) L) (h2 : vp_in (x4 + 2) L) (h3 : vp_in (x4 + 3) L) (hroom : cells + 1 ≤ room_1.cells ∧ slots + 6 ≤ room_1.slots) (ok : StepB Sim (pX4_count t u hh S (xs (x4 + 1).toNatClampNeg)) (tX4_count t u hh S (xs (x4 + 1).toNatClampNeg)) (pX5_count v (xs (x4 + 1).toNatClampNeg)) ["java/lang/IllegalArgumentException"] t u hh S) (K : ∀ (ol : Nat → Int64) (v t u hh : Mem) (S : Nat → Mem) (H : Heap) (locs : List Loc) (ls : Array Slot), Sim v t u hh S → HS D A s (LW o d a b h f ca ol v t u hh S) H locs → lv_has ls 9 [(0, .ref b0), (1, .ref (h 2)), (2, .ref (d 0)), (3, .ref o), (4, .int x4)] → W p l e room_1 s m args below meth c H locs (cells + 1) (slots + 6) Q (F0 m 1331 ls [])) : W p l e room_1 s m args below meth c H locs cells slots Q (F0 m 1206 ls []) := by
  obtain ⟨hx, hb, hml, hown, hts⟩ := id C0.1
  unfold StepB at ok
  rcases ok with ⟨r, v9, hP, hG, hv0, hs⟩ | ⟨k, E, t9, r, v9, hk, hT, hG, hv0, hs⟩
  · refine lv_aload_n hx hb dL_law_1206 rfl (lv_at hl 1 rfl) ?_
    refine lv_aload_n hx hb dL_law_1207 rfl (lv_at hl 0 rfl) ?_
    refine lv_iload hx hb dL_law_1208 (lv_at hl 4 rfl) ?_
    refine lv_iconst (v := 1) hx hb dL_law_1210 (by decide) ?_
    refine lv_iadd hx hb dL_law_1211 ?_
    refine va_sld hx hb hX hbl hbA hH.2.2 h1 dL_law_1212 ?_
    refine lv_aload_n hx hb dL_law_1213 rfl (lv_at hl 3 rfl) ?_
    have hH := hH.perm LW_h
    refine cl_j C0 hH hl.1 (As := [.ref (h 2), .int (xs (x4 + 1).toNatClampNeg), .ref o]) (rest := []) (mL_count l hfl D ca o a b h f (mW d ca v ++ []) ol t u hh S (xs (x4 + 1).toNatClampNeg) hP) gL_law_L_count rfl rfl rfl hd_L_count ⟨Nat.le_of_ble_eq_true rfl, Nat.le_of_ble_eq_true rfl⟩ hroom rfl (Nat.le_of_ble_eq_true rfl) dL_law_1214 (fun H locs hH => ?_)
    have hH := hH.perm LW_h.symm
    refine lv_istore (lv' := [(5, .int 0), (0, .ref b0), (1, .ref (h 2)), (2, .ref (d 0)), (3, .ref o), (4, .int x4)]) hx hb dL_law_1217 hl (by decide) rfl (fun ls hl => ?_)
    refine lv_aload_n hx hb dL_law_1219 rfl (lv_at hl 3 rfl) ?_
    refine lv_aload_n hx hb dL_law_1220 rfl (lv_at hl 1 rfl) ?_
    refine lv_iload hx hb dL_law_1221 (lv_at hl 5 rfl) ?_
    refine lv_iconst (v := 1) hx hb dL_law_1223 (by decide) ?_
    refine lv_iadd hx hb dL_law_1224 ?_
    refine va_sld hx hb hX hbl hbA hH.2.2 h1 dL_law_1225 ?_
    have hH := hH.perm LW_m
    refine cl_iV C0 hH hl.1 (As := [.int (xs (x4 + 1).toNatClampNeg)]) (rest := []) (mX5_count l D ca d _ v (xs (x4 + 1).toNatClampNeg) hG) gL_law_X5_count rfl rfl rfl hd_X5_count ⟨Nat.le_of_ble_eq_true rfl, Nat.le_of_ble_eq_true rfl⟩ ⟨hroom.1, hroom.2⟩ (vM_X5 C0 hH) rfl (Nat.le_of_ble_eq_true rfl) dL_law_1226 (fun H locs hH => ?_)
    have hH := hH.perm LW_m.symm
    refine lv_istore (lv' := [(6, .int r), (5, .int 0), (0, .ref b0), (1, .ref (h 2)), (2, .ref (d 0)), (3, .ref o), (4, .int x4)]) hx hb dL_law_1229 hl (by decide) rfl (fun ls hl => ?_)
    refine lv_aload_n hx hb dL_law_1231 rfl (lv_at hl 4 rfl) ?_
    have hH := hH.perm LW_m
    refine cl_iV C0 hH hl.1 (As := []) (rest := []) (mX5_thrown l D ca d _ v9 rfl) gL_law_X5_thrown rfl rfl rfl hd_X5_thrown ⟨Nat.le_of_ble_eq_true rfl, Nat.le_of_ble_eq_true rfl⟩ ⟨hroom.1, hroom.2⟩ (vM_X5 C0 hH) rfl (Nat.le_of_ble_eq_true rfl) dL_law_1232 (fun H locs hH => ?_)
    have hH := hH.perm LW_m.symm
    refine lv_iload hx hb dL_law_1235 (lv_at hl 1 rfl) ?_
    refine lv_icmp_eq (tgt := 1242) hx hb dL_law_1237 (by decide) (fun c9 => ?_) (fun c9 => absurd hv0 c9)
    refine lv_iload hx hb dL_law_1242 (lv_at hl 1 rfl) ?_
    refine lv_if_ne (tgt := 1259) hx hb dL_law_1244 (by decide) (fun c9 => absurd rfl c9) (fun c9 => ?_)
    refine lv_aload_n hx hb dL_law_1247 rfl (lv_at hl 5 rfl) ?_
    refine lv_iconst (v := 0) hx hb dL_law_1248 (by decide) ?_
    refine lO C0 hH dL_law_1249 ?_
    refine lv_iload hx hb dL_law_1250 (lv_at hl 0 rfl) ?_
    refine lv_i2l (v := r.toInt64) hx hb dL_law_1252 rfl ?_
    refine W.lcmp hx hb dL_law_1253 ?_
    refine lv_if_eq (tgt := 1259) hx hb dL_law_1254 (by decide) (fun c9 => ?_) (fun c9 => absurd (lcmp_same _) c9)
    refine lv_goto (tgt := 1331) hx hb dL_law_1259 (by decide) ?_
    exact K _ v9 t u hh S _ _ _ hs hH (lv_sub hl [2, 3, 4, 5, 6] rfl)
  · rcases k with _ | k
    · obtain rfl := Option.some.inj hk
      rw [nI_k1] at hv0
      refine lv_aload_n hx hb dL_law_1206 rfl (lv_at hl 1 rfl) ?_
      refine lv_aload_n hx hb dL_law_1207 rfl (lv_at hl 0 rfl) ?_
      refine lv_iload hx hb dL_law_1208 (lv_at hl 4 rfl) ?_
      refine lv_iconst (v := 1) hx hb dL_law_1210 (by decide) ?_
      refine lv_iadd hx hb dL_law_1211 ?_
      refine va_sld hx hb hX hbl hbA hH.2.2 h1 dL_law_1212 ?_
      refine lv_aload_n hx hb dL_law_1213 rfl (lv_at hl 3 rfl) ?_
      have hH := hH.perm LW_h
      refine cl_j C0 hH hl.1 (As := [.ref (h 2), .int (xs (x4 + 1).toNatClampNeg), .ref o]) (rest := []) (eL_count_1 l hfl D ca o a b h f (mW d ca v ++ []) ol t u hh S (xs (x4 + 1).toNatClampNeg) hT) gL_law_L_count rfl rfl rfl hd_L_count ⟨Nat.le_of_ble_eq_true rfl, Nat.le_of_ble_eq_true rfl⟩ hroom rfl (Nat.le_of_ble_eq_true rfl) dL_law_1214 (fun H locs hH => ?_)
      have hH := hH.perm LW_h.symm
      refine lv_istore (lv' := [(5, .int 1), (0, .ref b0), (1, .ref (h 2)), (2, .ref (d 0)), (3, .ref o), (4, .int x4)]) hx hb dL_law_1217 hl (by decide) rfl (fun ls hl => ?_)
      refine lv_aload_n hx hb dL_law_1219 rfl (lv_at hl 3 rfl) ?_
      refine lv_aload_n hx hb dL_law_1220 rfl (lv_at hl 1 rfl) ?_
      refine lv_iload hx hb dL_law_1221 (lv_at hl 5 rfl) ?_
      refine lv_iconst (v := 1) hx hb dL_law_1223 (by decide) ?_
      refine lv_iadd hx hb dL_law_1224 ?_
      refine va_sld hx hb hX hbl hbA hH.2.2 h1 dL_law_1225 ?_
      have hH := hH.perm LW_m
      refine cl_iV C0 hH hl.1 (As := [.int (xs (x4 + 1).toNatClampNeg)]) (rest := []) (mX5_count l D ca d _ v (xs (x4 + 1).toNatClampNeg) hG) gL_law_X5_count rfl rfl rfl hd_X5_count ⟨Nat.le_of_ble_eq_true rfl, Nat.le_of_ble_eq_true rfl⟩ ⟨hroom.1, hroom.2⟩ (vM_X5 C0 hH) rfl (Nat.le_of_ble_eq_true rfl) dL_law_1226 (fun H locs hH => ?_)
      have hH := hH.perm LW_m.symm
      refine lv_istore (lv' := [(6, .int r), (5, .int 1), (0, .ref b0), (1, .ref (h 2)), (2, .ref (d 0)), (3, .ref o), (4, .int x4)]) hx hb dL_law_1229 hl (by decide) rfl (fun ls hl => ?_)
      refine lv_aload_n hx hb dL_law_1231 rfl (lv_at hl 4 rfl) ?_
      have hH := hH.perm LW_m
      refine cl_iV C0 hH hl.1 (As := []) (rest := []) (mX5_thrown l D ca d _ v9 rfl) gL_law_X5_thrown rfl rfl rfl hd_X5_thrown ⟨Nat.le_of_ble_eq_true rfl, Nat.le_of_ble_eq_true rfl⟩ ⟨hroom.1, hroom.2⟩ (vM_X5 C0 hH) rfl (Nat.le_of_ble_eq_true rfl) dL_law_1232 (fun H locs hH => ?_)
      have hH := hH.perm LW_m.symm
      refine lv_iload hx hb dL_law_1235 (lv_at hl 1 rfl) ?_
      refine lv_icmp_eq (tgt := 1242) hx hb dL_law_1237 (by decide) (fun c9 => ?_) (fun c9 => absurd hv0 c9)
      refine lv_iload hx hb dL_law_1242 (lv_at hl 1 rfl) ?_
      refine lv_if_ne (tgt := 1259) hx hb dL_law_1244 (by decide) (fun c9 => ?_) (fun c9 => absurd c9 (by decide))
      refine lv_goto (tgt := 1331) hx hb dL_law_1259 (by decide) ?_
      exact K _ v9 t9 u hh S _ _ _ hs hH (lv_sub hl [2, 3, 4, 5, 6] rfl)
    · simp at hk
set_option maxHeartbeats 4000000 in
set_option maxRecDepth 100000 in
theorem law_28 {p : Program} {l : Launch} {e : Env} {s : State} {m : MethodId} {args : Array Value} {below : List Frame} {meth : Method} {c : Code} {H : Heap} {locs : List Loc} {cells slots : Nat} {Q : State → Prop} {ls : Array Slot} {D : va_G} {ca : Gp} {A : Nat → Prop} {b0 L o : Nat} {xs : Nat → Int32} {d a b h : Nat → Nat} {f : Nat → Nat → Nat} {ol : Nat → Int64} {v t u hh : Mem} {S : Nat → Mem} {x4 : Int32} {Sim : Mem → Mem → Mem → Mem → (Nat → Mem) → Prop} (C0 : Cx p s m args c cL_law 9 wsL_law RL D ca A) (hfl : l.stackTraces = false) (hX : va_X b0 L xs s s.heap) (hbl : b0 < s.heap.size) (hbA : ¬ A b0) (hH : HS D A s (LW o d a b h f ca ol v t u hh S) H locs) (hl : lv_has ls 9 [(0, .ref b0), (1, .ref (h 2)), (2, .ref (d 0)), (3, .ref o), (4, .int x4)]) (h1 : vp_in (x4 + 1) L) (h2 : vp_in (x4 + 2) L) (h3 : vp_in (x4 + 3) L) (hroom : cells + 1 ≤ room_1.cells ∧ slots + 6 ≤ room_1.slots) (ok : StepD Sim (pX4_savedStates t u hh S ) (pX5_savedStates v ) t u hh S) (K : ∀ (ol : Nat → Int64) (v t u hh : Mem) (S : Nat → Mem) (H : Heap) (locs : List Loc) (ls : Array Slot), Sim v t u hh S → HS D A s (LW o d a b h f ca ol v t u hh S) H locs → lv_has ls 9 [(0, .ref b0), (1, .ref (h 2)), (2, .ref (d 0)), (3, .ref o), (4, .int x4)] → W p l e room_1 s m args below meth c H locs (cells + 1) (slots + 6) Q (F0 m 1331 ls [])) : W p l e room_1 s m args below meth c H locs cells slots Q (F0 m 1305 ls []) := by
  obtain ⟨hx, hb, hml, hown, hts⟩ := id C0.1
  unfold StepD at ok
  obtain ⟨r, v9, hP, hG, hs⟩ := ok
  refine lv_aload_n hx hb dL_law_1305 rfl (lv_at hl 1 rfl) ?_
  have hH := hH.perm LW_g
  refine cl_iV C0 hH hl.1 (As := []) (rest := []) (mX4_savedStates l D ca a b h f (oW o ca ol ++ (mW d ca v ++ [])) t u hh S  hP) gL_law_X4_savedStates rfl rfl rfl hd_X4_savedStates ⟨Nat.le_of_ble_eq_true rfl, Nat.le_of_ble_eq_true rfl⟩ ⟨Nat.le_of_succ_le hroom.1, Nat.le_trans (Nat.le_add_right _ 6) hroom.2⟩ (vG_X4 C0 hH) rfl (Nat.le_of_ble_eq_true rfl) dL_law_1306 (fun H locs hH => ?_)
  have hH := hH.perm LW_g.symm
  refine lv_aload_n hx hb dL_law_1309 rfl (lv_at hl 2 rfl) ?_
  have hH := hH.perm LW_m
  refine cl_iV C0 hH hl.1 (As := []) (rest := [.int r]) (mX5_savedStates l D ca d _ v  hG) gL_law_X5_savedStates rfl rfl rfl hd_X5_savedStates ⟨Nat.le_of_ble_eq_true rfl, Nat.le_of_ble_eq_true rfl⟩ ⟨Nat.le_of_succ_le hroom.1, Nat.le_trans (Nat.le_add_right _ 6) hroom.2⟩ (vM_X5 C0 hH) rfl (Nat.le_of_ble_eq_true rfl) dL_law_1310 (fun H locs hH => ?_)
  have hH := hH.perm LW_m.symm
  refine lv_icmp_eq (tgt := 1331) hx hb dL_law_1313 (by decide) (fun c9 => ?_) (fun c9 => absurd rfl c9)
  refine W.widen (k := cells + 1) (n := slots + 6) (Nat.le_add_right _ _) (Nat.le_add_right _ _) ?_
  exact K ol v9 t u hh S _ _ _ hs hH (lv_sub hl [0, 1, 2, 3, 4] rfl)
set_option maxHeartbeats 4000000 in
set_option maxRecDepth 100000 in
theorem law_29 {p : Program} {l : Launch} {e : Env} {s : State} {m : MethodId} {args : Array Value} {below : List Frame} {meth : Method} {c : Code} {H : Heap} {locs : List Loc} {cells slots : Nat} {Q : State → Prop} {ls : Array Slot} {D : va_G} {ca : Gp} {A : Nat → Prop} {b0 L o : Nat} {xs : Nat → Int32} {d a b h : Nat → Nat} {f : Nat → Nat → Nat} {ol : Nat → Int64} {v t u hh : Mem} {S : Nat → Mem} {x4 : Int32} {Sim : Mem → Mem → Mem → Mem → (Nat → Mem) → Prop} (C0 : Cx p s m args c cL_law 9 wsL_law RL D ca A) (hfl : l.stackTraces = false) (hX : va_X b0 L xs s s.heap) (hbl : b0 < s.heap.size) (hbA : ¬ A b0) (hH : HS D A s (LW o d a b h f ca ol v t u hh S) H locs) (hl : lv_has ls 9 [(0, .ref b0), (1, .ref (h 2)), (2, .ref (d 0)), (3, .ref o), (4, .int x4)]) (h1 : vp_in (x4 + 1) L) (h2 : vp_in (x4 + 2) L) (h3 : vp_in (x4 + 3) L) (hroom : cells + 1 ≤ room_1.cells ∧ slots + 6 ≤ room_1.slots) (ok : StepD Sim (pX4_textLength t u hh S ) (pX5_textLength v ) t u hh S) (K : ∀ (ol : Nat → Int64) (v t u hh : Mem) (S : Nat → Mem) (H : Heap) (locs : List Loc) (ls : Array Slot), Sim v t u hh S → HS D A s (LW o d a b h f ca ol v t u hh S) H locs → lv_has ls 9 [(0, .ref b0), (1, .ref (h 2)), (2, .ref (d 0)), (3, .ref o), (4, .int x4)] → W p l e room_1 s m args below meth c H locs (cells + 1) (slots + 6) Q (F0 m 1331 ls [])) : W p l e room_1 s m args below meth c H locs cells slots Q (F0 m 1318 ls []) := by
  obtain ⟨hx, hb, hml, hown, hts⟩ := id C0.1
  unfold StepD at ok
  obtain ⟨r, v9, hP, hG, hs⟩ := ok
  refine lv_aload_n hx hb dL_law_1318 rfl (lv_at hl 1 rfl) ?_
  have hH := hH.perm LW_g
  refine cl_iV C0 hH hl.1 (As := []) (rest := []) (mX4_textLength l D ca a b h f (oW o ca ol ++ (mW d ca v ++ [])) t u hh S  hP) gL_law_X4_textLength rfl rfl rfl hd_X4_textLength ⟨Nat.le_of_ble_eq_true rfl, Nat.le_of_ble_eq_true rfl⟩ ⟨Nat.le_of_succ_le hroom.1, Nat.le_trans (Nat.le_add_right _ 6) hroom.2⟩ (vG_X4 C0 hH) rfl (Nat.le_of_ble_eq_true rfl) dL_law_1319 (fun H locs hH => ?_)
  have hH := hH.perm LW_g.symm
  refine lv_aload_n hx hb dL_law_1322 rfl (lv_at hl 2 rfl) ?_
  have hH := hH.perm LW_m
  refine cl_iV C0 hH hl.1 (As := []) (rest := [.int r]) (mX5_textLength l D ca d _ v  hG) gL_law_X5_textLength rfl rfl rfl hd_X5_textLength ⟨Nat.le_of_ble_eq_true rfl, Nat.le_of_ble_eq_true rfl⟩ ⟨Nat.le_of_succ_le hroom.1, Nat.le_trans (Nat.le_add_right _ 6) hroom.2⟩ (vM_X5 C0 hH) rfl (Nat.le_of_ble_eq_true rfl) dL_law_1323 (fun H locs hH => ?_)
  have hH := hH.perm LW_m.symm
  refine lv_icmp_eq (tgt := 1331) hx hb dL_law_1326 (by decide) (fun c9 => ?_) (fun c9 => absurd rfl c9)
  refine W.widen (k := cells + 1) (n := slots + 6) (Nat.le_add_right _ _) (Nat.le_add_right _ _) ?_
  exact K ol v9 t u hh S _ _ _ hs hH (lv_sub hl [0, 1, 2, 3, 4] rfl)
