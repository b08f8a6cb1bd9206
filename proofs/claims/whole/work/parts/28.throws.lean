/-! THE PUBLIC METHODS, where they throw: functions and contracts, by program. -/
theorem ng_101 : ∀ v ∈ (vx_atS RX4 101 "java/lang/IllegalStateException" exNames).filter (fun v => !goodWord v), v ∈ thrB "java/lang/IllegalStateException" := by decide +kernel
theorem ng_150 : ∀ v ∈ (vx_atS RX4 150 "java/lang/IndexOutOfBoundsException" exNames).filter (fun v => !goodWord v), v ∈ thrB "java/lang/IndexOutOfBoundsException" := by decide +kernel
theorem ng_38 : ∀ v ∈ (vx_atS RX4 38 "java/lang/IllegalArgumentException" exNames).filter (fun v => !goodWord v), v ∈ thrB "java/lang/IllegalArgumentException" := by decide +kernel
theorem gg_146_150 : ∀ v ∈ Cond.classLink RX4 146 "java/lang/IndexOutOfBoundsException" :: Cond.initialized "java/lang/IndexOutOfBoundsException" :: vx_atS RX4 150 "java/lang/IndexOutOfBoundsException" exNames, vx_ot v = true := thr_good _ _ _ _ (by decide +kernel)
theorem gg_34_38 : ∀ v ∈ Cond.classLink RX4 34 "java/lang/IllegalArgumentException" :: Cond.initialized "java/lang/IllegalArgumentException" :: vx_atS RX4 38 "java/lang/IllegalArgumentException" exNames, vx_ot v = true := thr_good _ _ _ _ (by decide +kernel)
theorem gg_97_101 : ∀ v ∈ Cond.classLink RX4 97 "java/lang/IllegalStateException" :: Cond.initialized "java/lang/IllegalStateException" :: vx_atS RX4 101 "java/lang/IllegalStateException" exNames, vx_ot v = true := thr_good _ _ _ _ (by decide +kernel)
def tX4_requireBlock (x0 : Int32) : Option String :=
  (pX4_isBlock x0).bind fun y1 =>
  if y1 = 0 then
    some "java/lang/IndexOutOfBoundsException"
  else
    none
def rTX4_requireBlock : Room := { frames := 6, cells := 1, slots := 6, locals := 90 }
set_option maxHeartbeats 4000000 in
set_option maxRecDepth 100000 in
theorem eX4_requireBlock (l : Launch) (hfl : l.stackTraces = false) (D : va_G) (ca : Gp) (w : va_W) (x0 : Int32) {E : String} (hf : tX4_requireBlock x0 = some E) : Mtv l yX4_requireBlock wsX4_requireBlock rTX4_requireBlock D ca [.int x0] (w) (w) E := by
  refine Mtv_of (own := RX4) (cc := cX4_requireBlock) (nL := 1) (by decide) rfl rfl hfl (Nat.le_of_ble_eq_true rfl) (Nat.le_of_ble_eq_true rfl) rfl rfl (Nat.le_of_ble_eq_true rfl) ?_
  intro p e s m args below meth c Q A ls C0 hH hl hthr
  obtain ⟨hx, hb, hml, hown, hts⟩ := id C0.1
  have hl : lv_has ls 1 [(0, .int x0)] := hl
  unfold tX4_requireBlock at hf
  refine lv_iload_n hx hb dX4_requireBlock_0 rfl (lv_at hl 0 rfl) ?_
  obtain ⟨y1, h_y1, hf⟩ := bnd hf
  refine cl_iS C0 hH hl.1 (As := [.int x0]) (rest := []) (mX4_isBlock l D ca (w) x0 h_y1) gX4_requireBlock_X4_isBlock rfl rfl rfl hd_X4_isBlock ⟨Nat.le_of_ble_eq_true rfl, Nat.le_of_ble_eq_true rfl⟩ ⟨Nat.zero_le _, Nat.zero_le _⟩ rfl (Nat.le_of_ble_eq_true rfl) dX4_requireBlock_1 (fun H locs hH => ?_)
  refine lv_if_ne (tgt := 17) hx hb dX4_requireBlock_4 (by decide) (fun c2 => ?_) (fun c2 => ?_)
  · rw [if_neg c2] at hf
    cases hf
  · rw [if_pos c2] at hf
    cases hf
    exact hthr.1 _ _ _ _ _ 1 146 190 150 "there is no such block" hH hl.1 (by decide) rfl (by decide +kernel) (by decide +kernel) (fun v h9 => List.mem_cons_of_mem _ (List.mem_append_right _ h9)) ng_150 gg_146_150 dX4_requireBlock_7 dX4_requireBlock_10 dX4_requireBlock_11 dX4_requireBlock_13 dX4_requireBlock_16 (Nat.le_of_ble_eq_true rfl)
def tX4_requirePower (t : Mem) (u : Mem) (hh : Mem) (S : Nat → Mem) : Option String :=
  if (u 6 1) = 0 then
    some "java/lang/IllegalStateException"
  else
    none
def rTX4_requirePower : Room := { frames := 6, cells := 1, slots := 6, locals := 90 }
set_option maxHeartbeats 4000000 in
set_option maxRecDepth 100000 in
theorem eX4_requirePower (l : Launch) (hfl : l.stackTraces = false) (D : va_G) (ca : Gp) (a b h : Nat → Nat) (f : Nat → Nat → Nat) (wr : va_W) (t u hh : Mem) (S : Nat → Mem) {E : String} (hf : tX4_requirePower t u hh S = some E) : Mtv l yX4_requirePower wsX4_requirePower rTX4_requirePower D ca [.ref (h 2)] (gW a b h f ca t u hh S wr) (gW a b h f ca t u hh S wr) E := by
  refine Mtv_of (own := RX4) (cc := cX4_requirePower) (nL := 1) (by decide) rfl rfl hfl (Nat.le_of_ble_eq_true rfl) (Nat.le_of_ble_eq_true rfl) rfl rfl (Nat.le_of_ble_eq_true rfl) ?_
  intro p e s m args below meth c Q A ls C0 hH hl hthr
  obtain ⟨hx, hb, hml, hown, hts⟩ := id C0.1
  have hl : lv_has ls 1 [(0, .ref (h 2))] := hl
  unfold tX4_requirePower at hf
  refine lv_aload_n hx hb dX4_requirePower_0 rfl (lv_at hl 0 rfl) ?_
  refine gG_X4_now C0 hH inX4_requirePower_X4 (by decide +kernel : Cond.fieldLink RX4 10 "GatheringCache" "now" "LGatheringCache$State;" ∈ wsX4_requirePower) dX4_requirePower_1 ?_
  refine gS_X1_on C0 hH.swap inX4_requirePower_X1 (by decide +kernel : Cond.fieldLink RX4 93 "GatheringCache$State" "on" "Z" ∈ wsX4_requirePower) dX4_requirePower_4 ?_
  refine lv_if_ne (tgt := 20) hx hb dX4_requirePower_7 (by decide) (fun c1 => ?_) (fun c1 => ?_)
  · rw [if_neg c1] at hf
    cases hf
  · rw [if_pos c1] at hf
    cases hf
    exact hthr.1 _ _ _ _ _ 3 97 194 101 "the power is off" hH hl.1 (by decide) rfl (by decide +kernel) (by decide +kernel) (fun v h9 => List.mem_cons_of_mem _ (List.mem_append_right _ h9)) ng_101 gg_97_101 dX4_requirePower_10 dX4_requirePower_13 dX4_requirePower_14 dX4_requirePower_16 dX4_requirePower_19 (Nat.le_of_ble_eq_true rfl)
def tX4_write (t : Mem) (u : Mem) (hh : Mem) (S : Nat → Mem) (x1 : Int32) (x2 : Int32) : Option (String × Mem) :=
  orS (tX4_requireBlock x1) t <|
  (pX4_requireBlock x1).bind fun q2 =>
  if x2 < 0 then
    some ("java/lang/IllegalArgumentException", t)
  else
    if x2 ≤ 999 then
      orS (tX4_requirePower t u hh S) t <|
      (pX4_requirePower t u hh S).bind fun q6 =>
      none
    else
      some ("java/lang/IllegalArgumentException", t)
def rTX4_write : Room := { frames := 7, cells := 1, slots := 6, locals := 142 }
set_option maxHeartbeats 4000000 in
set_option maxRecDepth 100000 in
theorem eX4_write (l : Launch) (hfl : l.stackTraces = false) (D : va_G) (ca : Gp) (a b h : Nat → Nat) (f : Nat → Nat → Nat) (wr : va_W) (t u hh : Mem) (S : Nat → Mem) (x1 : Int32) (x2 : Int32) {E : String} {t9 : Mem} (hf : tX4_write t u hh S x1 x2 = some (E, t9)) : Mti l yX4_write wsX4_write rTX4_write D ca [.ref (h 2), .int x1, .int x2] (gW a b h f ca t u hh S wr) (gW a b h f ca t9 u hh S wr) E := by
  refine Mti_of (own := RX4) (cc := cX4_write) (nL := 3) (by decide) rfl rfl hfl (Nat.le_of_ble_eq_true rfl) (Nat.le_of_ble_eq_true rfl) rfl rfl (Nat.le_of_ble_eq_true rfl) ?_
  intro p e s m args below meth c Q A ls C0 hH hl hthr
  obtain ⟨hx, hb, hml, hown, hts⟩ := id C0.1
  have hl : lv_has ls 3 [(0, .ref (h 2)), (1, .int x1), (2, .int x2)] := hl
  unfold tX4_write at hf
  refine lv_iload_n hx hb dX4_write_0 rfl (lv_at hl 1 rfl) ?_
  rcases orS_s hf with ⟨e1, rfl⟩ | hf
  · refine cx_vS C0 hH hl.1 (As := [.int x1]) (rest := []) (eX4_requireBlock l hfl D ca _ x1 e1) gX4_write_X4_requireBlock rfl rfl rfl hd_X4_requireBlock ⟨Nat.le_of_ble_eq_true rfl, Nat.le_of_ble_eq_true rfl⟩ ⟨Nat.le_of_ble_eq_true rfl, Nat.le_of_ble_eq_true rfl⟩ rfl (Nat.le_of_ble_eq_true rfl) dX4_write_1 (fun H locs q ce hH hq hv hcl => ?_)
    exact hthr.2 _ _ _ _ _ q ce hH hq hv hcl
  · obtain ⟨q2, h_q2, hf⟩ := bnd hf
    refine cl_vS C0 hH hl.1 (As := [.int x1]) (rest := []) (mX4_requireBlock l D ca _ x1 h_q2) gX4_write_X4_requireBlock rfl rfl rfl hd_X4_requireBlock ⟨Nat.le_of_ble_eq_true rfl, Nat.le_of_ble_eq_true rfl⟩ ⟨Nat.zero_le _, Nat.zero_le _⟩ rfl (Nat.le_of_ble_eq_true rfl) dX4_write_1 (fun H locs hH => ?_)
    refine lv_iload_n hx hb dX4_write_4 rfl (lv_at hl 2 rfl) ?_
    refine lv_if_lt (tgt := 15) hx hb dX4_write_5 (by decide) (fun c3 => ?_) (fun c3 => ?_)
    · rw [if_pos c3] at hf
      cases hf
      exact hthr.1 _ _ _ _ _ 2 34 36 38 "the value is out of range" hH hl.1 (by decide) rfl (by decide +kernel) (by decide +kernel) (fun v h9 => List.mem_cons_of_mem _ (List.mem_append_left _ (List.mem_append_left _ (List.mem_append_right _ h9)))) ng_38 gg_34_38 dX4_write_15 dX4_write_18 dX4_write_19 dX4_write_21 dX4_write_24 (Nat.le_of_ble_eq_true rfl)
    · rw [if_neg c3] at hf
      refine lv_iload_n hx hb dX4_write_8 rfl (lv_at hl 2 rfl) ?_
      refine lv_sipush (v := 999) hx hb dX4_write_9 (by decide) ?_
      refine lv_icmp_le (tgt := 25) hx hb dX4_write_12 (by decide) (fun c4 => ?_) (fun c4 => ?_)
      · rw [if_pos c4] at hf
        refine lv_aload_n hx hb dX4_write_25 rfl (lv_at hl 0 rfl) ?_
        rcases orS_s hf with ⟨e5, rfl⟩ | hf
        · refine cx_vV C0 hH hl.1 (As := []) (rest := []) (eX4_requirePower l hfl D ca a b h f wr t u hh S e5) gX4_write_X4_requirePower rfl rfl rfl hd_X4_requirePower ⟨Nat.le_of_ble_eq_true rfl, Nat.le_of_ble_eq_true rfl⟩ ⟨Nat.le_of_ble_eq_true rfl, Nat.le_of_ble_eq_true rfl⟩ (vG_X4 C0 hH) rfl (Nat.le_of_ble_eq_true rfl) dX4_write_26 (fun H locs q ce hH hq hv hcl => ?_)
          exact hthr.2 _ _ _ _ _ q ce hH hq hv hcl
        · obtain ⟨q6, h_q6, hf⟩ := bnd hf
          refine cl_vV C0 hH hl.1 (As := []) (rest := []) (mX4_requirePower l D ca a b h f wr t u hh S h_q6) gX4_write_X4_requirePower rfl rfl rfl hd_X4_requirePower ⟨Nat.le_of_ble_eq_true rfl, Nat.le_of_ble_eq_true rfl⟩ ⟨Nat.zero_le _, Nat.zero_le _⟩ (vG_X4 C0 hH) rfl (Nat.le_of_ble_eq_true rfl) dX4_write_26 (fun H locs hH => ?_)
          cases hf
      · rw [if_neg c4] at hf
        cases hf
        exact hthr.1 _ _ _ _ _ 2 34 36 38 "the value is out of range" hH hl.1 (by decide) rfl (by decide +kernel) (by decide +kernel) (fun v h9 => List.mem_cons_of_mem _ (List.mem_append_left _ (List.mem_append_left _ (List.mem_append_right _ h9)))) ng_38 gg_34_38 dX4_write_15 dX4_write_18 dX4_write_19 dX4_write_21 dX4_write_24 (Nat.le_of_ble_eq_true rfl)
def tX4_read (t : Mem) (u : Mem) (hh : Mem) (S : Nat → Mem) (x1 : Int32) : Option (String × Mem) :=
  orS (tX4_requireBlock x1) t <|
  (pX4_requireBlock x1).bind fun q2 =>
  orS (tX4_requirePower t u hh S) t <|
  (pX4_requirePower t u hh S).bind fun q4 =>
  none
def rTX4_read : Room := { frames := 7, cells := 1, slots := 6, locals := 142 }
set_option maxHeartbeats 4000000 in
set_option maxRecDepth 100000 in
theorem eX4_read (l : Launch) (hfl : l.stackTraces = false) (D : va_G) (ca : Gp) (a b h : Nat → Nat) (f : Nat → Nat → Nat) (wr : va_W) (t u hh : Mem) (S : Nat → Mem) (x1 : Int32) {E : String} {t9 : Mem} (hf : tX4_read t u hh S x1 = some (E, t9)) : Mti l yX4_read wsX4_read rTX4_read D ca [.ref (h 2), .int x1] (gW a b h f ca t u hh S wr) (gW a b h f ca t9 u hh S wr) E := by
  refine Mti_of (own := RX4) (cc := cX4_read) (nL := 2) (by decide) rfl rfl hfl (Nat.le_of_ble_eq_true rfl) (Nat.le_of_ble_eq_true rfl) rfl rfl (Nat.le_of_ble_eq_true rfl) ?_
  intro p e s m args below meth c Q A ls C0 hH hl hthr
  obtain ⟨hx, hb, hml, hown, hts⟩ := id C0.1
  have hl : lv_has ls 2 [(0, .ref (h 2)), (1, .int x1)] := hl
  unfold tX4_read at hf
  refine lv_iload_n hx hb dX4_read_0 rfl (lv_at hl 1 rfl) ?_
  rcases orS_s hf with ⟨e1, rfl⟩ | hf
  · refine cx_vS C0 hH hl.1 (As := [.int x1]) (rest := []) (eX4_requireBlock l hfl D ca _ x1 e1) gX4_read_X4_requireBlock rfl rfl rfl hd_X4_requireBlock ⟨Nat.le_of_ble_eq_true rfl, Nat.le_of_ble_eq_true rfl⟩ ⟨Nat.le_of_ble_eq_true rfl, Nat.le_of_ble_eq_true rfl⟩ rfl (Nat.le_of_ble_eq_true rfl) dX4_read_1 (fun H locs q ce hH hq hv hcl => ?_)
    exact hthr.2 _ _ _ _ _ q ce hH hq hv hcl
  · obtain ⟨q2, h_q2, hf⟩ := bnd hf
    refine cl_vS C0 hH hl.1 (As := [.int x1]) (rest := []) (mX4_requireBlock l D ca _ x1 h_q2) gX4_read_X4_requireBlock rfl rfl rfl hd_X4_requireBlock ⟨Nat.le_of_ble_eq_true rfl, Nat.le_of_ble_eq_true rfl⟩ ⟨Nat.zero_le _, Nat.zero_le _⟩ rfl (Nat.le_of_ble_eq_true rfl) dX4_read_1 (fun H locs hH => ?_)
    refine lv_aload_n hx hb dX4_read_4 rfl (lv_at hl 0 rfl) ?_
    rcases orS_s hf with ⟨e3, rfl⟩ | hf
    · refine cx_vV C0 hH hl.1 (As := []) (rest := []) (eX4_requirePower l hfl D ca a b h f wr t u hh S e3) gX4_read_X4_requirePower rfl rfl rfl hd_X4_requirePower ⟨Nat.le_of_ble_eq_true rfl, Nat.le_of_ble_eq_true rfl⟩ ⟨Nat.le_of_ble_eq_true rfl, Nat.le_of_ble_eq_true rfl⟩ (vG_X4 C0 hH) rfl (Nat.le_of_ble_eq_true rfl) dX4_read_5 (fun H locs q ce hH hq hv hcl => ?_)
      exact hthr.2 _ _ _ _ _ q ce hH hq hv hcl
    · obtain ⟨q4, h_q4, hf⟩ := bnd hf
      refine cl_vV C0 hH hl.1 (As := []) (rest := []) (mX4_requirePower l D ca a b h f wr t u hh S h_q4) gX4_read_X4_requirePower rfl rfl rfl hd_X4_requirePower ⟨Nat.le_of_ble_eq_true rfl, Nat.le_of_ble_eq_true rfl⟩ ⟨Nat.zero_le _, Nat.zero_le _⟩ (vG_X4 C0 hH) rfl (Nat.le_of_ble_eq_true rfl) dX4_read_5 (fun H locs hH => ?_)
      cases hf
def tX4_requireStripe (x0 : Int32) : Option String :=
  if x0 < 0 then
    some "java/lang/IndexOutOfBoundsException"
  else
    if x0 < 16 then
      none
    else
      some "java/lang/IndexOutOfBoundsException"
def rTX4_requireStripe : Room := { frames := 6, cells := 1, slots := 6, locals := 90 }
set_option maxHeartbeats 4000000 in
set_option maxRecDepth 100000 in
theorem eX4_requireStripe (l : Launch) (hfl : l.stackTraces = false) (D : va_G) (ca : Gp) (w : va_W) (x0 : Int32) {E : String} (hf : tX4_requireStripe x0 = some E) : Mtv l yX4_requireStripe wsX4_requireStripe rTX4_requireStripe D ca [.int x0] (w) (w) E := by
  refine Mtv_of (own := RX4) (cc := cX4_requireStripe) (nL := 1) (by decide) rfl rfl hfl (Nat.le_of_ble_eq_true rfl) (Nat.le_of_ble_eq_true rfl) rfl rfl (Nat.le_of_ble_eq_true rfl) ?_
  intro p e s m args below meth c Q A ls C0 hH hl hthr
  obtain ⟨hx, hb, hml, hown, hts⟩ := id C0.1
  have hl : lv_has ls 1 [(0, .int x0)] := hl
  unfold tX4_requireStripe at hf
  refine lv_iload_n hx hb dX4_requireStripe_0 rfl (lv_at hl 0 rfl) ?_
  refine lv_if_lt (tgt := 10) hx hb dX4_requireStripe_1 (by decide) (fun c1 => ?_) (fun c1 => ?_)
  · rw [if_pos c1] at hf
    cases hf
    exact hthr.1 _ _ _ _ _ 4 146 192 150 "there is no such stripe" hH hl.1 (by decide) rfl (by decide +kernel) (by decide +kernel) (fun v h9 => List.mem_cons_of_mem _ (List.mem_append_right _ h9)) ng_150 gg_146_150 dX4_requireStripe_10 dX4_requireStripe_13 dX4_requireStripe_14 dX4_requireStripe_16 dX4_requireStripe_19 (Nat.le_of_ble_eq_true rfl)
  · rw [if_neg c1] at hf
    refine lv_iload_n hx hb dX4_requireStripe_4 rfl (lv_at hl 0 rfl) ?_
    refine lv_bipush (v := 16) hx hb dX4_requireStripe_5 (by decide) ?_
    refine lv_icmp_lt (tgt := 20) hx hb dX4_requireStripe_7 (by decide) (fun c2 => ?_) (fun c2 => ?_)
    · rw [if_pos c2] at hf
      cases hf
    · rw [if_neg c2] at hf
      cases hf
      exact hthr.1 _ _ _ _ _ 4 146 192 150 "there is no such stripe" hH hl.1 (by decide) rfl (by decide +kernel) (by decide +kernel) (fun v h9 => List.mem_cons_of_mem _ (List.mem_append_right _ h9)) ng_150 gg_146_150 dX4_requireStripe_10 dX4_requireStripe_13 dX4_requireStripe_14 dX4_requireStripe_16 dX4_requireStripe_19 (Nat.le_of_ble_eq_true rfl)
def tX4_requireDestaging (t : Mem) (u : Mem) (hh : Mem) (S : Nat → Mem) : Option String :=
  (pX1_canDestage u).bind fun y1 =>
  if y1 = 0 then
    some "java/lang/IllegalStateException"
  else
    none
def rTX4_requireDestaging : Room := { frames := 6, cells := 1, slots := 6, locals := 90 }
set_option maxHeartbeats 4000000 in
set_option maxRecDepth 100000 in
theorem eX4_requireDestaging (l : Launch) (hfl : l.stackTraces = false) (D : va_G) (ca : Gp) (a b h : Nat → Nat) (f : Nat → Nat → Nat) (wr : va_W) (t u hh : Mem) (S : Nat → Mem) {E : String} (hf : tX4_requireDestaging t u hh S = some E) : Mtv l yX4_requireDestaging wsX4_requireDestaging rTX4_requireDestaging D ca [.ref (h 2)] (gW a b h f ca t u hh S wr) (gW a b h f ca t u hh S wr) E := by
  refine Mtv_of (own := RX4) (cc := cX4_requireDestaging) (nL := 1) (by decide) rfl rfl hfl (Nat.le_of_ble_eq_true rfl) (Nat.le_of_ble_eq_true rfl) rfl rfl (Nat.le_of_ble_eq_true rfl) ?_
  intro p e s m args below meth c Q A ls C0 hH hl hthr
  obtain ⟨hx, hb, hml, hown, hts⟩ := id C0.1
  have hl : lv_has ls 1 [(0, .ref (h 2))] := hl
  unfold tX4_requireDestaging at hf
  refine lv_aload_n hx hb dX4_requireDestaging_0 rfl (lv_at hl 0 rfl) ?_
  refine gG_X4_now C0 hH inX4_requireDestaging_X4 (by decide +kernel : Cond.fieldLink RX4 10 "GatheringCache" "now" "LGatheringCache$State;" ∈ wsX4_requireDestaging) dX4_requireDestaging_1 ?_
  obtain ⟨y1, h_y1, hf⟩ := bnd hf
  refine cl_iV C0 hH.swap hl.1 (As := []) (rest := []) (mX1_canDestage l D ca a (tW b ca t ++ hW a b h f ca hh S wr) u h_y1) gX4_requireDestaging_X1_canDestage rfl rfl rfl hd_X1_canDestage ⟨Nat.le_of_ble_eq_true rfl, Nat.le_of_ble_eq_true rfl⟩ ⟨Nat.zero_le _, Nat.zero_le _⟩ (vS_X1 C0 hH.swap) rfl (Nat.le_of_ble_eq_true rfl) dX4_requireDestaging_4 (fun H locs hH => ?_)
  have hH := hH.swap
  refine lv_if_ne (tgt := 20) hx hb dX4_requireDestaging_7 (by decide) (fun c2 => ?_) (fun c2 => ?_)
  · rw [if_neg c2] at hf
    cases hf
  · rw [if_pos c2] at hf
    cases hf
    exact hthr.1 _ _ _ _ _ 5 97 196 101 "the power is off or the stick is out" hH hl.1 (by decide) rfl (by decide +kernel) (by decide +kernel) (fun v h9 => List.mem_cons_of_mem _ (List.mem_append_right _ h9)) ng_101 gg_97_101 dX4_requireDestaging_10 dX4_requireDestaging_13 dX4_requireDestaging_14 dX4_requireDestaging_16 dX4_requireDestaging_19 (Nat.le_of_ble_eq_true rfl)
def tX4_destage (t : Mem) (u : Mem) (hh : Mem) (S : Nat → Mem) (x1 : Int32) : Option (String × Mem) :=
  orS (tX4_requireStripe x1) t <|
  (pX4_requireStripe x1).bind fun q2 =>
  orS (tX4_requireDestaging t u hh S) t <|
  (pX4_requireDestaging t u hh S).bind fun q4 =>
  none
def rTX4_destage : Room := { frames := 7, cells := 1, slots := 6, locals := 142 }
set_option maxHeartbeats 4000000 in
set_option maxRecDepth 100000 in
theorem eX4_destage (l : Launch) (hfl : l.stackTraces = false) (D : va_G) (ca : Gp) (a b h : Nat → Nat) (f : Nat → Nat → Nat) (wr : va_W) (t u hh : Mem) (S : Nat → Mem) (x1 : Int32) {E : String} {t9 : Mem} (hf : tX4_destage t u hh S x1 = some (E, t9)) : Mti l yX4_destage wsX4_destage rTX4_destage D ca [.ref (h 2), .int x1] (gW a b h f ca t u hh S wr) (gW a b h f ca t9 u hh S wr) E := by
  refine Mti_of (own := RX4) (cc := cX4_destage) (nL := 2) (by decide) rfl rfl hfl (Nat.le_of_ble_eq_true rfl) (Nat.le_of_ble_eq_true rfl) rfl rfl (Nat.le_of_ble_eq_true rfl) ?_
  intro p e s m args below meth c Q A ls C0 hH hl hthr
  obtain ⟨hx, hb, hml, hown, hts⟩ := id C0.1
  have hl : lv_has ls 2 [(0, .ref (h 2)), (1, .int x1)] := hl
  unfold tX4_destage at hf
  refine lv_iload_n hx hb dX4_destage_0 rfl (lv_at hl 1 rfl) ?_
  rcases orS_s hf with ⟨e1, rfl⟩ | hf
  · refine cx_vS C0 hH hl.1 (As := [.int x1]) (rest := []) (eX4_requireStripe l hfl D ca _ x1 e1) gX4_destage_X4_requireStripe rfl rfl rfl hd_X4_requireStripe ⟨Nat.le_of_ble_eq_true rfl, Nat.le_of_ble_eq_true rfl⟩ ⟨Nat.le_of_ble_eq_true rfl, Nat.le_of_ble_eq_true rfl⟩ rfl (Nat.le_of_ble_eq_true rfl) dX4_destage_1 (fun H locs q ce hH hq hv hcl => ?_)
    exact hthr.2 _ _ _ _ _ q ce hH hq hv hcl
  · obtain ⟨q2, h_q2, hf⟩ := bnd hf
    refine cl_vS C0 hH hl.1 (As := [.int x1]) (rest := []) (mX4_requireStripe l D ca _ x1 h_q2) gX4_destage_X4_requireStripe rfl rfl rfl hd_X4_requireStripe ⟨Nat.le_of_ble_eq_true rfl, Nat.le_of_ble_eq_true rfl⟩ ⟨Nat.zero_le _, Nat.zero_le _⟩ rfl (Nat.le_of_ble_eq_true rfl) dX4_destage_1 (fun H locs hH => ?_)
    refine lv_aload_n hx hb dX4_destage_4 rfl (lv_at hl 0 rfl) ?_
    rcases orS_s hf with ⟨e3, rfl⟩ | hf
    · refine cx_vV C0 hH hl.1 (As := []) (rest := []) (eX4_requireDestaging l hfl D ca a b h f wr t u hh S e3) gX4_destage_X4_requireDestaging rfl rfl rfl hd_X4_requireDestaging ⟨Nat.le_of_ble_eq_true rfl, Nat.le_of_ble_eq_true rfl⟩ ⟨Nat.le_of_ble_eq_true rfl, Nat.le_of_ble_eq_true rfl⟩ (vG_X4 C0 hH) rfl (Nat.le_of_ble_eq_true rfl) dX4_destage_5 (fun H locs q ce hH hq hv hcl => ?_)
      exact hthr.2 _ _ _ _ _ q ce hH hq hv hcl
    · obtain ⟨q4, h_q4, hf⟩ := bnd hf
      refine cl_vV C0 hH hl.1 (As := []) (rest := []) (mX4_requireDestaging l D ca a b h f wr t u hh S h_q4) gX4_destage_X4_requireDestaging rfl rfl rfl hd_X4_requireDestaging ⟨Nat.le_of_ble_eq_true rfl, Nat.le_of_ble_eq_true rfl⟩ ⟨Nat.zero_le _, Nat.zero_le _⟩ (vG_X4 C0 hH) rfl (Nat.le_of_ble_eq_true rfl) dX4_destage_5 (fun H locs hH => ?_)
      cases hf
def tX4_destageAll (t : Mem) (u : Mem) (hh : Mem) (S : Nat → Mem) : Option (String × Mem) :=
  orS (tX4_requireDestaging t u hh S) t <|
  (pX4_requireDestaging t u hh S).bind fun q2 =>
  none
def rTX4_destageAll : Room := { frames := 7, cells := 1, slots := 6, locals := 142 }
set_option maxHeartbeats 4000000 in
set_option maxRecDepth 100000 in
theorem eX4_destageAll (l : Launch) (hfl : l.stackTraces = false) (D : va_G) (ca : Gp) (a b h : Nat → Nat) (f : Nat → Nat → Nat) (wr : va_W) (t u hh : Mem) (S : Nat → Mem) {E : String} {t9 : Mem} (hf : tX4_destageAll t u hh S = some (E, t9)) : Mti l yX4_destageAll wsX4_destageAll rTX4_destageAll D ca [.ref (h 2)] (gW a b h f ca t u hh S wr) (gW a b h f ca t9 u hh S wr) E := by
  refine Mti_of (own := RX4) (cc := cX4_destageAll) (nL := 1) (by decide) rfl rfl hfl (Nat.le_of_ble_eq_true rfl) (Nat.le_of_ble_eq_true rfl) rfl rfl (Nat.le_of_ble_eq_true rfl) ?_
  intro p e s m args below meth c Q A ls C0 hH hl hthr
  obtain ⟨hx, hb, hml, hown, hts⟩ := id C0.1
  have hl : lv_has ls 1 [(0, .ref (h 2))] := hl
  unfold tX4_destageAll at hf
  refine lv_aload_n hx hb dX4_destageAll_0 rfl (lv_at hl 0 rfl) ?_
  rcases orS_s hf with ⟨e1, rfl⟩ | hf
  · refine cx_vV C0 hH hl.1 (As := []) (rest := []) (eX4_requireDestaging l hfl D ca a b h f wr t u hh S e1) gX4_destageAll_X4_requireDestaging rfl rfl rfl hd_X4_requireDestaging ⟨Nat.le_of_ble_eq_true rfl, Nat.le_of_ble_eq_true rfl⟩ ⟨Nat.le_of_ble_eq_true rfl, Nat.le_of_ble_eq_true rfl⟩ (vG_X4 C0 hH) rfl (Nat.le_of_ble_eq_true rfl) dX4_destageAll_1 (fun H locs q ce hH hq hv hcl => ?_)
    exact hthr.2 _ _ _ _ _ q ce hH hq hv hcl
  · obtain ⟨q2, h_q2, hf⟩ := bnd hf
    refine cl_vV C0 hH hl.1 (As := []) (rest := []) (mX4_requireDestaging l D ca a b h f wr t u hh S h_q2) gX4_destageAll_X4_requireDestaging rfl rfl rfl hd_X4_requireDestaging ⟨Nat.le_of_ble_eq_true rfl, Nat.le_of_ble_eq_true rfl⟩ ⟨Nat.zero_le _, Nat.zero_le _⟩ (vG_X4 C0 hH) rfl (Nat.le_of_ble_eq_true rfl) dX4_destageAll_1 (fun H locs hH => ?_)
    cases hf
def tX4_pass (t : Mem) (u : Mem) (hh : Mem) (S : Nat → Mem) (x1 : Int32) : Option (String × Mem) :=
  if x1 < 1 then
    some ("java/lang/IllegalArgumentException", t)
  else
    if x1 ≤ 99 then
      none
    else
      some ("java/lang/IllegalArgumentException", t)
def rTX4_pass : Room := { frames := 6, cells := 1, slots := 6, locals := 142 }
set_option maxHeartbeats 4000000 in
set_option maxRecDepth 100000 in
theorem eX4_pass (l : Launch) (hfl : l.stackTraces = false) (D : va_G) (ca : Gp) (a b h : Nat → Nat) (f : Nat → Nat → Nat) (wr : va_W) (t u hh : Mem) (S : Nat → Mem) (x1 : Int32) {E : String} {t9 : Mem} (hf : tX4_pass t u hh S x1 = some (E, t9)) : Mti l yX4_pass wsX4_pass rTX4_pass D ca [.ref (h 2), .int x1] (gW a b h f ca t u hh S wr) (gW a b h f ca t9 u hh S wr) E := by
  refine Mti_of (own := RX4) (cc := cX4_pass) (nL := 2) (by decide) rfl rfl hfl (Nat.le_of_ble_eq_true rfl) (Nat.le_of_ble_eq_true rfl) rfl rfl (Nat.le_of_ble_eq_true rfl) ?_
  intro p e s m args below meth c Q A ls C0 hH hl hthr
  obtain ⟨hx, hb, hml, hown, hts⟩ := id C0.1
  have hl : lv_has ls 2 [(0, .ref (h 2)), (1, .int x1)] := hl
  unfold tX4_pass at hf
  refine lv_iload_n hx hb dX4_pass_0 rfl (lv_at hl 1 rfl) ?_
  refine lv_iconst (v := 1) hx hb dX4_pass_1 (by decide) ?_
  refine lv_icmp_lt (tgt := 11) hx hb dX4_pass_2 (by decide) (fun c1 => ?_) (fun c1 => ?_)
  · rw [if_pos c1] at hf
    cases hf
    exact hthr.1 _ _ _ _ _ 6 34 69 38 "the number of ticks is out of range" hH hl.1 (by decide) rfl (by decide +kernel) (by decide +kernel) (fun v h9 => List.mem_cons_of_mem _ (List.mem_append_right _ h9)) ng_38 gg_34_38 dX4_pass_11 dX4_pass_14 dX4_pass_15 dX4_pass_17 dX4_pass_20 (Nat.le_of_ble_eq_true rfl)
  · rw [if_neg c1] at hf
    refine lv_iload_n hx hb dX4_pass_5 rfl (lv_at hl 1 rfl) ?_
    refine lv_bipush (v := 99) hx hb dX4_pass_6 (by decide) ?_
    refine lv_icmp_le (tgt := 21) hx hb dX4_pass_8 (by decide) (fun c2 => ?_) (fun c2 => ?_)
    · rw [if_pos c2] at hf
      cases hf
    · rw [if_neg c2] at hf
      cases hf
      exact hthr.1 _ _ _ _ _ 6 34 69 38 "the number of ticks is out of range" hH hl.1 (by decide) rfl (by decide +kernel) (by decide +kernel) (fun v h9 => List.mem_cons_of_mem _ (List.mem_append_right _ h9)) ng_38 gg_34_38 dX4_pass_11 dX4_pass_14 dX4_pass_15 dX4_pass_17 dX4_pass_20 (Nat.le_of_ble_eq_true rfl)
def tX4_setLimit (t : Mem) (u : Mem) (hh : Mem) (S : Nat → Mem) (x1 : Int32) : Option (String × Mem) :=
  if x1 < 1 then
    some ("java/lang/IllegalArgumentException", t)
  else
    if x1 ≤ 100 then
      none
    else
      some ("java/lang/IllegalArgumentException", t)
def rTX4_setLimit : Room := { frames := 6, cells := 1, slots := 6, locals := 142 }
set_option maxHeartbeats 4000000 in
set_option maxRecDepth 100000 in
theorem eX4_setLimit (l : Launch) (hfl : l.stackTraces = false) (D : va_G) (ca : Gp) (a b h : Nat → Nat) (f : Nat → Nat → Nat) (wr : va_W) (t u hh : Mem) (S : Nat → Mem) (x1 : Int32) {E : String} {t9 : Mem} (hf : tX4_setLimit t u hh S x1 = some (E, t9)) : Mti l yX4_setLimit wsX4_setLimit rTX4_setLimit D ca [.ref (h 2), .int x1] (gW a b h f ca t u hh S wr) (gW a b h f ca t9 u hh S wr) E := by
  refine Mti_of (own := RX4) (cc := cX4_setLimit) (nL := 2) (by decide) rfl rfl hfl (Nat.le_of_ble_eq_true rfl) (Nat.le_of_ble_eq_true rfl) rfl rfl (Nat.le_of_ble_eq_true rfl) ?_
  intro p e s m args below meth c Q A ls C0 hH hl hthr
  obtain ⟨hx, hb, hml, hown, hts⟩ := id C0.1
  have hl : lv_has ls 2 [(0, .ref (h 2)), (1, .int x1)] := hl
  unfold tX4_setLimit at hf
  refine lv_iload_n hx hb dX4_setLimit_0 rfl (lv_at hl 1 rfl) ?_
  refine lv_iconst (v := 1) hx hb dX4_setLimit_1 (by decide) ?_
  refine lv_icmp_lt (tgt := 11) hx hb dX4_setLimit_2 (by decide) (fun c1 => ?_) (fun c1 => ?_)
  · rw [if_pos c1] at hf
    cases hf
    exact hthr.1 _ _ _ _ _ 7 34 84 38 "the limit is out of range" hH hl.1 (by decide) rfl (by decide +kernel) (by decide +kernel) (fun v h9 => List.mem_cons_of_mem _ (List.mem_append_right _ h9)) ng_38 gg_34_38 dX4_setLimit_11 dX4_setLimit_14 dX4_setLimit_15 dX4_setLimit_17 dX4_setLimit_20 (Nat.le_of_ble_eq_true rfl)
  · rw [if_neg c1] at hf
    refine lv_iload_n hx hb dX4_setLimit_5 rfl (lv_at hl 1 rfl) ?_
    refine lv_bipush (v := 100) hx hb dX4_setLimit_6 (by decide) ?_
    refine lv_icmp_le (tgt := 21) hx hb dX4_setLimit_8 (by decide) (fun c2 => ?_) (fun c2 => ?_)
    · rw [if_pos c2] at hf
      cases hf
    · rw [if_neg c2] at hf
      cases hf
      exact hthr.1 _ _ _ _ _ 7 34 84 38 "the limit is out of range" hH hl.1 (by decide) rfl (by decide +kernel) (by decide +kernel) (fun v h9 => List.mem_cons_of_mem _ (List.mem_append_right _ h9)) ng_38 gg_34_38 dX4_setLimit_11 dX4_setLimit_14 dX4_setLimit_15 dX4_setLimit_17 dX4_setLimit_20 (Nat.le_of_ble_eq_true rfl)
def tX4_moveStick (t : Mem) (u : Mem) (hh : Mem) (S : Nat → Mem) (x1 : Int32) : Option (String × Mem) :=
  if (u 6 1) = 0 then
    none
  else
    some ("java/lang/IllegalStateException", t)
def rTX4_moveStick : Room := { frames := 6, cells := 1, slots := 6, locals := 142 }
set_option maxHeartbeats 4000000 in
set_option maxRecDepth 100000 in
theorem eX4_moveStick (l : Launch) (hfl : l.stackTraces = false) (D : va_G) (ca : Gp) (a b h : Nat → Nat) (f : Nat → Nat → Nat) (wr : va_W) (t u hh : Mem) (S : Nat → Mem) (x1 : Int32) {E : String} {t9 : Mem} (hf : tX4_moveStick t u hh S x1 = some (E, t9)) : Mti l yX4_moveStick wsX4_moveStick rTX4_moveStick D ca [.ref (h 2), .int x1] (gW a b h f ca t u hh S wr) (gW a b h f ca t9 u hh S wr) E := by
  refine Mti_of (own := RX4) (cc := cX4_moveStick) (nL := 2) (by decide) rfl rfl hfl (Nat.le_of_ble_eq_true rfl) (Nat.le_of_ble_eq_true rfl) rfl rfl (Nat.le_of_ble_eq_true rfl) ?_
  intro p e s m args below meth c Q A ls C0 hH hl hthr
  obtain ⟨hx, hb, hml, hown, hts⟩ := id C0.1
  have hl : lv_has ls 2 [(0, .ref (h 2)), (1, .int x1)] := hl
  unfold tX4_moveStick at hf
  refine lv_aload_n hx hb dX4_moveStick_0 rfl (lv_at hl 0 rfl) ?_
  refine gG_X4_now C0 hH inX4_moveStick_X4 (by decide +kernel : Cond.fieldLink RX4 10 "GatheringCache" "now" "LGatheringCache$State;" ∈ wsX4_moveStick) dX4_moveStick_1 ?_
  refine gS_X1_on C0 hH.swap inX4_moveStick_X1 (by decide +kernel : Cond.fieldLink RX4 93 "GatheringCache$State" "on" "Z" ∈ wsX4_moveStick) dX4_moveStick_4 ?_
  refine lv_if_eq (tgt := 20) hx hb dX4_moveStick_7 (by decide) (fun c1 => ?_) (fun c1 => ?_)
  · rw [if_pos c1] at hf
    cases hf
  · rw [if_neg c1] at hf
    cases hf
    exact hthr.1 _ _ _ _ _ 8 97 99 101 "the power is on" hH hl.1 (by decide) rfl (by decide +kernel) (by decide +kernel) (fun v h9 => List.mem_cons_of_mem _ (List.mem_append_right _ h9)) ng_101 gg_97_101 dX4_moveStick_10 dX4_moveStick_13 dX4_moveStick_14 dX4_moveStick_16 dX4_moveStick_19 (Nat.le_of_ble_eq_true rfl)
def tX4_appendText (t : Mem) (u : Mem) (hh : Mem) (S : Nat → Mem) (x1 : Int32) : Option (String × Mem) :=
  if x1 < 32 then
    some ("java/lang/IllegalArgumentException", t)
  else
    if x1 ≤ 126 then
      if (t 0 0) < 80 then
        none
      else
        some ("java/lang/IllegalStateException", t)
    else
      some ("java/lang/IllegalArgumentException", t)
def rTX4_appendText : Room := { frames := 6, cells := 1, slots := 6, locals := 90 }
set_option maxHeartbeats 4000000 in
set_option maxRecDepth 100000 in
theorem eX4_appendText (l : Launch) (hfl : l.stackTraces = false) (D : va_G) (ca : Gp) (a b h : Nat → Nat) (f : Nat → Nat → Nat) (wr : va_W) (t u hh : Mem) (S : Nat → Mem) (x1 : Int32) {E : String} {t9 : Mem} (hf : tX4_appendText t u hh S x1 = some (E, t9)) : Mti l yX4_appendText wsX4_appendText rTX4_appendText D ca [.ref (h 2), .int x1] (gW a b h f ca t u hh S wr) (gW a b h f ca t9 u hh S wr) E := by
  refine Mti_of (own := RX4) (cc := cX4_appendText) (nL := 2) (by decide) rfl rfl hfl (Nat.le_of_ble_eq_true rfl) (Nat.le_of_ble_eq_true rfl) rfl rfl (Nat.le_of_ble_eq_true rfl) ?_
  intro p e s m args below meth c Q A ls C0 hH hl hthr
  obtain ⟨hx, hb, hml, hown, hts⟩ := id C0.1
  have hl : lv_has ls 2 [(0, .ref (h 2)), (1, .int x1)] := hl
  unfold tX4_appendText at hf
  refine lv_iload_n hx hb dX4_appendText_0 rfl (lv_at hl 1 rfl) ?_
  refine lv_bipush (v := 32) hx hb dX4_appendText_1 (by decide) ?_
  refine lv_icmp_lt (tgt := 12) hx hb dX4_appendText_3 (by decide) (fun c1 => ?_) (fun c1 => ?_)
  · rw [if_pos c1] at hf
    cases hf
    exact hthr.1 _ _ _ _ _ 9 34 105 38 "the character code is out of range" hH hl.1 (by decide) rfl (by decide +kernel) (by decide +kernel) (fun v h9 => List.mem_cons_of_mem _ (List.mem_append_left _ (List.mem_append_right _ h9))) ng_38 gg_34_38 dX4_appendText_12 dX4_appendText_15 dX4_appendText_16 dX4_appendText_18 dX4_appendText_21 (Nat.le_of_ble_eq_true rfl)
  · rw [if_neg c1] at hf
    refine lv_iload_n hx hb dX4_appendText_6 rfl (lv_at hl 1 rfl) ?_
    refine lv_bipush (v := 126) hx hb dX4_appendText_7 (by decide) ?_
    refine lv_icmp_le (tgt := 22) hx hb dX4_appendText_9 (by decide) (fun c2 => ?_) (fun c2 => ?_)
    · rw [if_pos c2] at hf
      refine lv_aload_n hx hb dX4_appendText_22 rfl (lv_at hl 0 rfl) ?_
      refine gG_X4_text C0 hH inX4_appendText_X4 (by decide +kernel : Cond.fieldLink RX4 26 "GatheringCache" "text" "LGatheringCache$Text;" ∈ wsX4_appendText) dX4_appendText_23 ?_
      refine gT_X3_length C0 hH inX4_appendText_X3 (by decide +kernel : Cond.fieldLink RX4 107 "GatheringCache$Text" "length" "I" ∈ wsX4_appendText) dX4_appendText_26 ?_
      refine lv_bipush (v := 80) hx hb dX4_appendText_29 (by decide) ?_
      refine lv_icmp_lt (tgt := 44) hx hb dX4_appendText_31 (by decide) (fun c3 => ?_) (fun c3 => ?_)
      · rw [if_pos c3] at hf
        cases hf
      · rw [if_neg c3] at hf
        cases hf
        exact hthr.1 _ _ _ _ _ 10 97 110 101 "the text is full" hH hl.1 (by decide) rfl (by decide +kernel) (by decide +kernel) (fun v h9 => List.mem_cons_of_mem _ (List.mem_append_right _ h9)) ng_101 gg_97_101 dX4_appendText_34 dX4_appendText_37 dX4_appendText_38 dX4_appendText_40 dX4_appendText_43 (Nat.le_of_ble_eq_true rfl)
    · rw [if_neg c2] at hf
      cases hf
      exact hthr.1 _ _ _ _ _ 9 34 105 38 "the character code is out of range" hH hl.1 (by decide) rfl (by decide +kernel) (by decide +kernel) (fun v h9 => List.mem_cons_of_mem _ (List.mem_append_left _ (List.mem_append_right _ h9))) ng_38 gg_34_38 dX4_appendText_12 dX4_appendText_15 dX4_appendText_16 dX4_appendText_18 dX4_appendText_21 (Nat.le_of_ble_eq_true rfl)
def tX4_runText (t : Mem) (u : Mem) (hh : Mem) (S : Nat → Mem) : Option (String × Mem) :=
  bd2 (pX3_firstError t) fun y1 t2 =>
  if y1 = (-1) then
    none
  else
    some ("java/lang/IllegalStateException", t2)
def rTX4_runText : Room := { frames := 7, cells := 1, slots := 6, locals := 156 }
set_option maxHeartbeats 4000000 in
set_option maxRecDepth 100000 in
theorem eX4_runText (l : Launch) (hfl : l.stackTraces = false) (D : va_G) (ca : Gp) (a b h : Nat → Nat) (f : Nat → Nat → Nat) (wr : va_W) (t u hh : Mem) (S : Nat → Mem) {E : String} {t9 : Mem} (hf : tX4_runText t u hh S = some (E, t9)) : Mti l yX4_runText wsX4_runText rTX4_runText D ca [.ref (h 2)] (gW a b h f ca t u hh S wr) (gW a b h f ca t9 u hh S wr) E := by
  refine Mti_of (own := RX4) (cc := cX4_runText) (nL := 2) (by decide) rfl rfl hfl (Nat.le_of_ble_eq_true rfl) (Nat.le_of_ble_eq_true rfl) rfl rfl (Nat.le_of_ble_eq_true rfl) ?_
  intro p e s m args below meth c Q A ls C0 hH hl hthr
  obtain ⟨hx, hb, hml, hown, hts⟩ := id C0.1
  have hl : lv_has ls 2 [(0, .ref (h 2))] := hl
  unfold tX4_runText at hf
  refine lv_aload_n hx hb dX4_runText_0 rfl (lv_at hl 0 rfl) ?_
  refine gG_X4_text C0 hH inX4_runText_X4 (by decide +kernel : Cond.fieldLink RX4 26 "GatheringCache" "text" "LGatheringCache$Text;" ∈ wsX4_runText) dX4_runText_1 ?_
  obtain ⟨y1, t2, h_y1, hf⟩ := bnd2 hf
  refine cl_iV C0 hH hl.1 (As := []) (rest := []) (mX3_firstError l D ca b (sW a ca u ++ hW a b h f ca hh S wr) t h_y1) gX4_runText_X3_firstError rfl rfl rfl hd_X3_firstError ⟨Nat.le_of_ble_eq_true rfl, Nat.le_of_ble_eq_true rfl⟩ ⟨Nat.zero_le _, Nat.zero_le _⟩ (vT_X3 C0 hH) rfl (Nat.le_of_ble_eq_true rfl) dX4_runText_4 (fun H locs hH => ?_)
  refine lv_iconst (v := (-1)) hx hb dX4_runText_7 (by decide) ?_
  refine lv_icmp_eq (tgt := 21) hx hb dX4_runText_8 (by decide) (fun c3 => ?_) (fun c3 => ?_)
  · rw [if_pos c3] at hf
    cases hf
  · rw [if_neg c3] at hf
    cases hf
    exact hthr.1 _ _ _ _ _ 11 97 119 101 "the text is not valid" hH hl.1 (by decide) rfl (by decide +kernel) (by decide +kernel) (fun v h9 => List.mem_cons_of_mem _ (List.mem_append_right _ h9)) ng_101 gg_97_101 dX4_runText_11 dX4_runText_14 dX4_runText_15 dX4_runText_17 dX4_runText_20 (Nat.le_of_ble_eq_true rfl)
def tX4_undo (t : Mem) (u : Mem) (hh : Mem) (S : Nat → Mem) : Option (String × Mem) :=
  if (hh 0 0) = 0 then
    some ("java/lang/IllegalStateException", t)
  else
    none
def rTX4_undo : Room := { frames := 6, cells := 1, slots := 6, locals := 142 }
set_option maxHeartbeats 4000000 in
set_option maxRecDepth 100000 in
theorem eX4_undo (l : Launch) (hfl : l.stackTraces = false) (D : va_G) (ca : Gp) (a b h : Nat → Nat) (f : Nat → Nat → Nat) (wr : va_W) (t u hh : Mem) (S : Nat → Mem) {E : String} {t9 : Mem} (hf : tX4_undo t u hh S = some (E, t9)) : Mti l yX4_undo wsX4_undo rTX4_undo D ca [.ref (h 2)] (gW a b h f ca t u hh S wr) (gW a b h f ca t9 u hh S wr) E := by
  refine Mti_of (own := RX4) (cc := cX4_undo) (nL := 1) (by decide) rfl rfl hfl (Nat.le_of_ble_eq_true rfl) (Nat.le_of_ble_eq_true rfl) rfl rfl (Nat.le_of_ble_eq_true rfl) ?_
  intro p e s m args below meth c Q A ls C0 hH hl hthr
  obtain ⟨hx, hb, hml, hown, hts⟩ := id C0.1
  have hl : lv_has ls 1 [(0, .ref (h 2))] := hl
  unfold tX4_undo at hf
  refine lv_aload_n hx hb dX4_undo_0 rfl (lv_at hl 0 rfl) ?_
  refine gG_X4_history C0 hH inX4_undo_X4 (by decide +kernel : Cond.fieldLink RX4 19 "GatheringCache" "history" "LGatheringCache$History;" ∈ wsX4_undo) dX4_undo_1 ?_
  refine gG_X0_size C0 hH inX4_undo_X0 (by decide +kernel : Cond.fieldLink RX4 135 "GatheringCache$History" "size" "I" ∈ wsX4_undo) dX4_undo_4 ?_
  refine lv_if_ne (tgt := 20) hx hb dX4_undo_7 (by decide) (fun c1 => ?_) (fun c1 => ?_)
  · rw [if_neg c1] at hf
    cases hf
  · rw [if_pos c1] at hf
    cases hf
    exact hthr.1 _ _ _ _ _ 12 97 138 101 "there is no saved state" hH hl.1 (by decide) rfl (by decide +kernel) (by decide +kernel) (fun v h9 => List.mem_cons_of_mem _ (List.mem_append_right _ h9)) ng_101 gg_97_101 dX4_undo_10 dX4_undo_13 dX4_undo_14 dX4_undo_16 dX4_undo_19 (Nat.le_of_ble_eq_true rfl)
def tX4_line (t : Mem) (u : Mem) (hh : Mem) (S : Nat → Mem) (x1 : Int32) (x2 : Int32) (x3 : Int32) : Option (String × Mem) :=
  if x1 < 0 then
    some ("java/lang/IndexOutOfBoundsException", t)
  else
    if 4 ≤ x1 then
      some ("java/lang/IndexOutOfBoundsException", t)
    else
      if x2 < 0 then
        some ("java/lang/IndexOutOfBoundsException", t)
      else
        if x2 < 3 then
          if x3 < 0 then
            some ("java/lang/IllegalArgumentException", t)
          else
            if x3 ≤ 4 then
              none
            else
              some ("java/lang/IllegalArgumentException", t)
        else
          some ("java/lang/IndexOutOfBoundsException", t)
def rTX4_line : Room := { frames := 6, cells := 1, slots := 6, locals := 90 }
set_option maxHeartbeats 4000000 in
set_option maxRecDepth 100000 in
theorem eX4_line (l : Launch) (hfl : l.stackTraces = false) (D : va_G) (ca : Gp) (a b h : Nat → Nat) (f : Nat → Nat → Nat) (wr : va_W) (t u hh : Mem) (S : Nat → Mem) (x1 : Int32) (x2 : Int32) (x3 : Int32) {E : String} {t9 : Mem} (hf : tX4_line t u hh S x1 x2 x3 = some (E, t9)) : Mti l yX4_line wsX4_line rTX4_line D ca [.ref (h 2), .int x1, .int x2, .int x3] (gW a b h f ca t u hh S wr) (gW a b h f ca t9 u hh S wr) E := by
  refine Mti_of (own := RX4) (cc := cX4_line) (nL := 4) (by decide) rfl rfl hfl (Nat.le_of_ble_eq_true rfl) (Nat.le_of_ble_eq_true rfl) rfl rfl (Nat.le_of_ble_eq_true rfl) ?_
  intro p e s m args below meth c Q A ls C0 hH hl hthr
  obtain ⟨hx, hb, hml, hown, hts⟩ := id C0.1
  have hl : lv_has ls 4 [(0, .ref (h 2)), (1, .int x1), (2, .int x2), (3, .int x3)] := hl
  unfold tX4_line at hf
  refine lv_iload_n hx hb dX4_line_0 rfl (lv_at hl 1 rfl) ?_
  refine lv_if_lt (tgt := 18) hx hb dX4_line_1 (by decide) (fun c1 => ?_) (fun c1 => ?_)
  · rw [if_pos c1] at hf
    cases hf
    exact hthr.1 _ _ _ _ _ 13 146 148 150 "there is no such set or line" hH hl.1 (by decide) rfl (by decide +kernel) (by decide +kernel) (fun v h9 => List.mem_cons_of_mem _ (List.mem_append_left _ (List.mem_append_right _ h9))) ng_150 gg_146_150 dX4_line_18 dX4_line_21 dX4_line_22 dX4_line_24 dX4_line_27 (Nat.le_of_ble_eq_true rfl)
  · rw [if_neg c1] at hf
    refine lv_iload_n hx hb dX4_line_4 rfl (lv_at hl 1 rfl) ?_
    refine lv_iconst (v := 4) hx hb dX4_line_5 (by decide) ?_
    refine lv_icmp_ge (tgt := 18) hx hb dX4_line_6 (by decide) (fun c2 => ?_) (fun c2 => ?_)
    · rw [if_pos c2] at hf
      cases hf
      exact hthr.1 _ _ _ _ _ 13 146 148 150 "there is no such set or line" hH hl.1 (by decide) rfl (by decide +kernel) (by decide +kernel) (fun v h9 => List.mem_cons_of_mem _ (List.mem_append_left _ (List.mem_append_right _ h9))) ng_150 gg_146_150 dX4_line_18 dX4_line_21 dX4_line_22 dX4_line_24 dX4_line_27 (Nat.le_of_ble_eq_true rfl)
    · rw [if_neg c2] at hf
      refine lv_iload_n hx hb dX4_line_9 rfl (lv_at hl 2 rfl) ?_
      refine lv_if_lt (tgt := 18) hx hb dX4_line_10 (by decide) (fun c3 => ?_) (fun c3 => ?_)
      · rw [if_pos c3] at hf
        cases hf
        exact hthr.1 _ _ _ _ _ 13 146 148 150 "there is no such set or line" hH hl.1 (by decide) rfl (by decide +kernel) (by decide +kernel) (fun v h9 => List.mem_cons_of_mem _ (List.mem_append_left _ (List.mem_append_right _ h9))) ng_150 gg_146_150 dX4_line_18 dX4_line_21 dX4_line_22 dX4_line_24 dX4_line_27 (Nat.le_of_ble_eq_true rfl)
      · rw [if_neg c3] at hf
        refine lv_iload_n hx hb dX4_line_13 rfl (lv_at hl 2 rfl) ?_
        refine lv_iconst (v := 3) hx hb dX4_line_14 (by decide) ?_
        refine lv_icmp_lt (tgt := 28) hx hb dX4_line_15 (by decide) (fun c4 => ?_) (fun c4 => ?_)
        · rw [if_pos c4] at hf
          refine lv_iload_n hx hb dX4_line_28 rfl (lv_at hl 3 rfl) ?_
          refine lv_if_lt (tgt := 37) hx hb dX4_line_29 (by decide) (fun c5 => ?_) (fun c5 => ?_)
          · rw [if_pos c5] at hf
            cases hf
            exact hthr.1 _ _ _ _ _ 14 34 151 38 "there is no such part" hH hl.1 (by decide) rfl (by decide +kernel) (by decide +kernel) (fun v h9 => List.mem_cons_of_mem _ (List.mem_append_right _ h9)) ng_38 gg_34_38 dX4_line_37 dX4_line_40 dX4_line_41 dX4_line_43 dX4_line_46 (Nat.le_of_ble_eq_true rfl)
          · rw [if_neg c5] at hf
            refine lv_iload_n hx hb dX4_line_32 rfl (lv_at hl 3 rfl) ?_
            refine lv_iconst (v := 4) hx hb dX4_line_33 (by decide) ?_
            refine lv_icmp_le (tgt := 47) hx hb dX4_line_34 (by decide) (fun c6 => ?_) (fun c6 => ?_)
            · rw [if_pos c6] at hf
              cases hf
            · rw [if_neg c6] at hf
              cases hf
              exact hthr.1 _ _ _ _ _ 14 34 151 38 "there is no such part" hH hl.1 (by decide) rfl (by decide +kernel) (by decide +kernel) (fun v h9 => List.mem_cons_of_mem _ (List.mem_append_right _ h9)) ng_38 gg_34_38 dX4_line_37 dX4_line_40 dX4_line_41 dX4_line_43 dX4_line_46 (Nat.le_of_ble_eq_true rfl)
        · rw [if_neg c4] at hf
          cases hf
          exact hthr.1 _ _ _ _ _ 13 146 148 150 "there is no such set or line" hH hl.1 (by decide) rfl (by decide +kernel) (by decide +kernel) (fun v h9 => List.mem_cons_of_mem _ (List.mem_append_left _ (List.mem_append_right _ h9))) ng_150 gg_146_150 dX4_line_18 dX4_line_21 dX4_line_22 dX4_line_24 dX4_line_27 (Nat.le_of_ble_eq_true rfl)
def tX4_dirtyOf (t : Mem) (u : Mem) (hh : Mem) (S : Nat → Mem) (x1 : Int32) : Option (String × Mem) :=
  orS (tX4_requireStripe x1) t <|
  (pX4_requireStripe x1).bind fun q2 =>
  none
def rTX4_dirtyOf : Room := { frames := 7, cells := 1, slots := 6, locals := 110 }
set_option maxHeartbeats 4000000 in
set_option maxRecDepth 100000 in
theorem eX4_dirtyOf (l : Launch) (hfl : l.stackTraces = false) (D : va_G) (ca : Gp) (a b h : Nat → Nat) (f : Nat → Nat → Nat) (wr : va_W) (t u hh : Mem) (S : Nat → Mem) (x1 : Int32) {E : String} {t9 : Mem} (hf : tX4_dirtyOf t u hh S x1 = some (E, t9)) : Mti l yX4_dirtyOf wsX4_dirtyOf rTX4_dirtyOf D ca [.ref (h 2), .int x1] (gW a b h f ca t u hh S wr) (gW a b h f ca t9 u hh S wr) E := by
  refine Mti_of (own := RX4) (cc := cX4_dirtyOf) (nL := 2) (by decide) rfl rfl hfl (Nat.le_of_ble_eq_true rfl) (Nat.le_of_ble_eq_true rfl) rfl rfl (Nat.le_of_ble_eq_true rfl) ?_
  intro p e s m args below meth c Q A ls C0 hH hl hthr
  obtain ⟨hx, hb, hml, hown, hts⟩ := id C0.1
  have hl : lv_has ls 2 [(0, .ref (h 2)), (1, .int x1)] := hl
  unfold tX4_dirtyOf at hf
  refine lv_iload_n hx hb dX4_dirtyOf_0 rfl (lv_at hl 1 rfl) ?_
  rcases orS_s hf with ⟨e1, rfl⟩ | hf
  · refine cx_vS C0 hH hl.1 (As := [.int x1]) (rest := []) (eX4_requireStripe l hfl D ca _ x1 e1) gX4_dirtyOf_X4_requireStripe rfl rfl rfl hd_X4_requireStripe ⟨Nat.le_of_ble_eq_true rfl, Nat.le_of_ble_eq_true rfl⟩ ⟨Nat.le_of_ble_eq_true rfl, Nat.le_of_ble_eq_true rfl⟩ rfl (Nat.le_of_ble_eq_true rfl) dX4_dirtyOf_1 (fun H locs q ce hH hq hv hcl => ?_)
    exact hthr.2 _ _ _ _ _ q ce hH hq hv hcl
  · obtain ⟨q2, h_q2, hf⟩ := bnd hf
    refine cl_vS C0 hH hl.1 (As := [.int x1]) (rest := []) (mX4_requireStripe l D ca _ x1 h_q2) gX4_dirtyOf_X4_requireStripe rfl rfl rfl hd_X4_requireStripe ⟨Nat.le_of_ble_eq_true rfl, Nat.le_of_ble_eq_true rfl⟩ ⟨Nat.zero_le _, Nat.zero_le _⟩ rfl (Nat.le_of_ble_eq_true rfl) dX4_dirtyOf_1 (fun H locs hH => ?_)
    cases hf
def tX4_onDisk (t : Mem) (u : Mem) (hh : Mem) (S : Nat → Mem) (x1 : Int32) : Option (String × Mem) :=
  orS (tX4_requireBlock x1) t <|
  (pX4_requireBlock x1).bind fun q2 =>
  none
def rTX4_onDisk : Room := { frames := 7, cells := 1, slots := 6, locals := 110 }
set_option maxHeartbeats 4000000 in
set_option maxRecDepth 100000 in
theorem eX4_onDisk (l : Launch) (hfl : l.stackTraces = false) (D : va_G) (ca : Gp) (a b h : Nat → Nat) (f : Nat → Nat → Nat) (wr : va_W) (t u hh : Mem) (S : Nat → Mem) (x1 : Int32) {E : String} {t9 : Mem} (hf : tX4_onDisk t u hh S x1 = some (E, t9)) : Mti l yX4_onDisk wsX4_onDisk rTX4_onDisk D ca [.ref (h 2), .int x1] (gW a b h f ca t u hh S wr) (gW a b h f ca t9 u hh S wr) E := by
  refine Mti_of (own := RX4) (cc := cX4_onDisk) (nL := 2) (by decide) rfl rfl hfl (Nat.le_of_ble_eq_true rfl) (Nat.le_of_ble_eq_true rfl) rfl rfl (Nat.le_of_ble_eq_true rfl) ?_
  intro p e s m args below meth c Q A ls C0 hH hl hthr
  obtain ⟨hx, hb, hml, hown, hts⟩ := id C0.1
  have hl : lv_has ls 2 [(0, .ref (h 2)), (1, .int x1)] := hl
  unfold tX4_onDisk at hf
  refine lv_iload_n hx hb dX4_onDisk_0 rfl (lv_at hl 1 rfl) ?_
  rcases orS_s hf with ⟨e1, rfl⟩ | hf
  · refine cx_vS C0 hH hl.1 (As := [.int x1]) (rest := []) (eX4_requireBlock l hfl D ca _ x1 e1) gX4_onDisk_X4_requireBlock rfl rfl rfl hd_X4_requireBlock ⟨Nat.le_of_ble_eq_true rfl, Nat.le_of_ble_eq_true rfl⟩ ⟨Nat.le_of_ble_eq_true rfl, Nat.le_of_ble_eq_true rfl⟩ rfl (Nat.le_of_ble_eq_true rfl) dX4_onDisk_1 (fun H locs q ce hH hq hv hcl => ?_)
    exact hthr.2 _ _ _ _ _ q ce hH hq hv hcl
  · obtain ⟨q2, h_q2, hf⟩ := bnd hf
    refine cl_vS C0 hH hl.1 (As := [.int x1]) (rest := []) (mX4_requireBlock l D ca _ x1 h_q2) gX4_onDisk_X4_requireBlock rfl rfl rfl hd_X4_requireBlock ⟨Nat.le_of_ble_eq_true rfl, Nat.le_of_ble_eq_true rfl⟩ ⟨Nat.zero_le _, Nat.zero_le _⟩ rfl (Nat.le_of_ble_eq_true rfl) dX4_onDisk_1 (fun H locs hH => ?_)
    cases hf
def tX4_isFound (t : Mem) (u : Mem) (hh : Mem) (S : Nat → Mem) (x1 : Int32) : Option (String × Mem) :=
  orS (tX4_requireBlock x1) t <|
  (pX4_requireBlock x1).bind fun q2 =>
  none
def rTX4_isFound : Room := { frames := 7, cells := 1, slots := 6, locals := 110 }
set_option maxHeartbeats 4000000 in
set_option maxRecDepth 100000 in
theorem eX4_isFound (l : Launch) (hfl : l.stackTraces = false) (D : va_G) (ca : Gp) (a b h : Nat → Nat) (f : Nat → Nat → Nat) (wr : va_W) (t u hh : Mem) (S : Nat → Mem) (x1 : Int32) {E : String} {t9 : Mem} (hf : tX4_isFound t u hh S x1 = some (E, t9)) : Mti l yX4_isFound wsX4_isFound rTX4_isFound D ca [.ref (h 2), .int x1] (gW a b h f ca t u hh S wr) (gW a b h f ca t9 u hh S wr) E := by
  refine Mti_of (own := RX4) (cc := cX4_isFound) (nL := 2) (by decide) rfl rfl hfl (Nat.le_of_ble_eq_true rfl) (Nat.le_of_ble_eq_true rfl) rfl rfl (Nat.le_of_ble_eq_true rfl) ?_
  intro p e s m args below meth c Q A ls C0 hH hl hthr
  obtain ⟨hx, hb, hml, hown, hts⟩ := id C0.1
  have hl : lv_has ls 2 [(0, .ref (h 2)), (1, .int x1)] := hl
  unfold tX4_isFound at hf
  refine lv_iload_n hx hb dX4_isFound_0 rfl (lv_at hl 1 rfl) ?_
  rcases orS_s hf with ⟨e1, rfl⟩ | hf
  · refine cx_vS C0 hH hl.1 (As := [.int x1]) (rest := []) (eX4_requireBlock l hfl D ca _ x1 e1) gX4_isFound_X4_requireBlock rfl rfl rfl hd_X4_requireBlock ⟨Nat.le_of_ble_eq_true rfl, Nat.le_of_ble_eq_true rfl⟩ ⟨Nat.le_of_ble_eq_true rfl, Nat.le_of_ble_eq_true rfl⟩ rfl (Nat.le_of_ble_eq_true rfl) dX4_isFound_1 (fun H locs q ce hH hq hv hcl => ?_)
    exact hthr.2 _ _ _ _ _ q ce hH hq hv hcl
  · obtain ⟨q2, h_q2, hf⟩ := bnd hf
    refine cl_vS C0 hH hl.1 (As := [.int x1]) (rest := []) (mX4_requireBlock l D ca _ x1 h_q2) gX4_isFound_X4_requireBlock rfl rfl rfl hd_X4_requireBlock ⟨Nat.le_of_ble_eq_true rfl, Nat.le_of_ble_eq_true rfl⟩ ⟨Nat.zero_le _, Nat.zero_le _⟩ rfl (Nat.le_of_ble_eq_true rfl) dX4_isFound_1 (fun H locs hH => ?_)
    cases hf
def tX4_ifWritten (t : Mem) (u : Mem) (hh : Mem) (S : Nat → Mem) (x1 : Int32) : Option (String × Mem) :=
  orS (tX4_requireBlock x1) t <|
  (pX4_requireBlock x1).bind fun q2 =>
  none
def rTX4_ifWritten : Room := { frames := 7, cells := 1, slots := 6, locals := 111 }
set_option maxHeartbeats 4000000 in
set_option maxRecDepth 100000 in
theorem eX4_ifWritten (l : Launch) (hfl : l.stackTraces = false) (D : va_G) (ca : Gp) (a b h : Nat → Nat) (f : Nat → Nat → Nat) (wr : va_W) (t u hh : Mem) (S : Nat → Mem) (x1 : Int32) {E : String} {t9 : Mem} (hf : tX4_ifWritten t u hh S x1 = some (E, t9)) : Mti l yX4_ifWritten wsX4_ifWritten rTX4_ifWritten D ca [.ref (h 2), .int x1] (gW a b h f ca t u hh S wr) (gW a b h f ca t9 u hh S wr) E := by
  refine Mti_of (own := RX4) (cc := cX4_ifWritten) (nL := 2) (by decide) rfl rfl hfl (Nat.le_of_ble_eq_true rfl) (Nat.le_of_ble_eq_true rfl) rfl rfl (Nat.le_of_ble_eq_true rfl) ?_
  intro p e s m args below meth c Q A ls C0 hH hl hthr
  obtain ⟨hx, hb, hml, hown, hts⟩ := id C0.1
  have hl : lv_has ls 2 [(0, .ref (h 2)), (1, .int x1)] := hl
  unfold tX4_ifWritten at hf
  refine lv_iload_n hx hb dX4_ifWritten_0 rfl (lv_at hl 1 rfl) ?_
  rcases orS_s hf with ⟨e1, rfl⟩ | hf
  · refine cx_vS C0 hH hl.1 (As := [.int x1]) (rest := []) (eX4_requireBlock l hfl D ca _ x1 e1) gX4_ifWritten_X4_requireBlock rfl rfl rfl hd_X4_requireBlock ⟨Nat.le_of_ble_eq_true rfl, Nat.le_of_ble_eq_true rfl⟩ ⟨Nat.le_of_ble_eq_true rfl, Nat.le_of_ble_eq_true rfl⟩ rfl (Nat.le_of_ble_eq_true rfl) dX4_ifWritten_1 (fun H locs q ce hH hq hv hcl => ?_)
    exact hthr.2 _ _ _ _ _ q ce hH hq hv hcl
  · obtain ⟨q2, h_q2, hf⟩ := bnd hf
    refine cl_vS C0 hH hl.1 (As := [.int x1]) (rest := []) (mX4_requireBlock l D ca _ x1 h_q2) gX4_ifWritten_X4_requireBlock rfl rfl rfl hd_X4_requireBlock ⟨Nat.le_of_ble_eq_true rfl, Nat.le_of_ble_eq_true rfl⟩ ⟨Nat.zero_le _, Nat.zero_le _⟩ rfl (Nat.le_of_ble_eq_true rfl) dX4_ifWritten_1 (fun H locs hH => ?_)
    cases hf
def tX4_count (t : Mem) (u : Mem) (hh : Mem) (S : Nat → Mem) (x1 : Int32) : Option (String × Mem) :=
  if x1 < 0 then
    some ("java/lang/IllegalArgumentException", t)
  else
    if x1 ≤ 7 then
      none
    else
      some ("java/lang/IllegalArgumentException", t)
def rTX4_count : Room := { frames := 6, cells := 1, slots := 6, locals := 90 }
set_option maxHeartbeats 4000000 in
set_option maxRecDepth 100000 in
theorem eX4_count (l : Launch) (hfl : l.stackTraces = false) (D : va_G) (ca : Gp) (a b h : Nat → Nat) (f : Nat → Nat → Nat) (wr : va_W) (t u hh : Mem) (S : Nat → Mem) (x1 : Int32) {E : String} {t9 : Mem} (hf : tX4_count t u hh S x1 = some (E, t9)) : Mti l yX4_count wsX4_count rTX4_count D ca [.ref (h 2), .int x1] (gW a b h f ca t u hh S wr) (gW a b h f ca t9 u hh S wr) E := by
  refine Mti_of (own := RX4) (cc := cX4_count) (nL := 2) (by decide) rfl rfl hfl (Nat.le_of_ble_eq_true rfl) (Nat.le_of_ble_eq_true rfl) rfl rfl (Nat.le_of_ble_eq_true rfl) ?_
  intro p e s m args below meth c Q A ls C0 hH hl hthr
  obtain ⟨hx, hb, hml, hown, hts⟩ := id C0.1
  have hl : lv_has ls 2 [(0, .ref (h 2)), (1, .int x1)] := hl
  unfold tX4_count at hf
  refine lv_iload_n hx hb dX4_count_0 rfl (lv_at hl 1 rfl) ?_
  refine lv_if_lt (tgt := 10) hx hb dX4_count_1 (by decide) (fun c1 => ?_) (fun c1 => ?_)
  · rw [if_pos c1] at hf
    cases hf
    exact hthr.1 _ _ _ _ _ 15 34 181 38 "there is no such count" hH hl.1 (by decide) rfl (by decide +kernel) (by decide +kernel) (fun v h9 => List.mem_cons_of_mem _ (List.mem_append_right _ h9)) ng_38 gg_34_38 dX4_count_10 dX4_count_13 dX4_count_14 dX4_count_16 dX4_count_19 (Nat.le_of_ble_eq_true rfl)
  · rw [if_neg c1] at hf
    refine lv_iload_n hx hb dX4_count_4 rfl (lv_at hl 1 rfl) ?_
    refine lv_bipush (v := 7) hx hb dX4_count_5 (by decide) ?_
    refine lv_icmp_le (tgt := 20) hx hb dX4_count_7 (by decide) (fun c2 => ?_) (fun c2 => ?_)
    · rw [if_pos c2] at hf
      cases hf
    · rw [if_neg c2] at hf
      cases hf
      exact hthr.1 _ _ _ _ _ 15 34 181 38 "there is no such count" hH hl.1 (by decide) rfl (by decide +kernel) (by decide +kernel) (fun v h9 => List.mem_cons_of_mem _ (List.mem_append_right _ h9)) ng_38 gg_34_38 dX4_count_10 dX4_count_13 dX4_count_14 dX4_count_16 dX4_count_19 (Nat.le_of_ble_eq_true rfl)
