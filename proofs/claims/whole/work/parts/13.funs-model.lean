/-! WHAT EACH METHOD DOES TO A MEMORY, by program out of the bytecode: none where a place is out of its row, or a loop has no end. -/
def pX5_thrown (u : Mem) : Option Int32 :=
  some (u 0 0)
def pX5_in_15 (s0 : Int32) : Option Int32 :=
  if isz s0 = true then some s0 else none
def pX5_in_14 : Option Int32 :=
  pX5_in_15 0
def pX5_in (x0 : Int32) (x1 : Int32) (x2 : Int32) : Option Int32 :=
  if x0 < x1 then
    pX5_in_14 
  else
    if x2 < x0 then
      pX5_in_14 
    else
      pX5_in_15 1
def pX5_holds_14 (s0 : Int32) (u : Mem) : Option (Int32 × Mem) :=
  if isz s0 = true then some (s0, u) else none
def pX5_holds (u : Mem) (x1 : Int32) : Option (Int32 × Mem) :=
  (pf u 0 0 x1).bind fun u1 =>
  if x1 = 0 then
    pX5_holds_14 1 u1
  else
    pX5_holds_14 0 u1
def pX5_told (u : Mem) (x1 : Int32) : Option (Int32 × Mem) :=
  (pf u 0 0 0).bind fun u1 =>
  some (x1, u1)
def pX5_isBlock (x0 : Int32) : Option Int32 :=
  (pX5_in x0 0 63).bind fun y1 =>
  if isz y1 = true then some y1 else none
def pX5_isStripe (x0 : Int32) : Option Int32 :=
  (pX5_in x0 0 15).bind fun y1 =>
  if isz y1 = true then some y1 else none
def pX5_of (u : Mem) (x1 : Int32) (x2 : Int32) : Option Int32 :=
  (ld u 1 2317 ((271 + (5 * x1)) + x2)).bind fun y1 =>
  some y1
def pX5_lay (u : Mem) (x1 : Int32) (x2 : Int32) (x3 : Int32) : Option Mem :=
  (st u 1 2317 ((271 + (5 * x1)) + x2) x3).bind fun u1 =>
  some u1
def pX5_isEmpty_15 (u : Mem) (s0 : Int32) : Option Int32 :=
  if isz s0 = true then some s0 else none
def pX5_isEmpty (u : Mem) (x1 : Int32) : Option Int32 :=
  (pX5_of u x1 0).bind fun y1 =>
  if y1 = (-1) then
    pX5_isEmpty_15 u 1
  else
    pX5_isEmpty_15 u 0
def pX5_isDirtyOf_35 (u : Mem) (s0 : Int32) : Option Int32 :=
  if isz s0 = true then some s0 else none
def pX5_isDirtyOf_34 (u : Mem) : Option Int32 :=
  pX5_isDirtyOf_35 u 0
def pX5_isDirtyOf (u : Mem) (x1 : Int32) (x2 : Int32) : Option Int32 :=
  (pX5_isEmpty u x1).bind fun y1 =>
  if y1 = 0 then
    (pX5_of u x1 4).bind fun y3 =>
    if y3 = 1 then
      (pX5_of u x1 0).bind fun y5 =>
      if (y5 / 4) = x2 then
        pX5_isDirtyOf_35 u 1
      else
        pX5_isDirtyOf_34 u
    else
      pX5_isDirtyOf_34 u
  else
    pX5_isDirtyOf_34 u
def pX5_lineOf_2b (u : Mem) (x1 : Int32) (k : Int32 → Option Int32) (x2 : Int32) : Option Int32 :=
  if 12 ≤ x2 then
    some (-1)
  else
    (pX5_of u x2 0).bind fun y102 =>
    if y102 = x1 then
      some x2
    else
      k (x2 + 1)
def pX5_lineOf_2 (u : Mem) (x1 : Int32) : Nat → Int32 → Option Int32
  | 0, _ => none
  | n + 1, x2 => pX5_lineOf_2b u x1 (pX5_lineOf_2 u x1 n) x2
def pX5_lineOf (u : Mem) (x1 : Int32) : Option Int32 :=
  pX5_lineOf_2 u x1 FU 0
def pX5_dirtyIn_25 (u : Mem) (x1 : Int32) (k : Int32 → Int32 → Option Int32) (x3 : Int32) (s0 : Int32) (s1 : Int32) : Option Int32 :=
  k (s0 + s1) (x3 + 1)
def pX5_dirtyIn_4b (u : Mem) (x1 : Int32) (k : Int32 → Int32 → Option Int32) (x2 : Int32) (x3 : Int32) : Option Int32 :=
  if 12 ≤ x3 then
    some x2
  else
    (pX5_isDirtyOf u x3 x1).bind fun y102 =>
    if y102 = 0 then
      pX5_dirtyIn_25 u x1 k x3 x2 0
    else
      pX5_dirtyIn_25 u x1 k x3 x2 1
def pX5_dirtyIn_4 (u : Mem) (x1 : Int32) : Nat → Int32 → Int32 → Option Int32
  | 0, _, _ => none
  | n + 1, x2, x3 => pX5_dirtyIn_4b u x1 (pX5_dirtyIn_4 u x1 n) x2 x3
def pX5_dirtyIn (u : Mem) (x1 : Int32) : Option Int32 :=
  pX5_dirtyIn_4 u x1 FU 0 0
def pX5_readsFor_19 (s0 : Int32) : Option Int32 :=
  some s0
def pX5_readsFor (x0 : Int32) : Option Int32 :=
  if x0 = 4 then
    pX5_readsFor_19 0
  else
    if x0 = 3 then
      pX5_readsFor_19 1
    else
      pX5_readsFor_19 2
def pX5_cost_16 (s0 : Int32) : Option Int32 :=
  some s0
def pX5_cost (x0 : Int32) : Option Int32 :=
  if x0 = 0 then
    pX5_cost_16 0
  else
    (pX5_readsFor x0).bind fun y2 =>
    pX5_cost_16 ((y2 + x0) + 1)
def pX5_countsWrite (u : Mem) (x1 : Int32) : Option Mem :=
  (ld u 1 2317 6).bind fun y1 =>
  (pX5_readsFor x1).bind fun y2 =>
  (st u 1 2317 6 (y1 + y2)).bind fun u3 =>
  (ld u3 1 2317 7).bind fun y4 =>
  (st u3 1 2317 7 (y4 + (x1 + 1))).bind fun u5 =>
  some u5
def pX5_toDisk (u : Mem) (x1 : Int32) (x2 : Int32) (x3 : Int32) : Option Mem :=
  (st u 1 2317 (15 + (2 * x1)) x2).bind fun u1 =>
  (st u1 1 2317 ((15 + (2 * x1)) + 1) x3).bind fun u2 =>
  some u2
def pX5_destages_51 (x1 : Int32) (k : Int32 → Int32 → Mem → Option (Int32 × Mem)) (x2 : Int32) (x3 : Int32) (u : Mem) : Option (Int32 × Mem) :=
  k x2 (x3 + 1) u
def pX5_destages_88 (x2 : Int32) (u : Mem) : Option (Int32 × Mem) :=
  some (x2, u)
def pX5_destages_4b (x1 : Int32) (k : Int32 → Int32 → Mem → Option (Int32 × Mem)) (x2 : Int32) (x3 : Int32) (u : Mem) : Option (Int32 × Mem) :=
  if 12 ≤ x3 then
    if x2 ≤ 0 then
      pX5_destages_88 x2 u
    else
      (pX5_countsWrite u x2).bind fun u103 =>
      (ld u103 1 2317 13).bind fun y104 =>
      (st u103 1 2317 13 (y104 + 1)).bind fun u105 =>
      (ld u105 1 2317 14).bind fun y106 =>
      (st u105 1 2317 14 (y106 + x2)).bind fun u107 =>
      pX5_destages_88 x2 u107
  else
    (pX5_isDirtyOf u x3 x1).bind fun y108 =>
    if y108 = 0 then
      pX5_destages_51 x1 k x2 x3 u
    else
      (pX5_of u x3 0).bind fun y110 =>
      (pX5_of u x3 1).bind fun y111 =>
      (pX5_of u x3 2).bind fun y112 =>
      (pX5_toDisk u y110 y111 y112).bind fun u113 =>
      (pX5_lay u113 x3 4 0).bind fun u114 =>
      pX5_destages_51 x1 k (x2 + 1) x3 u114
def pX5_destages_4 (x1 : Int32) : Nat → Int32 → Int32 → Mem → Option (Int32 × Mem)
  | 0, _, _, _ => none
  | n + 1, x2, x3, u => pX5_destages_4b x1 (pX5_destages_4 x1 n) x2 x3 u
def pX5_destages (u : Mem) (x1 : Int32) : Option (Int32 × Mem) :=
  pX5_destages_4 x1 FU 0 0 u
def pX5_destagesAll_4b (k : Int32 → Int32 → Mem → Option (Int32 × Mem)) (x1 : Int32) (x2 : Int32) (u : Mem) : Option (Int32 × Mem) :=
  if 16 ≤ x2 then
    some (x1, u)
  else
    bd2 (pX5_destages u x2) fun y102 u103 =>
    k (x1 + y102) (x2 + 1) u103
def pX5_destagesAll_4 : Nat → Int32 → Int32 → Mem → Option (Int32 × Mem)
  | 0, _, _, _ => none
  | n + 1, x1, x2, u => pX5_destagesAll_4b (pX5_destagesAll_4 n) x1 x2 u
def pX5_destagesAll (u : Mem) : Option (Int32 × Mem) :=
  pX5_destagesAll_4 FU 0 0 u
def pX5_isGathered_26 (u : Mem) (s0 : Int32) : Option Int32 :=
  if isz s0 = true then some s0 else none
def pX5_isGathered_25 (u : Mem) : Option Int32 :=
  pX5_isGathered_26 u 0
def pX5_isGathered (u : Mem) : Option Int32 :=
  (ld u 1 2317 0).bind fun y1 =>
  if y1 = 1 then
    (ld u 1 2317 3).bind fun y3 =>
    if y3 < 20 then
      pX5_isGathered_25 u
    else
      pX5_isGathered_26 u 1
  else
    pX5_isGathered_25 u
def pX5_taken_71 (u : Mem) (x1 : Int32) (k : Int32 → Int32 → Option Int32) (x3 : Int32) (s0 : Int32) : Option Int32 :=
  k s0 (x3 + 1)
def pX5_taken_66 (u : Mem) (x1 : Int32) (k : Int32 → Int32 → Option Int32) (x3 : Int32) : Option Int32 :=
  pX5_taken_71 u x1 k x3 x3
def pX5_taken_70 (u : Mem) (x1 : Int32) (k : Int32 → Int32 → Option Int32) (x2 : Int32) (x3 : Int32) : Option Int32 :=
  pX5_taken_71 u x1 k x3 x2
def pX5_taken_39 (u : Mem) (x1 : Int32) (k : Int32 → Int32 → Option Int32) (x2 : Int32) (x3 : Int32) (s0 : Int32) : Option Int32 :=
  if s0 = 0 then
    pX5_taken_70 u x1 k x2 x3
  else
    if x2 = (-1) then
      pX5_taken_66 u x1 k x3
    else
      (pX5_of u x3 3).bind fun y203 =>
      (pX5_of u x2 3).bind fun y204 =>
      if y204 ≤ y203 then
        pX5_taken_70 u x1 k x2 x3
      else
        pX5_taken_66 u x1 k x3
def pX5_taken_6b (u : Mem) (x1 : Int32) (k : Int32 → Int32 → Option Int32) (x2 : Int32) (x3 : Int32) : Option Int32 :=
  if ((3 * x1) + 3) ≤ x3 then
    some x2
  else
    (pX5_isEmpty u x3).bind fun y102 =>
    if y102 = 0 then
      (pX5_of u x3 4).bind fun y104 =>
      if y104 = 0 then
        pX5_taken_39 u x1 k x2 x3 1
      else
        pX5_taken_39 u x1 k x2 x3 0
    else
      some x3
def pX5_taken_6 (u : Mem) (x1 : Int32) : Nat → Int32 → Int32 → Option Int32
  | 0, _, _ => none
  | n + 1, x2, x3 => pX5_taken_6b u x1 (pX5_taken_6 u x1 n) x2 x3
def pX5_taken (u : Mem) (x1 : Int32) : Option Int32 :=
  pX5_taken_6 u x1 FU (-1) (3 * x1)
def pX5_fullest_28 (u : Mem) (k : Int32 → Int32 → Option Int32) (x3 : Int32) (s0 : Int32) : Option Int32 :=
  k s0 (x3 + 4)
def pX5_fullest_4b (u : Mem) (k : Int32 → Int32 → Option Int32) (x2 : Int32) (x3 : Int32) : Option Int32 :=
  if 16 ≤ x3 then
    some x2
  else
    (pX5_dirtyIn u x3).bind fun y102 =>
    (pX5_dirtyIn u x2).bind fun y103 =>
    if y102 ≤ y103 then
      pX5_fullest_28 u k x3 x2
    else
      pX5_fullest_28 u k x3 x3
def pX5_fullest_4 (u : Mem) : Nat → Int32 → Int32 → Option Int32
  | 0, _, _ => none
  | n + 1, x2, x3 => pX5_fullest_4b u (pX5_fullest_4 u n) x2 x3
def pX5_fullest (u : Mem) (x1 : Int32) : Option Int32 :=
  pX5_fullest_4 u FU x1 x1
def pX5_puts (u : Mem) (x1 : Int32) (x2 : Int32) (x3 : Int32) (x4 : Int32) : Option Mem :=
  (ld u 1 2317 5).bind fun y1 =>
  (st u 1 2317 5 (y1 + 1)).bind fun u2 =>
  (pX5_lay u2 x1 0 x2).bind fun u3 =>
  (pX5_lay u3 x1 1 x3).bind fun u4 =>
  (ld u4 1 2317 4).bind fun y5 =>
  (pX5_lay u4 x1 2 y5).bind fun u6 =>
  (ld u6 1 2317 5).bind fun y7 =>
  (pX5_lay u6 x1 3 y7).bind fun u8 =>
  (pX5_lay u8 x1 4 x4).bind fun u9 =>
  some u9
def pX5_operations (u : Mem) : Option Int32 :=
  (ld u 1 2317 6).bind fun y1 =>
  (ld u 1 2317 7).bind fun y2 =>
  some (y1 + y2)
def pX5_writes_189 (x3 : Int32) (u : Mem) : Option (Int32 × Mem) :=
  (pX5_operations u).bind fun y401 =>
  some ((y401 - x3), u)
def pX5_writes_113 (x1 : Int32) (x2 : Int32) (x3 : Int32) (x4 : Int32) (u : Mem) : Option (Int32 × Mem) :=
  (pX5_puts u x4 x1 x2 1).bind fun u201 =>
  (ld u201 1 2317 8).bind fun y202 =>
  (st u201 1 2317 8 (y202 + 1)).bind fun u203 =>
  pX5_writes_189 x3 u203
def pX5_writes_86 (x1 : Int32) (x2 : Int32) (x3 : Int32) (x5 : Int32) (s0 : Int32) (u : Mem) : Option (Int32 × Mem) :=
  if s0 = (-1) then
    (pX5_fullest u x5).bind fun y102 =>
    bd2 (pX5_destages u y102) fun y103 u104 =>
    (pX5_taken u104 x5).bind fun y105 =>
    pX5_writes_113 x1 x2 x3 y105 u104
  else
    pX5_writes_113 x1 x2 x3 s0 u
def pX5_writes_178 (x3 : Int32) (u : Mem) : Option (Int32 × Mem) :=
  (ld u 1 2317 9).bind fun y301 =>
  (st u 1 2317 9 (y301 + 1)).bind fun u302 =>
  pX5_writes_189 x3 u302
def pX5_writes (u : Mem) (x1 : Int32) (x2 : Int32) : Option (Int32 × Mem) :=
  (pX5_operations u).bind fun y1 =>
  (pX5_lineOf u x1).bind fun y2 =>
  (ld u 1 2317 4).bind fun y3 =>
  (st u 1 2317 4 (y3 + 1)).bind fun u4 =>
  (st u4 1 2317 (143 + (2 * x1)) x2).bind fun u5 =>
  (ld u5 1 2317 4).bind fun y6 =>
  (st u5 1 2317 ((143 + (2 * x1)) + 1) y6).bind fun u7 =>
  (pX5_isGathered u7).bind fun y8 =>
  if y8 = 0 then
    (pX5_countsWrite u7 1).bind fun u10 =>
    (ld u10 1 2317 4).bind fun y11 =>
    (pX5_toDisk u10 x1 x2 y11).bind fun u12 =>
    (ld u12 1 2317 0).bind fun y13 =>
    if y13 = 1 then
      if y2 = (-1) then
        pX5_writes_178 y1 u12
      else
        (pX5_puts u12 y2 x1 x2 0).bind fun u16 =>
        pX5_writes_178 y1 u16
    else
      pX5_writes_178 y1 u12
  else
    if y2 = (-1) then
      (pX5_taken u7 ((x1 / 4) - (x1 / 4) / 4 * 4)).bind fun y18 =>
      pX5_writes_86 x1 x2 y1 ((x1 / 4) - (x1 / 4) / 4 * 4) y18 u7
    else
      pX5_writes_86 x1 x2 y1 ((x1 / 4) - (x1 / 4) / 4 * 4) y2 u7
def pX5_reads_19 (x1 : Int32) (s0 : Int32) (u : Mem) : Option (Int32 × Mem) :=
  if s0 = (-1) then
    (ld u 1 2317 6).bind fun y109 =>
    (st u 1 2317 6 (y109 + 1)).bind fun u110 =>
    (ld u110 1 2317 11).bind fun y111 =>
    (st u110 1 2317 11 (y111 + 1)).bind fun u112 =>
    (ld u112 1 2317 (15 + (2 * x1))).bind fun y113 =>
    some (y113, u112)
  else
    (ld u 1 2317 5).bind fun y102 =>
    (st u 1 2317 5 (y102 + 1)).bind fun u103 =>
    (ld u103 1 2317 5).bind fun y104 =>
    (pX5_lay u103 s0 3 y104).bind fun u105 =>
    (ld u105 1 2317 10).bind fun y106 =>
    (st u105 1 2317 10 (y106 + 1)).bind fun u107 =>
    (pX5_of u107 s0 1).bind fun y108 =>
    some (y108, u107)
def pX5_reads (u : Mem) (x1 : Int32) : Option (Int32 × Mem) :=
  (ld u 1 2317 0).bind fun y1 =>
  if y1 = 1 then
    (pX5_lineOf u x1).bind fun y3 =>
    pX5_reads_19 x1 y3 u
  else
    pX5_reads_19 x1 (-1) u
def pX5_isCharging_25 (u : Mem) (s0 : Int32) : Option Int32 :=
  if isz s0 = true then some s0 else none
def pX5_isCharging_24 (u : Mem) : Option Int32 :=
  pX5_isCharging_25 u 0
def pX5_isCharging (u : Mem) : Option Int32 :=
  (ld u 1 2317 1).bind fun y1 =>
  if y1 = 1 then
    (ld u 1 2317 0).bind fun y3 =>
    if y3 = 1 then
      pX5_isCharging_25 u 1
    else
      pX5_isCharging_24 u
  else
    pX5_isCharging_24 u
def pX5_loses_39 (k : Int32 → Mem → Option Mem) (x1 : Int32) (s1 : Int32) (s2 : Int32) (s3 : Int32) (u : Mem) : Option Mem :=
  (st u 1 2317 s1 (s2 + s3)).bind fun u301 =>
  (pX5_lay u301 x1 0 (-1)).bind fun u302 =>
  k (x1 + 1) u302
def pX5_loses_38 (k : Int32 → Mem → Option Mem) (x1 : Int32) (s1 : Int32) (s2 : Int32) (u : Mem) : Option Mem :=
  pX5_loses_39 k x1 s1 s2 0 u
def pX5_loses_2b (k : Int32 → Mem → Option Mem) (x1 : Int32) (u : Mem) : Option Mem :=
  if 12 ≤ x1 then
    some u
  else
    (ld u 1 2317 12).bind fun y102 =>
    (pX5_isEmpty u x1).bind fun y103 =>
    if y103 = 0 then
      (pX5_of u x1 4).bind fun y105 =>
      if y105 = 1 then
        pX5_loses_39 k x1 12 y102 1 u
      else
        pX5_loses_38 k x1 12 y102 u
    else
      pX5_loses_38 k x1 12 y102 u
def pX5_loses_2 : Nat → Int32 → Mem → Option Mem
  | 0, _, _ => none
  | n + 1, x1, u => pX5_loses_2b (pX5_loses_2 n) x1 u
def pX5_loses (u : Mem) : Option Mem :=
  pX5_loses_2 FU 0 u
def pX5_tick_77 (u : Mem) : Option Mem :=
  some u
def pX5_tick_41 (s1 : Int32) (s2 : Int32) (u : Mem) : Option Mem :=
  (st u 1 2317 s1 s2).bind fun u101 =>
  pX5_tick_77 u101
def pX5_tick (u : Mem) : Option Mem :=
  (pX5_isCharging u).bind fun y1 =>
  if y1 = 0 then
    (ld u 1 2317 3).bind fun y3 =>
    if y3 ≤ 0 then
      pX5_tick_77 u
    else
      (ld u 1 2317 3).bind fun y5 =>
      (st u 1 2317 3 (y5 - 1)).bind fun u6 =>
      (ld u6 1 2317 3).bind fun y7 =>
      if y7 = 0 then
        (pX5_loses u6).bind fun u9 =>
        pX5_tick_77 u9
      else
        pX5_tick_77 u6
  else
    (ld u 1 2317 3).bind fun y10 =>
    (ld u 1 2317 2).bind fun y11 =>
    if (y10 + 2) ≤ y11 then
      pX5_tick_41 3 (y10 + 2) u
    else
      (ld u 1 2317 2).bind fun y13 =>
      pX5_tick_41 3 y13 u
def pX5_passes_2b (x1 : Int32) (k : Int32 → Mem → Option (Int32 × Mem)) (x2 : Int32) (u : Mem) : Option (Int32 × Mem) :=
  if x1 ≤ x2 then
    (ld u 1 2317 3).bind fun y102 =>
    some (y102, u)
  else
    (pX5_tick u).bind fun u103 =>
    k (x2 + 1) u103
def pX5_passes_2 (x1 : Int32) : Nat → Int32 → Mem → Option (Int32 × Mem)
  | 0, _, _ => none
  | n + 1, x2, u => pX5_passes_2b x1 (pX5_passes_2 x1 n) x2 u
def pX5_passes (u : Mem) (x1 : Int32) : Option (Int32 × Mem) :=
  pX5_passes_2 x1 FU 0 u
def pX5_powers_67 (s0 : Int32) (u : Mem) : Option (Int32 × Mem) :=
  some (s0, u)
def pX5_powers_66 (u : Mem) : Option (Int32 × Mem) :=
  pX5_powers_67 0 u
def pX5_powers_33 (x2 : Int32) (s1 : Int32) (s2 : Int32) (u : Mem) : Option (Int32 × Mem) :=
  (st u 1 2317 s1 s2).bind fun u301 =>
  if x2 = 0 then
    pX5_powers_66 u301
  else
    (ld u301 1 2317 0).bind fun y303 =>
    if y303 = 1 then
      (ld u301 1 2317 3).bind fun y305 =>
      if 20 ≤ y305 then
        pX5_powers_66 u301
      else
        bd2 (pX5_destagesAll u301) fun y307 u308 =>
        pX5_powers_67 y307 u308
    else
      pX5_powers_66 u301
def pX5_powers_18 (x1 : Int32) (s0 : Int32) (u : Mem) : Option (Int32 × Mem) :=
  if x1 = 0 then
    pX5_powers_33 s0 1 0 u
  else
    pX5_powers_33 s0 1 1 u
def pX5_powers_17 (x1 : Int32) (u : Mem) : Option (Int32 × Mem) :=
  pX5_powers_18 x1 0 u
def pX5_powers (u : Mem) (x1 : Int32) : Option (Int32 × Mem) :=
  if x1 = 0 then
    pX5_powers_17 x1 u
  else
    (ld u 1 2317 1).bind fun y2 =>
    if y2 = 0 then
      pX5_powers_18 x1 1 u
    else
      pX5_powers_17 x1 u
def pX5_movesStick_68 (x1 : Int32) (k : Int32 → Int32 → Mem → Option (Int32 × Mem)) (x2 : Int32) (x3 : Int32) (u : Mem) : Option (Int32 × Mem) :=
  k x2 (x3 + 1) u
def pX5_movesStick_88 (x2 : Int32) (s1 : Int32) (s2 : Int32) (u : Mem) : Option (Int32 × Mem) :=
  (st u 1 2317 s1 s2).bind fun u401 =>
  some (x2, u401)
def pX5_movesStick_74 (x1 : Int32) (x2 : Int32) (u : Mem) : Option (Int32 × Mem) :=
  if x1 = 0 then
    pX5_movesStick_88 x2 0 0 u
  else
    pX5_movesStick_88 x2 0 1 u
def pX5_movesStick_4b (x1 : Int32) (k : Int32 → Int32 → Mem → Option (Int32 × Mem)) (x2 : Int32) (x3 : Int32) (u : Mem) : Option (Int32 × Mem) :=
  if 12 ≤ x3 then
    pX5_movesStick_74 x1 x2 u
  else
    if x1 = 0 then
      pX5_movesStick_74 x1 x2 u
    else
      (ld u 1 2317 0).bind fun y103 =>
      if y103 = 0 then
        (pX5_isEmpty u x3).bind fun y105 =>
        if y105 = 0 then
          (pX5_of u x3 2).bind fun y107 =>
          (pX5_of u x3 0).bind fun y108 =>
          (ld u 1 2317 ((15 + (2 * y108)) + 1)).bind fun y109 =>
          if y109 ≤ y107 then
            pX5_movesStick_68 x1 k x2 x3 u
          else
            (pX5_lay u x3 0 (-1)).bind fun u111 =>
            pX5_movesStick_68 x1 k (x2 + 1) x3 u111
        else
          pX5_movesStick_68 x1 k x2 x3 u
      else
        pX5_movesStick_74 x1 x2 u
def pX5_movesStick_4 (x1 : Int32) : Nat → Int32 → Int32 → Mem → Option (Int32 × Mem)
  | 0, _, _, _ => none
  | n + 1, x2, x3, u => pX5_movesStick_4b x1 (pX5_movesStick_4 x1 n) x2 x3 u
def pX5_movesStick (u : Mem) (x1 : Int32) : Option (Int32 × Mem) :=
  pX5_movesStick_4 x1 FU 0 0 u
def pX5_copies_2b (x1 : Int32) (x2 : Int32) (k : Int32 → Mem → Option Mem) (x3 : Int32) (u : Mem) : Option Mem :=
  if 331 ≤ x3 then
    some u
  else
    (ld u 1 2317 ((331 * x1) + x3)).bind fun y102 =>
    (st u 1 2317 ((331 * x2) + x3) y102).bind fun u103 =>
    k (x3 + 1) u103
def pX5_copies_2 (x1 : Int32) (x2 : Int32) : Nat → Int32 → Mem → Option Mem
  | 0, _, _ => none
  | n + 1, x3, u => pX5_copies_2b x1 x2 (pX5_copies_2 x1 x2 n) x3 u
def pX5_copies (u : Mem) (x1 : Int32) (x2 : Int32) : Option Mem :=
  pX5_copies_2 x1 x2 FU 0 u
def pX5_keeps_50 (s1 : Int32) (s2 : Int32) (u : Mem) : Option Mem :=
  (pf u 0 1 (s1 + s2)).bind fun u301 =>
  (pX5_copies u301 0 (u301 0 1)).bind fun u302 =>
  some u302
def pX5_keeps_31 (u : Mem) : Option Mem :=
  if 6 ≤ (u 0 1) then
    pX5_keeps_50 (u 0 1) 0 u
  else
    pX5_keeps_50 (u 0 1) 1 u
def pX5_keeps_2b (k : Int32 → Mem → Option Mem) (x1 : Int32) (u : Mem) : Option Mem :=
  if 6 ≤ x1 then
    pX5_keeps_31 u
  else
    if (u 0 1) = 6 then
      (pX5_copies u (x1 + 1) x1).bind fun u103 =>
      k (x1 + 1) u103
    else
      pX5_keeps_31 u
def pX5_keeps_2 : Nat → Int32 → Mem → Option Mem
  | 0, _, _ => none
  | n + 1, x1, u => pX5_keeps_2b (pX5_keeps_2 n) x1 u
def pX5_keeps (u : Mem) : Option Mem :=
  pX5_keeps_2 FU 1 u
def pX5_write_41 (x1 : Int32) (x2 : Int32) (s1 : Int32) (u : Mem) : Option (Int32 × Mem) :=
  bd2 (pX5_holds u s1) fun y101 u102 =>
  if y101 = 0 then
    some (0, u102)
  else
    (pX5_keeps u102).bind fun u104 =>
    bd2 (pX5_writes u104 x1 x2) fun y105 u106 =>
    some (y105, u106)
def pX5_write (u : Mem) (x1 : Int32) (x2 : Int32) : Option (Int32 × Mem) :=
  (pX5_isBlock x1).bind fun y1 =>
  if y1 = 0 then
    pX5_write_41 x1 x2 1 u
  else
    (pX5_in x2 0 999).bind fun y3 =>
    if y3 = 0 then
      pX5_write_41 x1 x2 2 u
    else
      (ld u 1 2317 1).bind fun y5 =>
      if y5 = 0 then
        pX5_write_41 x1 x2 3 u
      else
        pX5_write_41 x1 x2 0 u
def pX5_read_26 (x1 : Int32) (s1 : Int32) (u : Mem) : Option (Int32 × Mem) :=
  bd2 (pX5_holds u s1) fun y101 u102 =>
  if y101 = 0 then
    some (0, u102)
  else
    (pX5_keeps u102).bind fun u104 =>
    bd2 (pX5_reads u104 x1) fun y105 u106 =>
    some (y105, u106)
def pX5_read (u : Mem) (x1 : Int32) : Option (Int32 × Mem) :=
  (pX5_isBlock x1).bind fun y1 =>
  if y1 = 0 then
    pX5_read_26 x1 1 u
  else
    (ld u 1 2317 1).bind fun y3 =>
    if y3 = 0 then
      pX5_read_26 x1 2 u
    else
      pX5_read_26 x1 0 u
def pX5_destage_24 (x1 : Int32) (s1 : Int32) (u : Mem) : Option (Int32 × Mem) :=
  bd2 (pX5_holds u s1) fun y101 u102 =>
  if y101 = 0 then
    some (0, u102)
  else
    (pX5_keeps u102).bind fun u104 =>
    bd2 (pX5_destages u104 x1) fun y105 u106 =>
    some (y105, u106)
def pX5_destage (u : Mem) (x1 : Int32) : Option (Int32 × Mem) :=
  (pX5_isStripe x1).bind fun y1 =>
  if y1 = 0 then
    pX5_destage_24 x1 1 u
  else
    (pX5_isCharging u).bind fun y3 =>
    if y3 = 0 then
      pX5_destage_24 x1 2 u
    else
      pX5_destage_24 x1 0 u
def pX5_destageAll_13 (s1 : Int32) (u : Mem) : Option (Int32 × Mem) :=
  bd2 (pX5_holds u s1) fun y101 u102 =>
  if y101 = 0 then
    some (0, u102)
  else
    (pX5_keeps u102).bind fun u104 =>
    bd2 (pX5_destagesAll u104) fun y105 u106 =>
    some (y105, u106)
def pX5_destageAll (u : Mem) : Option (Int32 × Mem) :=
  (pX5_isCharging u).bind fun y1 =>
  if y1 = 0 then
    pX5_destageAll_13 1 u
  else
    pX5_destageAll_13 0 u
def pX5_pass_16 (x1 : Int32) (s1 : Int32) (u : Mem) : Option (Int32 × Mem) :=
  bd2 (pX5_holds u s1) fun y101 u102 =>
  if y101 = 0 then
    some (0, u102)
  else
    (pX5_keeps u102).bind fun u104 =>
    bd2 (pX5_passes u104 x1) fun y105 u106 =>
    some (y105, u106)
def pX5_pass (u : Mem) (x1 : Int32) : Option (Int32 × Mem) :=
  (pX5_in x1 1 99).bind fun y1 =>
  if y1 = 0 then
    pX5_pass_16 x1 1 u
  else
    pX5_pass_16 x1 0 u
def pX5_setLimit_60 (s1 : Int32) (s2 : Int32) (u : Mem) : Option (Int32 × Mem) :=
  (st u 1 2317 s1 s2).bind fun u201 =>
  (ld u201 1 2317 3).bind fun y202 =>
  some (y202, u201)
def pX5_setLimit_16 (x1 : Int32) (s1 : Int32) (u : Mem) : Option (Int32 × Mem) :=
  bd2 (pX5_holds u s1) fun y101 u102 =>
  if y101 = 0 then
    some (0, u102)
  else
    (pX5_keeps u102).bind fun u104 =>
    (st u104 1 2317 2 x1).bind fun u105 =>
    (ld u105 1 2317 3).bind fun y106 =>
    if y106 ≤ x1 then
      (ld u105 1 2317 3).bind fun y108 =>
      pX5_setLimit_60 3 y108 u105
    else
      pX5_setLimit_60 3 x1 u105
def pX5_setLimit (u : Mem) (x1 : Int32) : Option (Int32 × Mem) :=
  (pX5_in x1 1 100).bind fun y1 =>
  if y1 = 0 then
    pX5_setLimit_16 x1 1 u
  else
    pX5_setLimit_16 x1 0 u
def pX5_power (u : Mem) (x1 : Int32) : Option (Int32 × Mem) :=
  (pf u 0 0 0).bind fun u1 =>
  (pX5_keeps u1).bind fun u2 =>
  bd2 (pX5_powers u2 x1) fun y3 u4 =>
  some (y3, u4)
def pX5_moveStick_15 (x1 : Int32) (s1 : Int32) (u : Mem) : Option (Int32 × Mem) :=
  bd2 (pX5_holds u s1) fun y101 u102 =>
  if y101 = 0 then
    some (0, u102)
  else
    (pX5_keeps u102).bind fun u104 =>
    bd2 (pX5_movesStick u104 x1) fun y105 u106 =>
    some (y105, u106)
def pX5_moveStick (u : Mem) (x1 : Int32) : Option (Int32 × Mem) :=
  (ld u 1 2317 1).bind fun y1 =>
  if y1 = 0 then
    pX5_moveStick_15 x1 0 u
  else
    pX5_moveStick_15 x1 1 u
def pX5_appendText_30 (x1 : Int32) (s1 : Int32) (u : Mem) : Option (Int32 × Mem) :=
  bd2 (pX5_holds u s1) fun y101 u102 =>
  if y101 = 0 then
    some (0, u102)
  else
    (st u102 2 80 (u102 0 2) x1).bind fun u104 =>
    (pf u104 0 2 ((u104 0 2) + 1)).bind fun u105 =>
    some ((u105 0 2), u105)
def pX5_appendText (u : Mem) (x1 : Int32) : Option (Int32 × Mem) :=
  (pX5_in x1 32 126).bind fun y1 =>
  if y1 = 0 then
    pX5_appendText_30 x1 1 u
  else
    if (u 0 2) = 80 then
      pX5_appendText_30 x1 2 u
    else
      pX5_appendText_30 x1 0 u
def pX5_clearText (u : Mem) : Option (Int32 × Mem) :=
  (pf u 0 0 0).bind fun u1 =>
  (pf u1 0 2 0).bind fun u2 =>
  some ((u1 0 2), u2)
def pX5_sign_24 (u : Mem) (s0 : Int32) : Option Int32 :=
  some s0
def pX5_sign (u : Mem) : Option Int32 :=
  if (u 0 2) ≤ (u 0 3) then
    pX5_sign_24 u 0
  else
    (ld u 2 80 (u 0 3)).bind fun y2 =>
    pX5_sign_24 u y2
def pX5_takes_28 (x2 : Int32) (s1 : Int32) (s2 : Int32) (u : Mem) : Option (Int32 × Mem) :=
  (pf u 0 3 (s1 + s2)).bind fun u201 =>
  if isz x2 = true then some (x2, u201) else none
def pX5_takes_13 (s0 : Int32) (u : Mem) : Option (Int32 × Mem) :=
  if s0 = 0 then
    pX5_takes_28 s0 (u 0 3) 0 u
  else
    pX5_takes_28 s0 (u 0 3) 1 u
def pX5_takes (u : Mem) (x1 : Int32) : Option (Int32 × Mem) :=
  (pX5_sign u).bind fun y1 =>
  if y1 = x1 then
    pX5_takes_13 1 u
  else
    pX5_takes_13 0 u
def pX5_number_107 (x3 : Int32) (u : Mem) : Option (Int32 × Mem) :=
  some (x3, u)
def pX5_number_47b (x2 : Int32) (k : Int32 → Mem → Option (Int32 × Mem)) (x3 : Int32) (u : Mem) : Option (Int32 × Mem) :=
  if x3 ≤ 0 then
    pX5_number_107 x3 u
  else
    (pX5_sign u).bind fun y302 =>
    (pX5_in y302 48 57).bind fun y303 =>
    if y303 = 0 then
      pX5_number_107 x3 u
    else
      (pX5_sign u).bind fun y305 =>
      if x2 < (((10 * x3) + y305) - 48) then
        pX5_number_107 x3 u
      else
        (pX5_sign u).bind fun y307 =>
        (pf u 0 3 ((u 0 3) + 1)).bind fun u308 =>
        k (((10 * x3) + y307) - 48) u308
def pX5_number_47 (x2 : Int32) : Nat → Int32 → Mem → Option (Int32 × Mem)
  | 0, _, _ => none
  | n + 1, x3, u => pX5_number_47b x2 (pX5_number_47 x2 n) x3 u
def pX5_number_43 (x2 : Int32) (x3 : Int32) (s1 : Int32) (s2 : Int32) (u : Mem) : Option (Int32 × Mem) :=
  (pf u 0 3 (s1 + s2)).bind fun u201 =>
  pX5_number_47 x2 FU x3 u201
def pX5_number_27 (x2 : Int32) (s0 : Int32) (u : Mem) : Option (Int32 × Mem) :=
  if s0 = (-1) then
    pX5_number_43 x2 s0 (u 0 3) 0 u
  else
    pX5_number_43 x2 s0 (u 0 3) 1 u
def pX5_number (u : Mem) (x1 : Int32) (x2 : Int32) : Option (Int32 × Mem) :=
  (pX5_sign u).bind fun y1 =>
  (pX5_in y1 (48 + x1) 57).bind fun y2 =>
  if y2 = 0 then
    pX5_number_27 x2 (-1) u
  else
    (pX5_sign u).bind fun y4 =>
    pX5_number_27 x2 (y4 - 48) u
def pX5_readsCommand_26 (u : Mem) : Option (Int32 × Mem) :=
  some (1, u)
def pX5_readsCommand_94 (s0 : Int32) (u : Mem) : Option (Int32 × Mem) :=
  if isz s0 = true then some (s0, u) else none
def pX5_readsCommand_78 (s1 : Int32) (u : Mem) : Option (Int32 × Mem) :=
  (pf u 0 6 s1).bind fun u301 =>
  if (u301 0 6) = (-1) then
    pX5_readsCommand_94 0 u301
  else
    pX5_readsCommand_94 1 u301
def pX5_readsCommand_77 (u : Mem) : Option (Int32 × Mem) :=
  pX5_readsCommand_78 (-1) u
def pX5_readsCommand_128 (s0 : Int32) (u : Mem) : Option (Int32 × Mem) :=
  if isz s0 = true then some (s0, u) else none
def pX5_readsCommand_162 (s0 : Int32) (u : Mem) : Option (Int32 × Mem) :=
  if isz s0 = true then some (s0, u) else none
def pX5_readsCommand_200 (s0 : Int32) (u : Mem) : Option (Int32 × Mem) :=
  if isz s0 = true then some (s0, u) else none
def pX5_readsCommand_184 (s1 : Int32) (u : Mem) : Option (Int32 × Mem) :=
  (pf u 0 5 s1).bind fun u701 =>
  if (u701 0 5) = (-1) then
    pX5_readsCommand_200 0 u701
  else
    pX5_readsCommand_200 1 u701
def pX5_readsCommand (u : Mem) : Option (Int32 × Mem) :=
  (pX5_sign u).bind fun y1 =>
  (pf u 0 4 y1).bind fun u2 =>
  bd2 (pX5_takes u2 112) fun y3 u4 =>
  if y3 = 0 then
    bd2 (pX5_takes u4 109) fun y6 u7 =>
    if y6 = 0 then
      bd2 (pX5_takes u7 119) fun y9 u10 =>
      if y9 = 0 then
        bd2 (pX5_takes u10 114) fun y12 u13 =>
        if y12 = 0 then
          bd2 (pX5_takes u13 100) fun y15 u16 =>
          if y15 = 0 then
            bd2 (pX5_takes u16 116) fun y18 u19 =>
            if y18 = 0 then
              pX5_readsCommand_184 (-1) u19
            else
              bd2 (pX5_number u19 1 99) fun y21 u22 =>
              pX5_readsCommand_184 y21 u22
          else
            bd2 (pX5_number u16 0 15) fun y23 u24 =>
            (pf u24 0 5 y23).bind fun u25 =>
            if (u25 0 5) = (-1) then
              pX5_readsCommand_162 0 u25
            else
              pX5_readsCommand_162 1 u25
        else
          bd2 (pX5_number u13 0 63) fun y27 u28 =>
          (pf u28 0 5 y27).bind fun u29 =>
          if (u29 0 5) = (-1) then
            pX5_readsCommand_128 0 u29
          else
            pX5_readsCommand_128 1 u29
      else
        bd2 (pX5_number u10 0 63) fun y31 u32 =>
        (pf u32 0 5 y31).bind fun u33 =>
        if (u33 0 5) = (-1) then
          pX5_readsCommand_77 u33
        else
          bd2 (pX5_takes u33 44) fun y35 u36 =>
          if y35 = 0 then
            pX5_readsCommand_77 u36
          else
            bd2 (pX5_number u36 0 999) fun y38 u39 =>
            pX5_readsCommand_78 y38 u39
    else
      pX5_readsCommand_26 u7
  else
    pX5_readsCommand_26 u4
def pX5_isValid_5b (k : Mem → Option (Int32 × Mem)) (u : Mem) : Option (Int32 × Mem) :=
  bd2 (pX5_readsCommand u) fun y101 u102 =>
  if y101 = 0 then
    some (0, u102)
  else
    if (u102 0 3) = (u102 0 2) then
      some (1, u102)
    else
      bd2 (pX5_takes u102 59) fun y105 u106 =>
      if y105 = 0 then
        some (0, u106)
      else
        k u106
def pX5_isValid_5 : Nat → Mem → Option (Int32 × Mem)
  | 0, _ => none
  | n + 1, u => pX5_isValid_5b (pX5_isValid_5 n) u
def pX5_isValid (u : Mem) : Option (Int32 × Mem) :=
  (pf u 0 3 0).bind fun u1 =>
  pX5_isValid_5 FU u1
def pX5_errorPosition_20 (s0 : Int32) (u : Mem) : Option (Int32 × Mem) :=
  some (s0, u)
def pX5_errorPosition (u : Mem) : Option (Int32 × Mem) :=
  (pf u 0 0 0).bind fun u1 =>
  bd2 (pX5_isValid u1) fun y2 u3 =>
  if y2 = 0 then
    pX5_errorPosition_20 (u3 0 3) u3
  else
    pX5_errorPosition_20 (-1) u3
def pX5_can_63 (u : Mem) (s0 : Int32) : Option Int32 :=
  if isz s0 = true then some s0 else none
def pX5_can_83 (u : Mem) (s0 : Int32) : Option Int32 :=
  if isz s0 = true then some s0 else none
def pX5_can (u : Mem) : Option Int32 :=
  if (u 0 4) = 100 then
    (pX5_isCharging u).bind fun y1 =>
    if isz y1 = true then some y1 else none
  else if (u 0 4) = 109 then
    (ld u 1 2317 1).bind fun y2 =>
    if y2 = 0 then
      pX5_can_83 u 1
    else
      pX5_can_83 u 0
  else if (u 0 4) = 114 then
    (ld u 1 2317 1).bind fun y4 =>
    if y4 = 1 then
      pX5_can_63 u 1
    else
      pX5_can_63 u 0
  else if (u 0 4) = 119 then
    (ld u 1 2317 1).bind fun y6 =>
    if y6 = 1 then
      pX5_can_63 u 1
    else
      pX5_can_63 u 0
  else 
    some 1
def pX5_does_149 (u : Mem) : Option Mem :=
  some u
def pX5_does_123 (s1 : Int32) (u : Mem) : Option Mem :=
  bd2 (pX5_powers u s1) fun y101 u102 =>
  pX5_does_149 u102
def pX5_does_145 (s1 : Int32) (u : Mem) : Option Mem :=
  bd2 (pX5_movesStick u s1) fun y201 u202 =>
  pX5_does_149 u202
def pX5_does (u : Mem) : Option Mem :=
  if (u 0 4) = 100 then
    bd2 (pX5_destages u (u 0 5)) fun y1 u2 =>
    pX5_does_149 u2
  else if (u 0 4) = 112 then
    (ld u 1 2317 1).bind fun y3 =>
    if y3 = 0 then
      pX5_does_123 1 u
    else
      pX5_does_123 0 u
  else if (u 0 4) = 114 then
    bd2 (pX5_reads u (u 0 5)) fun y5 u6 =>
    pX5_does_149 u6
  else if (u 0 4) = 116 then
    bd2 (pX5_passes u (u 0 5)) fun y7 u8 =>
    pX5_does_149 u8
  else if (u 0 4) = 119 then
    bd2 (pX5_writes u (u 0 5) (u 0 6)) fun y9 u10 =>
    pX5_does_149 u10
  else 
    (ld u 1 2317 0).bind fun y11 =>
    if y11 = 0 then
      pX5_does_145 1 u
    else
      pX5_does_145 0 u
def pX5_runText_63 (x1 : Int32) (u : Mem) : Option (Int32 × Mem) :=
  some (x1, u)
def pX5_runText_32b (k : Int32 → Mem → Option (Int32 × Mem)) (x1 : Int32) (u : Mem) : Option (Int32 × Mem) :=
  bd2 (pX5_readsCommand u) fun y201 u202 =>
  if y201 = 0 then
    pX5_runText_63 x1 u202
  else
    (pX5_can u202).bind fun y204 =>
    if y204 = 0 then
      pX5_runText_63 x1 u202
    else
      (pX5_does u202).bind fun u206 =>
      bd2 (pX5_takes u206 59) fun y207 u208 =>
      k (x1 + 1) u208
def pX5_runText_32 : Nat → Int32 → Mem → Option (Int32 × Mem)
  | 0, _, _ => none
  | n + 1, x1, u => pX5_runText_32b (pX5_runText_32 n) x1 u
def pX5_runText_13 (s1 : Int32) (u : Mem) : Option (Int32 × Mem) :=
  bd2 (pX5_holds u s1) fun y101 u102 =>
  if y101 = 0 then
    some (0, u102)
  else
    (pX5_keeps u102).bind fun u104 =>
    (pf u104 0 3 0).bind fun u105 =>
    pX5_runText_32 FU 0 u105
def pX5_runText (u : Mem) : Option (Int32 × Mem) :=
  bd2 (pX5_isValid u) fun y1 u2 =>
  if y1 = 0 then
    pX5_runText_13 1 u2
  else
    pX5_runText_13 0 u2
def pX5_undo_13 (s1 : Int32) (u : Mem) : Option (Int32 × Mem) :=
  bd2 (pX5_holds u s1) fun y101 u102 =>
  if y101 = 0 then
    some (0, u102)
  else
    (pX5_copies u102 (u102 0 1) 0).bind fun u104 =>
    (pf u104 0 1 ((u104 0 1) - 1)).bind fun u105 =>
    some ((u105 0 1), u105)
def pX5_undo (u : Mem) : Option (Int32 × Mem) :=
  if (u 0 1) ≤ 0 then
    pX5_undo_13 1 u
  else
    pX5_undo_13 0 u
def pX5_isOn_20 (s0 : Int32) (u : Mem) : Option (Int32 × Mem) :=
  if isz s0 = true then some (s0, u) else none
def pX5_isOn (u : Mem) : Option (Int32 × Mem) :=
  (pf u 0 0 0).bind fun u1 =>
  (ld u1 1 2317 1).bind fun y2 =>
  if y2 = 1 then
    pX5_isOn_20 1 u1
  else
    pX5_isOn_20 0 u1
def pX5_isIn_20 (s0 : Int32) (u : Mem) : Option (Int32 × Mem) :=
  if isz s0 = true then some (s0, u) else none
def pX5_isIn (u : Mem) : Option (Int32 × Mem) :=
  (pf u 0 0 0).bind fun u1 =>
  (ld u1 1 2317 0).bind fun y2 =>
  if y2 = 1 then
    pX5_isIn_20 1 u1
  else
    pX5_isIn_20 0 u1
def pX5_charge (u : Mem) : Option (Int32 × Mem) :=
  (ld u 1 2317 3).bind fun y1 =>
  bd2 (pX5_told u y1) fun y2 u3 =>
  some (y2, u3)
def pX5_line_71 (s0 : Int32) (u : Mem) : Option (Int32 × Mem) :=
  some (s0, u)
def pX5_line_37 (x1 : Int32) (x2 : Int32) (x3 : Int32) (s1 : Int32) (u : Mem) : Option (Int32 × Mem) :=
  bd2 (pX5_holds u s1) fun y201 u202 =>
  if y201 = 0 then
    some (0, u202)
  else
    (pX5_isEmpty u202 ((3 * x1) + x2)).bind fun y204 =>
    if y204 = 0 then
      (pX5_of u202 ((3 * x1) + x2) x3).bind fun y206 =>
      pX5_line_71 y206 u202
    else
      pX5_line_71 (-1) u202
def pX5_line_19 (x1 : Int32) (x2 : Int32) (x3 : Int32) (u : Mem) : Option (Int32 × Mem) :=
  pX5_line_37 x1 x2 x3 1 u
def pX5_line (u : Mem) (x1 : Int32) (x2 : Int32) (x3 : Int32) : Option (Int32 × Mem) :=
  (pX5_in x1 0 3).bind fun y1 =>
  if y1 = 0 then
    pX5_line_19 x1 x2 x3 u
  else
    (pX5_in x2 0 2).bind fun y3 =>
    if y3 = 0 then
      pX5_line_19 x1 x2 x3 u
    else
      (pX5_in x3 0 4).bind fun y5 =>
      if y5 = 0 then
        pX5_line_37 x1 x2 x3 2 u
      else
        pX5_line_37 x1 x2 x3 0 u
def pX5_dirtyOf_28 (s0 : Int32) (u : Mem) : Option (Int32 × Mem) :=
  some (s0, u)
def pX5_dirtyOf_13 (x1 : Int32) (s1 : Int32) (u : Mem) : Option (Int32 × Mem) :=
  bd2 (pX5_holds u s1) fun y101 u102 =>
  if y101 = 0 then
    pX5_dirtyOf_28 0 u102
  else
    (pX5_dirtyIn u102 x1).bind fun y104 =>
    pX5_dirtyOf_28 y104 u102
def pX5_dirtyOf (u : Mem) (x1 : Int32) : Option (Int32 × Mem) :=
  (pX5_isStripe x1).bind fun y1 =>
  if y1 = 0 then
    pX5_dirtyOf_13 x1 1 u
  else
    pX5_dirtyOf_13 x1 0 u
def pX5_dirtyLines_4b (u : Mem) (k : Int32 → Int32 → Option Int32) (x1 : Int32) (x2 : Int32) : Option Int32 :=
  if 16 ≤ x2 then
    some x1
  else
    (pX5_dirtyIn u x2).bind fun y102 =>
    k (x1 + y102) (x2 + 1)
def pX5_dirtyLines_4 (u : Mem) : Nat → Int32 → Int32 → Option Int32
  | 0, _, _ => none
  | n + 1, x1, x2 => pX5_dirtyLines_4b u (pX5_dirtyLines_4 u n) x1 x2
def pX5_dirtyLines (u : Mem) : Option Int32 :=
  pX5_dirtyLines_4 u FU 0 0
def pX5_dirty (u : Mem) : Option (Int32 × Mem) :=
  (pX5_dirtyLines u).bind fun y1 =>
  bd2 (pX5_told u y1) fun y2 u3 =>
  some (y2, u3)
def pX5_used_29 (k : Int32 → Int32 → Mem → Option (Int32 × Mem)) (x2 : Int32) (s0 : Int32) (s1 : Int32) (u : Mem) : Option (Int32 × Mem) :=
  k (s0 + s1) (x2 + 1) u
def pX5_used_9b (k : Int32 → Int32 → Mem → Option (Int32 × Mem)) (x1 : Int32) (x2 : Int32) (u : Mem) : Option (Int32 × Mem) :=
  if 12 ≤ x2 then
    some (x1, u)
  else
    (pX5_isEmpty u x2).bind fun y102 =>
    if y102 = 0 then
      pX5_used_29 k x2 x1 1 u
    else
      pX5_used_29 k x2 x1 0 u
def pX5_used_9 : Nat → Int32 → Int32 → Mem → Option (Int32 × Mem)
  | 0, _, _, _ => none
  | n + 1, x1, x2, u => pX5_used_9b (pX5_used_9 n) x1 x2 u
def pX5_used (u : Mem) : Option (Int32 × Mem) :=
  (pf u 0 0 0).bind fun u1 =>
  pX5_used_9 FU 0 0 u1
def pX5_onDisk_34 (s0 : Int32) (u : Mem) : Option (Int32 × Mem) :=
  some (s0, u)
def pX5_onDisk_13 (x1 : Int32) (s1 : Int32) (u : Mem) : Option (Int32 × Mem) :=
  bd2 (pX5_holds u s1) fun y101 u102 =>
  if y101 = 0 then
    pX5_onDisk_34 0 u102
  else
    (ld u102 1 2317 (15 + (2 * x1))).bind fun y104 =>
    pX5_onDisk_34 y104 u102
def pX5_onDisk (u : Mem) (x1 : Int32) : Option (Int32 × Mem) :=
  (pX5_isBlock x1).bind fun y1 =>
  if y1 = 0 then
    pX5_onDisk_13 x1 1 u
  else
    pX5_onDisk_13 x1 0 u
def pX5_found_76 (u : Mem) (s0 : Int32) : Option Int32 :=
  if isz s0 = true then some s0 else none
def pX5_found_71 (u : Mem) : Option Int32 :=
  pX5_found_76 u 1
def pX5_found_75 (u : Mem) : Option Int32 :=
  pX5_found_76 u 0
def pX5_found_34 (u : Mem) (x1 : Int32) (x2 : Int32) (s0 : Int32) : Option Int32 :=
  if x2 = 0 then
    pX5_found_71 u
  else
    (ld u 1 2317 ((15 + (2 * x1)) + 1)).bind fun y102 =>
    if y102 = x2 then
      pX5_found_71 u
    else
      if s0 = (-1) then
        pX5_found_75 u
      else
        (pX5_of u s0 2).bind fun y105 =>
        if y105 = x2 then
          pX5_found_71 u
        else
          pX5_found_75 u
def pX5_found (u : Mem) (x1 : Int32) : Option Int32 :=
  (ld u 1 2317 ((143 + (2 * x1)) + 1)).bind fun y1 =>
  (ld u 1 2317 0).bind fun y2 =>
  if y2 = 1 then
    (pX5_lineOf u x1).bind fun y4 =>
    pX5_found_34 u x1 y1 y4
  else
    pX5_found_34 u x1 y1 (-1)
def pX5_isFound_32 (s0 : Int32) (u : Mem) : Option (Int32 × Mem) :=
  if isz s0 = true then some (s0, u) else none
def pX5_isFound_31 (u : Mem) : Option (Int32 × Mem) :=
  pX5_isFound_32 0 u
def pX5_isFound_13 (x1 : Int32) (s1 : Int32) (u : Mem) : Option (Int32 × Mem) :=
  bd2 (pX5_holds u s1) fun y101 u102 =>
  if y101 = 0 then
    pX5_isFound_31 u102
  else
    (pX5_found u102 x1).bind fun y104 =>
    if y104 = 0 then
      pX5_isFound_31 u102
    else
      pX5_isFound_32 1 u102
def pX5_isFound (u : Mem) (x1 : Int32) : Option (Int32 × Mem) :=
  (pX5_isBlock x1).bind fun y1 =>
  if y1 = 0 then
    pX5_isFound_13 x1 1 u
  else
    pX5_isFound_13 x1 0 u
def pX5_missing_29 (k : Int32 → Int32 → Mem → Option (Int32 × Mem)) (x2 : Int32) (s0 : Int32) (s1 : Int32) (u : Mem) : Option (Int32 × Mem) :=
  k (s0 + s1) (x2 + 1) u
def pX5_missing_9b (k : Int32 → Int32 → Mem → Option (Int32 × Mem)) (x1 : Int32) (x2 : Int32) (u : Mem) : Option (Int32 × Mem) :=
  if 64 ≤ x2 then
    some (x1, u)
  else
    (pX5_found u x2).bind fun y102 =>
    if y102 = 0 then
      pX5_missing_29 k x2 x1 1 u
    else
      pX5_missing_29 k x2 x1 0 u
def pX5_missing_9 : Nat → Int32 → Int32 → Mem → Option (Int32 × Mem)
  | 0, _, _, _ => none
  | n + 1, x1, x2, u => pX5_missing_9b (pX5_missing_9 n) x1 x2 u
def pX5_missing (u : Mem) : Option (Int32 × Mem) :=
  (pf u 0 0 0).bind fun u1 =>
  pX5_missing_9 FU 0 0 u1
def pX5_ifWritten_84 (s0 : Int32) (u : Mem) : Option (Int32 × Mem) :=
  some (s0, u)
def pX5_ifWritten_68 (u : Mem) : Option (Int32 × Mem) :=
  pX5_ifWritten_84 0 u
def pX5_ifWritten_13 (x1 : Int32) (s1 : Int32) (u : Mem) : Option (Int32 × Mem) :=
  bd2 (pX5_holds u s1) fun y101 u102 =>
  if y101 = 0 then
    some (0, u102)
  else
    (ld u102 1 2317 1).bind fun y104 =>
    if y104 = 0 then
      some ((-1), u102)
    else
      (pX5_isGathered u102).bind fun y106 =>
      if y106 = 0 then
        (pX5_cost 1).bind fun y115 =>
        some (y115, u102)
      else
        (pX5_lineOf u102 x1).bind fun y108 =>
        if y108 = (-1) then
          (pX5_taken u102 ((x1 / 4) - (x1 / 4) / 4 * 4)).bind fun y110 =>
          if y110 = (-1) then
            (pX5_fullest u102 ((x1 / 4) - (x1 / 4) / 4 * 4)).bind fun y112 =>
            (pX5_dirtyIn u102 y112).bind fun y113 =>
            (pX5_cost y113).bind fun y114 =>
            pX5_ifWritten_84 y114 u102
          else
            pX5_ifWritten_68 u102
        else
          pX5_ifWritten_68 u102
def pX5_ifWritten (u : Mem) (x1 : Int32) : Option (Int32 × Mem) :=
  (pX5_isBlock x1).bind fun y1 =>
  if y1 = 0 then
    pX5_ifWritten_13 x1 1 u
  else
    pX5_ifWritten_13 x1 0 u
def pX5_ifDestaged_44 (s0 : Int32) (u : Mem) : Option (Int32 × Mem) :=
  some (s0, u)
def pX5_ifDestaged_9b (k : Int32 → Int32 → Mem → Option (Int32 × Mem)) (x1 : Int32) (x2 : Int32) (u : Mem) : Option (Int32 × Mem) :=
  if 16 ≤ x2 then
    (pX5_isCharging u).bind fun y102 =>
    if y102 = 0 then
      pX5_ifDestaged_44 (-1) u
    else
      pX5_ifDestaged_44 x1 u
  else
    (pX5_dirtyIn u x2).bind fun y104 =>
    (pX5_cost y104).bind fun y105 =>
    k (x1 + y105) (x2 + 1) u
def pX5_ifDestaged_9 : Nat → Int32 → Int32 → Mem → Option (Int32 × Mem)
  | 0, _, _, _ => none
  | n + 1, x1, x2, u => pX5_ifDestaged_9b (pX5_ifDestaged_9 n) x1 x2 u
def pX5_ifDestaged (u : Mem) : Option (Int32 × Mem) :=
  (pf u 0 0 0).bind fun u1 =>
  pX5_ifDestaged_9 FU 0 0 u1
def pX5_ticksToLoss_25 (s1 : Int32) (u : Mem) : Option (Int32 × Mem) :=
  bd2 (pX5_told u s1) fun y201 u202 =>
  some (y201, u202)
def pX5_ticksToLoss_15 (u : Mem) : Option (Int32 × Mem) :=
  pX5_ticksToLoss_25 (-1) u
def pX5_ticksToLoss (u : Mem) : Option (Int32 × Mem) :=
  (pX5_dirtyLines u).bind fun y1 =>
  if y1 = 0 then
    pX5_ticksToLoss_15 u
  else
    (pX5_isCharging u).bind fun y3 =>
    if y3 = 0 then
      (ld u 1 2317 3).bind fun y5 =>
      pX5_ticksToLoss_25 y5 u
    else
      pX5_ticksToLoss_15 u
def pX5_count_35 (s0 : Int32) (u : Mem) : Option (Int32 × Mem) :=
  some (s0, u)
def pX5_count_16 (x1 : Int32) (s1 : Int32) (u : Mem) : Option (Int32 × Mem) :=
  bd2 (pX5_holds u s1) fun y101 u102 =>
  if y101 = 0 then
    pX5_count_35 0 u102
  else
    (ld u102 1 2317 (6 + x1)).bind fun y104 =>
    pX5_count_35 y104 u102
def pX5_count (u : Mem) (x1 : Int32) : Option (Int32 × Mem) :=
  (pX5_in x1 0 7).bind fun y1 =>
  if y1 = 0 then
    pX5_count_16 x1 1 u
  else
    pX5_count_16 x1 0 u
def pX5_savedStates (u : Mem) : Option (Int32 × Mem) :=
  bd2 (pX5_told u (u 0 1)) fun y1 u2 =>
  some (y1, u2)
def pX5_textLength (u : Mem) : Option (Int32 × Mem) :=
  bd2 (pX5_told u (u 0 2)) fun y1 u2 =>
  some (y1, u2)
