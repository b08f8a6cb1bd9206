/-! WHAT EACH METHOD DOES TO A MEMORY, by program out of the bytecode: none where a place is out of its row, or a loop has no end. -/
def pX4_isBlock_15 (s0 : Int32) : Option Int32 :=
  if isz s0 = true then some s0 else none
def pX4_isBlock_14 : Option Int32 :=
  pX4_isBlock_15 0
def pX4_isBlock (x0 : Int32) : Option Int32 :=
  if x0 < 0 then
    pX4_isBlock_14 
  else
    if 64 ≤ x0 then
      pX4_isBlock_14 
    else
      pX4_isBlock_15 1
def pX4_isLine_15 (s0 : Int32) : Option Int32 :=
  if isz s0 = true then some s0 else none
def pX4_isLine_14 : Option Int32 :=
  pX4_isLine_15 0
def pX4_isLine (x0 : Int32) : Option Int32 :=
  if x0 < 0 then
    pX4_isLine_14 
  else
    if 12 ≤ x0 then
      pX4_isLine_14 
    else
      pX4_isLine_15 1
def pX4_stripeOf (x0 : Int32) : Option Int32 :=
  some (x0 / 4)
def pX4_readsToWrite_12 (s0 : Int32) : Option Int32 :=
  some s0
def pX4_readsToWrite (x0 : Int32) : Option Int32 :=
  if 2 < x0 then
    pX4_readsToWrite_12 (4 - x0)
  else
    pX4_readsToWrite_12 2
def pX4_writesToWrite (x0 : Int32) : Option Int32 :=
  some (x0 + 1)
def pX4_operationsToWrite_17 (s0 : Int32) : Option Int32 :=
  some s0
def pX4_operationsToWrite (x0 : Int32) : Option Int32 :=
  if x0 = 0 then
    pX4_operationsToWrite_17 0
  else
    (pX4_readsToWrite x0).bind fun y2 =>
    (pX4_writesToWrite x0).bind fun y3 =>
    pX4_operationsToWrite_17 (y2 + y3)
def pX2_lineOf_2b (u : Mem) (x1 : Int32) (k : Int32 → Option Int32) (x2 : Int32) : Option Int32 :=
  if 12 ≤ x2 then
    some (-1)
  else
    (ld u 1 12 x2).bind fun y102 =>
    if y102 = x1 then
      some x2
    else
      k (x2 + 1)
def pX2_lineOf_2 (u : Mem) (x1 : Int32) : Nat → Int32 → Option Int32
  | 0, _ => none
  | n + 1, x2 => pX2_lineOf_2b u x1 (pX2_lineOf_2 u x1 n) x2
def pX2_lineOf (u : Mem) (x1 : Int32) : Option Int32 :=
  pX2_lineOf_2 u x1 FU 0
def pX2_lineInReach_16 (u : Mem) (s0 : Int32) : Option Int32 :=
  some s0
def pX2_lineInReach (u : Mem) (x1 : Int32) : Option Int32 :=
  if (u 0 3) = 0 then
    pX2_lineInReach_16 u (-1)
  else
    (pX2_lineOf u x1).bind fun y2 =>
    pX2_lineInReach_16 u y2
def pX2_freeLine_73 (u : Mem) (x1 : Int32) (k : Int32 → Int32 → Int32 → Option Int32) (x2 : Int32) (x3 : Int32) (x4 : Int32) : Option Int32 :=
  k x2 x3 (x4 + 1)
def pX2_freeLine_62 (u : Mem) (x1 : Int32) (k : Int32 → Int32 → Int32 → Option Int32) (x4 : Int32) : Option Int32 :=
  (ld u 4 12 x4).bind fun y201 =>
  pX2_freeLine_73 u x1 k x4 y201 x4
def pX2_freeLine_7b (u : Mem) (x1 : Int32) (k : Int32 → Int32 → Int32 → Option Int32) (x2 : Int32) (x3 : Int32) (x4 : Int32) : Option Int32 :=
  if 12 ≤ x4 then
    some x2
  else
    if (x4 / 3) = x1 then
      (ld u 5 12 x4).bind fun y103 =>
      if y103 = 0 then
        (ld u 1 12 x4).bind fun y105 =>
        if y105 = (-1) then
          some x4
        else
          if x2 = (-1) then
            pX2_freeLine_62 u x1 k x4
          else
            (ld u 4 12 x4).bind fun y108 =>
            if x3 ≤ y108 then
              pX2_freeLine_73 u x1 k x2 x3 x4
            else
              pX2_freeLine_62 u x1 k x4
      else
        pX2_freeLine_73 u x1 k x2 x3 x4
    else
      pX2_freeLine_73 u x1 k x2 x3 x4
def pX2_freeLine_7 (u : Mem) (x1 : Int32) : Nat → Int32 → Int32 → Int32 → Option Int32
  | 0, _, _, _ => none
  | n + 1, x2, x3, x4 => pX2_freeLine_7b u x1 (pX2_freeLine_7 u x1 n) x2 x3 x4
def pX2_freeLine (u : Mem) (x1 : Int32) : Option Int32 :=
  pX2_freeLine_7 u x1 FU (-1) 0 0
def pX2_isDirtyOf_37 (u : Mem) (s0 : Int32) : Option Int32 :=
  if isz s0 = true then some s0 else none
def pX2_isDirtyOf_36 (u : Mem) : Option Int32 :=
  pX2_isDirtyOf_37 u 0
def pX2_isDirtyOf (u : Mem) (x1 : Int32) (x2 : Int32) : Option Int32 :=
  if x1 < 0 then
    pX2_isDirtyOf_36 u
  else
    if 12 ≤ x1 then
      pX2_isDirtyOf_36 u
    else
      (ld u 5 12 x1).bind fun y3 =>
      if y3 = 0 then
        pX2_isDirtyOf_36 u
      else
        (ld u 1 12 x1).bind fun y5 =>
        (pX4_stripeOf y5).bind fun y6 =>
        if y6 = x2 then
          pX2_isDirtyOf_37 u 1
        else
          pX2_isDirtyOf_36 u
def pX2_dirtyLinesOf_22 (u : Mem) (x1 : Int32) (k : Int32 → Int32 → Option Int32) (x2 : Int32) (x3 : Int32) : Option Int32 :=
  k x2 (x3 + 1)
def pX2_dirtyLinesOf_4b (u : Mem) (x1 : Int32) (k : Int32 → Int32 → Option Int32) (x2 : Int32) (x3 : Int32) : Option Int32 :=
  if 12 ≤ x3 then
    some x2
  else
    (pX2_isDirtyOf u x3 x1).bind fun y102 =>
    if y102 = 0 then
      pX2_dirtyLinesOf_22 u x1 k x2 x3
    else
      pX2_dirtyLinesOf_22 u x1 k (x2 + 1) x3
def pX2_dirtyLinesOf_4 (u : Mem) (x1 : Int32) : Nat → Int32 → Int32 → Option Int32
  | 0, _, _ => none
  | n + 1, x2, x3 => pX2_dirtyLinesOf_4b u x1 (pX2_dirtyLinesOf_4 u x1 n) x2 x3
def pX2_dirtyLinesOf (u : Mem) (x1 : Int32) : Option Int32 :=
  pX2_dirtyLinesOf_4 u x1 FU 0 0
def pX2_fullestStripe_42 (u : Mem) (x1 : Int32) (k : Int32 → Int32 → Int32 → Option Int32) (x2 : Int32) (x3 : Int32) (x4 : Int32) : Option Int32 :=
  k x2 x3 (x4 + 1)
def pX2_fullestStripe_7b (u : Mem) (x1 : Int32) (k : Int32 → Int32 → Int32 → Option Int32) (x2 : Int32) (x3 : Int32) (x4 : Int32) : Option Int32 :=
  if 16 ≤ x4 then
    some x2
  else
    if (x4 - x4 / 4 * 4) = x1 then
      (pX2_dirtyLinesOf u x4).bind fun y103 =>
      if y103 ≤ x3 then
        pX2_fullestStripe_42 u x1 k x2 x3 x4
      else
        (pX2_dirtyLinesOf u x4).bind fun y105 =>
        pX2_fullestStripe_42 u x1 k x4 y105 x4
    else
      pX2_fullestStripe_42 u x1 k x2 x3 x4
def pX2_fullestStripe_7 (u : Mem) (x1 : Int32) : Nat → Int32 → Int32 → Int32 → Option Int32
  | 0, _, _, _ => none
  | n + 1, x2, x3, x4 => pX2_fullestStripe_7b u x1 (pX2_fullestStripe_7 u x1 n) x2 x3 x4
def pX2_fullestStripe (u : Mem) (x1 : Int32) : Option Int32 :=
  pX2_fullestStripe_7 u x1 FU (-1) 0 0
def pX2_use_27 (u : Mem) : Option Mem :=
  some u
def pX2_use (u : Mem) (x1 : Int32) : Option Mem :=
  (pX4_isLine x1).bind fun y1 =>
  if y1 = 0 then
    pX2_use_27 u
  else
    (pf u 0 0 ((u 0 0) + 1)).bind fun u3 =>
    (st u3 4 12 x1 (u3 0 0)).bind fun u4 =>
    pX2_use_27 u4
def pX2_fill_42 (u : Mem) : Option Mem :=
  some u
def pX2_fill (u : Mem) (x1 : Int32) (x2 : Int32) (x3 : Int32) (x4 : Int32) (x5 : Int32) : Option Mem :=
  (pX4_isLine x1).bind fun y1 =>
  if y1 = 0 then
    pX2_fill_42 u
  else
    (st u 1 12 x1 x2).bind fun u3 =>
    (st u3 2 12 x1 x3).bind fun u4 =>
    (st u4 3 12 x1 x4).bind fun u5 =>
    (stz u5 5 12 x1 x5).bind fun u6 =>
    (pX2_use u6 x1).bind fun u7 =>
    pX2_fill_42 u7
def pX2_empty_21 (u : Mem) : Option Mem :=
  some u
def pX2_empty (u : Mem) (x1 : Int32) : Option Mem :=
  (pX4_isLine x1).bind fun y1 =>
  if y1 = 0 then
    pX2_empty_21 u
  else
    (st u 1 12 x1 (-1)).bind fun u3 =>
    (stz u3 5 12 x1 0).bind fun u4 =>
    pX2_empty_21 u4
def pX2_dirtyLines_22 (u : Mem) (k : Int32 → Int32 → Option Int32) (x1 : Int32) (x2 : Int32) : Option Int32 :=
  k x1 (x2 + 1)
def pX2_dirtyLines_4b (u : Mem) (k : Int32 → Int32 → Option Int32) (x1 : Int32) (x2 : Int32) : Option Int32 :=
  if 12 ≤ x2 then
    some x1
  else
    (ld u 5 12 x2).bind fun y102 =>
    if y102 = 0 then
      pX2_dirtyLines_22 u k x1 x2
    else
      pX2_dirtyLines_22 u k (x1 + 1) x2
def pX2_dirtyLines_4 (u : Mem) : Nat → Int32 → Int32 → Option Int32
  | 0, _, _ => none
  | n + 1, x1, x2 => pX2_dirtyLines_4b u (pX2_dirtyLines_4 u n) x1 x2
def pX2_dirtyLines (u : Mem) : Option Int32 :=
  pX2_dirtyLines_4 u FU 0 0
def pX2_usedLines_23 (u : Mem) (k : Int32 → Int32 → Option Int32) (x1 : Int32) (x2 : Int32) : Option Int32 :=
  k x1 (x2 + 1)
def pX2_usedLines_4b (u : Mem) (k : Int32 → Int32 → Option Int32) (x1 : Int32) (x2 : Int32) : Option Int32 :=
  if 12 ≤ x2 then
    some x1
  else
    (ld u 1 12 x2).bind fun y102 =>
    if y102 = (-1) then
      pX2_usedLines_23 u k x1 x2
    else
      pX2_usedLines_23 u k (x1 + 1) x2
def pX2_usedLines_4 (u : Mem) : Nat → Int32 → Int32 → Option Int32
  | 0, _, _ => none
  | n + 1, x1, x2 => pX2_usedLines_4b u (pX2_usedLines_4 u n) x1 x2
def pX2_usedLines (u : Mem) : Option Int32 :=
  pX2_usedLines_4 u FU 0 0
def pX2_partOf_17 (u : Mem) : Option Int32 :=
  some (-1)
def pX2_partOf_98 (u : Mem) (s0 : Int32) : Option Int32 :=
  some s0
def pX2_partOf (u : Mem) (x1 : Int32) (x2 : Int32) : Option Int32 :=
  (pX4_isLine x1).bind fun y1 =>
  if y1 = 0 then
    pX2_partOf_17 u
  else
    (ld u 1 12 x1).bind fun y3 =>
    if y3 = (-1) then
      pX2_partOf_17 u
    else
      if x2 = 0 then
        (ld u 1 12 x1).bind fun y5 =>
        some y5
      else if x2 = 1 then
        (ld u 2 12 x1).bind fun y6 =>
        some y6
      else if x2 = 2 then
        (ld u 3 12 x1).bind fun y7 =>
        some y7
      else if x2 = 3 then
        (ld u 4 12 x1).bind fun y8 =>
        some y8
      else if x2 = 4 then
        (ld u 5 12 x1).bind fun y9 =>
        if y9 = 0 then
          pX2_partOf_98 u 0
        else
          pX2_partOf_98 u 1
      else 
        some (-1)
def pX2_limitTo (u : Mem) (x1 : Int32) : Option Mem :=
  (pf u 0 1 x1).bind fun u1 =>
  (pf u1 0 2 (if (u1 0 1) < (u1 0 2) then (u1 0 1) else (u1 0 2))).bind fun u2 =>
  some u2
def pX2_load (u : Mem) : Option Mem :=
  (pf u 0 2 (if (u 0 1) < ((u 0 2) + 2) then (u 0 1) else ((u 0 2) + 2))).bind fun u1 =>
  some u1
def pX2_drain_30b (x1 : Int32) (k : Int32 → Mem → Option (Int32 × Mem)) (x2 : Int32) (u : Mem) : Option (Int32 × Mem) :=
  if 12 ≤ x2 then
    some (x1, u)
  else
    (pX2_empty u x2).bind fun u102 =>
    k (x2 + 1) u102
def pX2_drain_30 (x1 : Int32) : Nat → Int32 → Mem → Option (Int32 × Mem)
  | 0, _, _ => none
  | n + 1, x2, u => pX2_drain_30b x1 (pX2_drain_30 x1 n) x2 u
def pX2_drain (u : Mem) : Option (Int32 × Mem) :=
  (pf u 0 2 (if ((u 0 2) - 1) < 0 then 0 else ((u 0 2) - 1))).bind fun u1 =>
  if (u1 0 2) ≤ 0 then
    (pX2_dirtyLines u1).bind fun y3 =>
    pX2_drain_30 y3 FU 0 u1
  else
    some (0, u1)
def pX1_canDestage_22 (u : Mem) (s0 : Int32) : Option Int32 :=
  if isz s0 = true then some s0 else none
def pX1_canDestage_21 (u : Mem) : Option Int32 :=
  pX1_canDestage_22 u 0
def pX1_canDestage (u : Mem) : Option Int32 :=
  if (u 6 1) = 0 then
    pX1_canDestage_21 u
  else
    if (u 0 3) = 0 then
      pX1_canDestage_21 u
    else
      pX1_canDestage_22 u 1
def pX1_gathers_27 (u : Mem) (s0 : Int32) : Option Int32 :=
  if isz s0 = true then some s0 else none
def pX1_gathers_26 (u : Mem) : Option Int32 :=
  pX1_gathers_27 u 0
def pX1_gathers (u : Mem) : Option Int32 :=
  if (u 0 3) = 0 then
    pX1_gathers_26 u
  else
    if (u 0 2) < 20 then
      pX1_gathers_26 u
    else
      pX1_gathers_27 u 1
def pX1_diskValueOf_17 (u : Mem) (s0 : Int32) : Option Int32 :=
  some s0
def pX1_diskValueOf (u : Mem) (x1 : Int32) : Option Int32 :=
  (pX4_isBlock x1).bind fun y1 =>
  if y1 = 0 then
    pX1_diskValueOf_17 u (-1)
  else
    (ld u 7 64 x1).bind fun y3 =>
    pX1_diskValueOf_17 u y3
def pX1_putOnDisk_21 (u : Mem) : Option Mem :=
  some u
def pX1_putOnDisk (u : Mem) (x1 : Int32) (x2 : Int32) (x3 : Int32) : Option Mem :=
  (pX4_isBlock x1).bind fun y1 =>
  if y1 = 0 then
    pX1_putOnDisk_21 u
  else
    (st u 7 64 x1 x2).bind fun u3 =>
    (st u3 8 64 x1 x3).bind fun u4 =>
    pX1_putOnDisk_21 u4
def pX1_countWrittenTogether (u : Mem) (x1 : Int32) : Option Mem :=
  (ld u 10 9 0).bind fun y1 =>
  (pX4_readsToWrite x1).bind fun y2 =>
  (st u 10 9 0 (y1 + y2)).bind fun u3 =>
  (ld u3 10 9 1).bind fun y4 =>
  (pX4_writesToWrite x1).bind fun y5 =>
  (st u3 10 9 1 (y4 + y5)).bind fun u6 =>
  some u6
def pX1_destageStripe_66 (x1 : Int32) (k : Int32 → Int32 → Mem → Option (Int32 × Mem)) (x2 : Int32) (x3 : Int32) (u : Mem) : Option (Int32 × Mem) :=
  k x2 (x3 + 1) u
def pX1_destageStripe_103 (x2 : Int32) (u : Mem) : Option (Int32 × Mem) :=
  some (x2, u)
def pX1_destageStripe_4b (x1 : Int32) (k : Int32 → Int32 → Mem → Option (Int32 × Mem)) (x2 : Int32) (x3 : Int32) (u : Mem) : Option (Int32 × Mem) :=
  if 12 ≤ x3 then
    if x2 ≤ 0 then
      pX1_destageStripe_103 x2 u
    else
      (pX1_countWrittenTogether u x2).bind fun u103 =>
      (ld u103 10 9 7).bind fun y104 =>
      (st u103 10 9 7 (y104 + 1)).bind fun u105 =>
      (ld u105 10 9 8).bind fun y106 =>
      (st u105 10 9 8 (y106 + x2)).bind fun u107 =>
      pX1_destageStripe_103 x2 u107
  else
    (pX2_isDirtyOf u x3 x1).bind fun y108 =>
    if y108 = 0 then
      pX1_destageStripe_66 x1 k x2 x3 u
    else
      (ld u 1 12 x3).bind fun y110 =>
      (ld u 2 12 x3).bind fun y111 =>
      (ld u 3 12 x3).bind fun y112 =>
      (pX1_putOnDisk u y110 y111 y112).bind fun u113 =>
      (stz u113 5 12 x3 0).bind fun u114 =>
      pX1_destageStripe_66 x1 k (x2 + 1) x3 u114
def pX1_destageStripe_4 (x1 : Int32) : Nat → Int32 → Int32 → Mem → Option (Int32 × Mem)
  | 0, _, _, _ => none
  | n + 1, x2, x3, u => pX1_destageStripe_4b x1 (pX1_destageStripe_4 x1 n) x2 x3 u
def pX1_destageStripe (u : Mem) (x1 : Int32) : Option (Int32 × Mem) :=
  pX1_destageStripe_4 x1 FU 0 0 u
def pX1_gather_66 (x1 : Int32) (x2 : Int32) (x4 : Int32) (u : Mem) : Option Mem :=
  (pX2_fill u x4 x1 x2 (u 6 0) 1).bind fun u201 =>
  (ld u201 10 9 2).bind fun y202 =>
  (st u201 10 9 2 (y202 + 1)).bind fun u203 =>
  some u203
def pX1_gather_35 (x1 : Int32) (x2 : Int32) (x3 : Int32) (x4 : Int32) (u : Mem) : Option Mem :=
  (pX4_isLine x4).bind fun y101 =>
  if y101 = 0 then
    (pX2_fullestStripe u x3).bind fun y103 =>
    bd2 (pX1_destageStripe u y103) fun y104 u105 =>
    (pX2_freeLine u105 x3).bind fun y106 =>
    pX1_gather_66 x1 x2 y106 u105
  else
    pX1_gather_66 x1 x2 x4 u
def pX1_gather (u : Mem) (x1 : Int32) (x2 : Int32) : Option Mem :=
  (pX4_stripeOf x1).bind fun y1 =>
  (pX2_lineOf u x1).bind fun y2 =>
  (pX4_isLine y2).bind fun y3 =>
  if y3 = 0 then
    (pX2_freeLine u (y1 - y1 / 4 * 4)).bind fun y5 =>
    pX1_gather_35 x1 x2 (y1 - y1 / 4 * 4) y5 u
  else
    pX1_gather_35 x1 x2 (y1 - y1 / 4 * 4) y2 u
def pX1_writeThrough (u : Mem) (x1 : Int32) (x2 : Int32) : Option Mem :=
  (pX1_putOnDisk u x1 x2 (u 6 0)).bind fun u1 =>
  (pX1_countWrittenTogether u1 1).bind fun u2 =>
  (pX2_lineInReach u2 x1).bind fun y3 =>
  (pX2_fill u2 y3 x1 x2 (u2 6 0) 0).bind fun u4 =>
  (ld u4 10 9 3).bind fun y5 =>
  (st u4 10 9 3 (y5 + 1)).bind fun u6 =>
  some u6
def pX1_writeBlock_63 (x3 : Int32) (u : Mem) : Option (Int32 × Mem) :=
  (ld u 10 9 0).bind fun y201 =>
  (ld u 10 9 1).bind fun y202 =>
  some (((y201 + y202) - x3), u)
def pX1_writeBlock_41 (x1 : Int32) (x2 : Int32) (x3 : Int32) (u : Mem) : Option (Int32 × Mem) :=
  (pX1_gathers u).bind fun y101 =>
  if y101 = 0 then
    (pX1_writeThrough u x1 x2).bind fun u103 =>
    pX1_writeBlock_63 x3 u103
  else
    (pX1_gather u x1 x2).bind fun u104 =>
    pX1_writeBlock_63 x3 u104
def pX1_writeBlock (u : Mem) (x1 : Int32) (x2 : Int32) : Option (Int32 × Mem) :=
  (ld u 10 9 0).bind fun y1 =>
  (ld u 10 9 1).bind fun y2 =>
  (pf u 6 0 ((u 6 0) + 1)).bind fun u3 =>
  (pX4_isBlock x1).bind fun y4 =>
  if y4 = 0 then
    pX1_writeBlock_41 x1 x2 (y1 + y2) u3
  else
    (st u3 9 64 x1 (u3 6 0)).bind fun u6 =>
    pX1_writeBlock_41 x1 x2 (y1 + y2) u6
def pX1_readBlock (u : Mem) (x1 : Int32) : Option (Int32 × Mem) :=
  (pX2_lineInReach u x1).bind fun y1 =>
  (pX4_isLine y1).bind fun y2 =>
  if y2 = 0 then
    (ld u 10 9 5).bind fun y4 =>
    (st u 10 9 5 (y4 + 1)).bind fun u5 =>
    (ld u5 10 9 0).bind fun y6 =>
    (st u5 10 9 0 (y6 + 1)).bind fun u7 =>
    (pX1_diskValueOf u7 x1).bind fun y8 =>
    some (y8, u7)
  else
    (ld u 10 9 4).bind fun y9 =>
    (st u 10 9 4 (y9 + 1)).bind fun u10 =>
    (pX2_use u10 y1).bind fun u11 =>
    (ld u11 2 12 y1).bind fun y12 =>
    some (y12, u11)
def pX1_destageStripes_4b (k : Int32 → Int32 → Mem → Option (Int32 × Mem)) (x1 : Int32) (x2 : Int32) (u : Mem) : Option (Int32 × Mem) :=
  if 16 ≤ x2 then
    some (x1, u)
  else
    bd2 (pX1_destageStripe u x2) fun y102 u103 =>
    k (x1 + y102) (x2 + 1) u103
def pX1_destageStripes_4 : Nat → Int32 → Int32 → Mem → Option (Int32 × Mem)
  | 0, _, _, _ => none
  | n + 1, x1, x2, u => pX1_destageStripes_4b (pX1_destageStripes_4 n) x1 x2 u
def pX1_destageStripes (u : Mem) : Option (Int32 × Mem) :=
  pX1_destageStripes_4 FU 0 0 u
def pX1_letPass_41 (x1 : Int32) (k : Int32 → Mem → Option Mem) (x2 : Int32) (u : Mem) : Option Mem :=
  k (x2 + 1) u
def pX1_letPass_2b (x1 : Int32) (k : Int32 → Mem → Option Mem) (x2 : Int32) (u : Mem) : Option Mem :=
  if x1 ≤ x2 then
    some u
  else
    (pX1_canDestage u).bind fun y102 =>
    if y102 = 0 then
      (ld u 10 9 6).bind fun y104 =>
      bd2 (pX2_drain u) fun y105 u106 =>
      (st u106 10 9 6 (y104 + y105)).bind fun u107 =>
      pX1_letPass_41 x1 k x2 u107
    else
      (pX2_load u).bind fun u108 =>
      pX1_letPass_41 x1 k x2 u108
def pX1_letPass_2 (x1 : Int32) : Nat → Int32 → Mem → Option Mem
  | 0, _, _ => none
  | n + 1, x2, u => pX1_letPass_2b x1 (pX1_letPass_2 x1 n) x2 u
def pX1_letPass (u : Mem) (x1 : Int32) : Option Mem :=
  pX1_letPass_2 x1 FU 0 u
def pX1_switchPower_53 (u : Mem) : Option (Int32 × Mem) :=
  some (0, u)
def pX1_switchPower_16 (x1 : Int32) (s0 : Int32) (u : Mem) : Option (Int32 × Mem) :=
  (pz u 6 1 x1).bind fun u201 =>
  if s0 = 0 then
    pX1_switchPower_53 u201
  else
    if (u201 0 3) = 0 then
      pX1_switchPower_53 u201
    else
      if 20 ≤ (u201 0 2) then
        pX1_switchPower_53 u201
      else
        bd2 (pX1_destageStripes u201) fun y205 u206 =>
        some (y205, u206)
def pX1_switchPower_15 (x1 : Int32) (u : Mem) : Option (Int32 × Mem) :=
  pX1_switchPower_16 x1 0 u
def pX1_switchPower (u : Mem) (x1 : Int32) : Option (Int32 × Mem) :=
  if x1 = 0 then
    pX1_switchPower_15 x1 u
  else
    if (u 6 1) = 0 then
      pX1_switchPower_16 x1 1 u
    else
      pX1_switchPower_15 x1 u
def pX1_emptyOutdatedLines_56 (k : Int32 → Int32 → Mem → Option (Int32 × Mem)) (x1 : Int32) (x2 : Int32) (u : Mem) : Option (Int32 × Mem) :=
  k x1 (x2 + 1) u
def pX1_emptyOutdatedLines_4b (k : Int32 → Int32 → Mem → Option (Int32 × Mem)) (x1 : Int32) (x2 : Int32) (u : Mem) : Option (Int32 × Mem) :=
  if 12 ≤ x2 then
    some (x1, u)
  else
    (ld u 1 12 x2).bind fun y102 =>
    (pX4_isBlock y102).bind fun y103 =>
    if y103 = 0 then
      pX1_emptyOutdatedLines_56 k x1 x2 u
    else
      (ld u 3 12 x2).bind fun y105 =>
      (ld u 8 64 y102).bind fun y106 =>
      if y106 ≤ y105 then
        pX1_emptyOutdatedLines_56 k x1 x2 u
      else
        (pX2_empty u x2).bind fun u108 =>
        pX1_emptyOutdatedLines_56 k (x1 + 1) x2 u108
def pX1_emptyOutdatedLines_4 : Nat → Int32 → Int32 → Mem → Option (Int32 × Mem)
  | 0, _, _, _ => none
  | n + 1, x1, x2, u => pX1_emptyOutdatedLines_4b (pX1_emptyOutdatedLines_4 n) x1 x2 u
def pX1_emptyOutdatedLines (u : Mem) : Option (Int32 × Mem) :=
  pX1_emptyOutdatedLines_4 FU 0 0 u
def pX1_placeStick_40 (s0 : Int32) (u : Mem) : Option (Int32 × Mem) :=
  some (s0, u)
def pX1_placeStick_19 (x1 : Int32) (s0 : Int32) (u : Mem) : Option (Int32 × Mem) :=
  (pz u 0 3 x1).bind fun u201 =>
  if s0 = 0 then
    pX1_placeStick_40 0 u201
  else
    bd2 (pX1_emptyOutdatedLines u201) fun y203 u204 =>
    pX1_placeStick_40 y203 u204
def pX1_placeStick_18 (x1 : Int32) (u : Mem) : Option (Int32 × Mem) :=
  pX1_placeStick_19 x1 0 u
def pX1_placeStick (u : Mem) (x1 : Int32) : Option (Int32 × Mem) :=
  if x1 = 0 then
    pX1_placeStick_18 x1 u
  else
    if (u 0 3) = 0 then
      pX1_placeStick_19 x1 1 u
    else
      pX1_placeStick_18 x1 u
def pX1_finds_65 (u : Mem) (s0 : Int32) : Option Int32 :=
  if isz s0 = true then some s0 else none
def pX1_finds_64 (u : Mem) : Option Int32 :=
  pX1_finds_65 u 0
def pX1_finds (u : Mem) (x1 : Int32) : Option Int32 :=
  (pX4_isBlock x1).bind fun y1 =>
  if y1 = 0 then
    some 0
  else
    (ld u 8 64 x1).bind fun y3 =>
    (ld u 9 64 x1).bind fun y4 =>
    if y3 = y4 then
      some 1
    else
      (pX2_lineInReach u x1).bind fun y6 =>
      (pX4_isLine y6).bind fun y7 =>
      if y7 = 0 then
        pX1_finds_64 u
      else
        (ld u 3 12 y6).bind fun y9 =>
        (ld u 9 64 x1).bind fun y10 =>
        if y9 = y10 then
          pX1_finds_65 u 1
        else
          pX1_finds_64 u
def pX1_operationsIfWritten_47 (u : Mem) : Option Int32 :=
  some 0
def pX1_operationsIfWritten (u : Mem) (x1 : Int32) : Option Int32 :=
  (pX1_gathers u).bind fun y1 =>
  if y1 = 0 then
    (pX4_operationsToWrite 1).bind fun y13 =>
    some y13
  else
    (pX4_stripeOf x1).bind fun y3 =>
    (pX2_lineOf u x1).bind fun y4 =>
    (pX4_isLine y4).bind fun y5 =>
    if y5 = 0 then
      (pX2_freeLine u (y3 - y3 / 4 * 4)).bind fun y7 =>
      (pX4_isLine y7).bind fun y8 =>
      if y8 = 0 then
        (pX2_fullestStripe u (y3 - y3 / 4 * 4)).bind fun y10 =>
        (pX2_dirtyLinesOf u y10).bind fun y11 =>
        (pX4_operationsToWrite y11).bind fun y12 =>
        some y12
      else
        pX1_operationsIfWritten_47 u
    else
      pX1_operationsIfWritten_47 u
def pX1_operationsIfDestaged_4b (u : Mem) (k : Int32 → Int32 → Option Int32) (x1 : Int32) (x2 : Int32) : Option Int32 :=
  if 16 ≤ x2 then
    some x1
  else
    (pX2_dirtyLinesOf u x2).bind fun y102 =>
    (pX4_operationsToWrite y102).bind fun y103 =>
    k (x1 + y103) (x2 + 1)
def pX1_operationsIfDestaged_4 (u : Mem) : Nat → Int32 → Int32 → Option Int32
  | 0, _, _ => none
  | n + 1, x1, x2 => pX1_operationsIfDestaged_4b u (pX1_operationsIfDestaged_4 u n) x1 x2
def pX1_operationsIfDestaged (u : Mem) : Option Int32 :=
  pX1_operationsIfDestaged_4 u FU 0 0
def pJ9_floorMod_7cf53_18 (x2 : Int32) : Option Int32 :=
  some x2
def pJ9_floorMod_7cf53 (x0 : Int32) (x1 : Int32) : Option Int32 :=
  (nzr x1).bind fun y1 =>
  if 0 ≤ (x0 ^^^ x1) then
    pJ9_floorMod_7cf53_18 (x0 - x0 / x1 * x1)
  else
    if (x0 - x0 / x1 * x1) = 0 then
      pJ9_floorMod_7cf53_18 (x0 - x0 / x1 * x1)
    else
      some ((x0 - x0 / x1 * x1) + x1)
