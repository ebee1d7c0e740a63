def fL_size (size : Int32) : Int32 :=
size
def fS_isMarkPlace (a0 : Int32) : Int32 :=
if a0 < (1 : Int32) then ((0 : Int32))
else (if (64 : Int32) ≤ a0 then ((0 : Int32))
else ((1 : Int32)))
def fL_isMarkedAt (marks : Int64) (a1 : Int32) : Int32 :=
if (fS_isMarkPlace a1) = 0 then ((0 : Int32))
else (if (lg_cmp ((marks.toUInt64 >>> (a1.toInt64.toUInt64 &&& Int64.toUInt64 63)).toInt64 &&& (1 : Int64)) (1 : Int64)) = 0 then ((1 : Int32))
else ((0 : Int32)))
def fL_at (weights : (Nat → Int32)) (a1 : Int32) : Option (Int32) :=
if a1 < 0 then (some (0 : Int32))
else (if (64 : Int32) ≤ a1 then (some (0 : Int32))
else (Option.bind (ldA weights 64 a1) fun v3 =>
some v3))
def fL_came (came : Int32) : Int32 :=
came
def fL_left (left : Int32) : Int32 :=
left
def fL_swaps (swaps : Int32) : Int32 :=
swaps
def fJ_bitCount (a0 : Int64) : Int32 :=
(((((((((a0 - ((a0.toUInt64 >>> ((1 : Int32).toInt64.toUInt64 &&& Int64.toUInt64 63)).toInt64 &&& (6148914691236517205 : Int64))) &&& (3689348814741910323 : Int64)) + (((a0 - ((a0.toUInt64 >>> ((1 : Int32).toInt64.toUInt64 &&& Int64.toUInt64 63)).toInt64 &&& (6148914691236517205 : Int64))).toUInt64 >>> ((2 : Int32).toInt64.toUInt64 &&& Int64.toUInt64 63)).toInt64 &&& (3689348814741910323 : Int64))) + ((((a0 - ((a0.toUInt64 >>> ((1 : Int32).toInt64.toUInt64 &&& Int64.toUInt64 63)).toInt64 &&& (6148914691236517205 : Int64))) &&& (3689348814741910323 : Int64)) + (((a0 - ((a0.toUInt64 >>> ((1 : Int32).toInt64.toUInt64 &&& Int64.toUInt64 63)).toInt64 &&& (6148914691236517205 : Int64))).toUInt64 >>> ((2 : Int32).toInt64.toUInt64 &&& Int64.toUInt64 63)).toInt64 &&& (3689348814741910323 : Int64))).toUInt64 >>> ((4 : Int32).toInt64.toUInt64 &&& Int64.toUInt64 63)).toInt64) &&& (1085102592571150095 : Int64)) + ((((((a0 - ((a0.toUInt64 >>> ((1 : Int32).toInt64.toUInt64 &&& Int64.toUInt64 63)).toInt64 &&& (6148914691236517205 : Int64))) &&& (3689348814741910323 : Int64)) + (((a0 - ((a0.toUInt64 >>> ((1 : Int32).toInt64.toUInt64 &&& Int64.toUInt64 63)).toInt64 &&& (6148914691236517205 : Int64))).toUInt64 >>> ((2 : Int32).toInt64.toUInt64 &&& Int64.toUInt64 63)).toInt64 &&& (3689348814741910323 : Int64))) + ((((a0 - ((a0.toUInt64 >>> ((1 : Int32).toInt64.toUInt64 &&& Int64.toUInt64 63)).toInt64 &&& (6148914691236517205 : Int64))) &&& (3689348814741910323 : Int64)) + (((a0 - ((a0.toUInt64 >>> ((1 : Int32).toInt64.toUInt64 &&& Int64.toUInt64 63)).toInt64 &&& (6148914691236517205 : Int64))).toUInt64 >>> ((2 : Int32).toInt64.toUInt64 &&& Int64.toUInt64 63)).toInt64 &&& (3689348814741910323 : Int64))).toUInt64 >>> ((4 : Int32).toInt64.toUInt64 &&& Int64.toUInt64 63)).toInt64) &&& (1085102592571150095 : Int64)).toUInt64 >>> ((8 : Int32).toInt64.toUInt64 &&& Int64.toUInt64 63)).toInt64) + (((((((a0 - ((a0.toUInt64 >>> ((1 : Int32).toInt64.toUInt64 &&& Int64.toUInt64 63)).toInt64 &&& (6148914691236517205 : Int64))) &&& (3689348814741910323 : Int64)) + (((a0 - ((a0.toUInt64 >>> ((1 : Int32).toInt64.toUInt64 &&& Int64.toUInt64 63)).toInt64 &&& (6148914691236517205 : Int64))).toUInt64 >>> ((2 : Int32).toInt64.toUInt64 &&& Int64.toUInt64 63)).toInt64 &&& (3689348814741910323 : Int64))) + ((((a0 - ((a0.toUInt64 >>> ((1 : Int32).toInt64.toUInt64 &&& Int64.toUInt64 63)).toInt64 &&& (6148914691236517205 : Int64))) &&& (3689348814741910323 : Int64)) + (((a0 - ((a0.toUInt64 >>> ((1 : Int32).toInt64.toUInt64 &&& Int64.toUInt64 63)).toInt64 &&& (6148914691236517205 : Int64))).toUInt64 >>> ((2 : Int32).toInt64.toUInt64 &&& Int64.toUInt64 63)).toInt64 &&& (3689348814741910323 : Int64))).toUInt64 >>> ((4 : Int32).toInt64.toUInt64 &&& Int64.toUInt64 63)).toInt64) &&& (1085102592571150095 : Int64)) + ((((((a0 - ((a0.toUInt64 >>> ((1 : Int32).toInt64.toUInt64 &&& Int64.toUInt64 63)).toInt64 &&& (6148914691236517205 : Int64))) &&& (3689348814741910323 : Int64)) + (((a0 - ((a0.toUInt64 >>> ((1 : Int32).toInt64.toUInt64 &&& Int64.toUInt64 63)).toInt64 &&& (6148914691236517205 : Int64))).toUInt64 >>> ((2 : Int32).toInt64.toUInt64 &&& Int64.toUInt64 63)).toInt64 &&& (3689348814741910323 : Int64))) + ((((a0 - ((a0.toUInt64 >>> ((1 : Int32).toInt64.toUInt64 &&& Int64.toUInt64 63)).toInt64 &&& (6148914691236517205 : Int64))) &&& (3689348814741910323 : Int64)) + (((a0 - ((a0.toUInt64 >>> ((1 : Int32).toInt64.toUInt64 &&& Int64.toUInt64 63)).toInt64 &&& (6148914691236517205 : Int64))).toUInt64 >>> ((2 : Int32).toInt64.toUInt64 &&& Int64.toUInt64 63)).toInt64 &&& (3689348814741910323 : Int64))).toUInt64 >>> ((4 : Int32).toInt64.toUInt64 &&& Int64.toUInt64 63)).toInt64) &&& (1085102592571150095 : Int64)).toUInt64 >>> ((8 : Int32).toInt64.toUInt64 &&& Int64.toUInt64 63)).toInt64).toUInt64 >>> ((16 : Int32).toInt64.toUInt64 &&& Int64.toUInt64 63)).toInt64) + ((((((((a0 - ((a0.toUInt64 >>> ((1 : Int32).toInt64.toUInt64 &&& Int64.toUInt64 63)).toInt64 &&& (6148914691236517205 : Int64))) &&& (3689348814741910323 : Int64)) + (((a0 - ((a0.toUInt64 >>> ((1 : Int32).toInt64.toUInt64 &&& Int64.toUInt64 63)).toInt64 &&& (6148914691236517205 : Int64))).toUInt64 >>> ((2 : Int32).toInt64.toUInt64 &&& Int64.toUInt64 63)).toInt64 &&& (3689348814741910323 : Int64))) + ((((a0 - ((a0.toUInt64 >>> ((1 : Int32).toInt64.toUInt64 &&& Int64.toUInt64 63)).toInt64 &&& (6148914691236517205 : Int64))) &&& (3689348814741910323 : Int64)) + (((a0 - ((a0.toUInt64 >>> ((1 : Int32).toInt64.toUInt64 &&& Int64.toUInt64 63)).toInt64 &&& (6148914691236517205 : Int64))).toUInt64 >>> ((2 : Int32).toInt64.toUInt64 &&& Int64.toUInt64 63)).toInt64 &&& (3689348814741910323 : Int64))).toUInt64 >>> ((4 : Int32).toInt64.toUInt64 &&& Int64.toUInt64 63)).toInt64) &&& (1085102592571150095 : Int64)) + ((((((a0 - ((a0.toUInt64 >>> ((1 : Int32).toInt64.toUInt64 &&& Int64.toUInt64 63)).toInt64 &&& (6148914691236517205 : Int64))) &&& (3689348814741910323 : Int64)) + (((a0 - ((a0.toUInt64 >>> ((1 : Int32).toInt64.toUInt64 &&& Int64.toUInt64 63)).toInt64 &&& (6148914691236517205 : Int64))).toUInt64 >>> ((2 : Int32).toInt64.toUInt64 &&& Int64.toUInt64 63)).toInt64 &&& (3689348814741910323 : Int64))) + ((((a0 - ((a0.toUInt64 >>> ((1 : Int32).toInt64.toUInt64 &&& Int64.toUInt64 63)).toInt64 &&& (6148914691236517205 : Int64))) &&& (3689348814741910323 : Int64)) + (((a0 - ((a0.toUInt64 >>> ((1 : Int32).toInt64.toUInt64 &&& Int64.toUInt64 63)).toInt64 &&& (6148914691236517205 : Int64))).toUInt64 >>> ((2 : Int32).toInt64.toUInt64 &&& Int64.toUInt64 63)).toInt64 &&& (3689348814741910323 : Int64))).toUInt64 >>> ((4 : Int32).toInt64.toUInt64 &&& Int64.toUInt64 63)).toInt64) &&& (1085102592571150095 : Int64)).toUInt64 >>> ((8 : Int32).toInt64.toUInt64 &&& Int64.toUInt64 63)).toInt64) + (((((((a0 - ((a0.toUInt64 >>> ((1 : Int32).toInt64.toUInt64 &&& Int64.toUInt64 63)).toInt64 &&& (6148914691236517205 : Int64))) &&& (3689348814741910323 : Int64)) + (((a0 - ((a0.toUInt64 >>> ((1 : Int32).toInt64.toUInt64 &&& Int64.toUInt64 63)).toInt64 &&& (6148914691236517205 : Int64))).toUInt64 >>> ((2 : Int32).toInt64.toUInt64 &&& Int64.toUInt64 63)).toInt64 &&& (3689348814741910323 : Int64))) + ((((a0 - ((a0.toUInt64 >>> ((1 : Int32).toInt64.toUInt64 &&& Int64.toUInt64 63)).toInt64 &&& (6148914691236517205 : Int64))) &&& (3689348814741910323 : Int64)) + (((a0 - ((a0.toUInt64 >>> ((1 : Int32).toInt64.toUInt64 &&& Int64.toUInt64 63)).toInt64 &&& (6148914691236517205 : Int64))).toUInt64 >>> ((2 : Int32).toInt64.toUInt64 &&& Int64.toUInt64 63)).toInt64 &&& (3689348814741910323 : Int64))).toUInt64 >>> ((4 : Int32).toInt64.toUInt64 &&& Int64.toUInt64 63)).toInt64) &&& (1085102592571150095 : Int64)) + ((((((a0 - ((a0.toUInt64 >>> ((1 : Int32).toInt64.toUInt64 &&& Int64.toUInt64 63)).toInt64 &&& (6148914691236517205 : Int64))) &&& (3689348814741910323 : Int64)) + (((a0 - ((a0.toUInt64 >>> ((1 : Int32).toInt64.toUInt64 &&& Int64.toUInt64 63)).toInt64 &&& (6148914691236517205 : Int64))).toUInt64 >>> ((2 : Int32).toInt64.toUInt64 &&& Int64.toUInt64 63)).toInt64 &&& (3689348814741910323 : Int64))) + ((((a0 - ((a0.toUInt64 >>> ((1 : Int32).toInt64.toUInt64 &&& Int64.toUInt64 63)).toInt64 &&& (6148914691236517205 : Int64))) &&& (3689348814741910323 : Int64)) + (((a0 - ((a0.toUInt64 >>> ((1 : Int32).toInt64.toUInt64 &&& Int64.toUInt64 63)).toInt64 &&& (6148914691236517205 : Int64))).toUInt64 >>> ((2 : Int32).toInt64.toUInt64 &&& Int64.toUInt64 63)).toInt64 &&& (3689348814741910323 : Int64))).toUInt64 >>> ((4 : Int32).toInt64.toUInt64 &&& Int64.toUInt64 63)).toInt64) &&& (1085102592571150095 : Int64)).toUInt64 >>> ((8 : Int32).toInt64.toUInt64 &&& Int64.toUInt64 63)).toInt64).toUInt64 >>> ((16 : Int32).toInt64.toUInt64 &&& Int64.toUInt64 63)).toInt64).toUInt64 >>> ((32 : Int32).toInt64.toUInt64 &&& Int64.toUInt64 63)).toInt64).toInt32 &&& (127 : Int32))
def fL_marked (marks : Int64) : Int32 :=
(fJ_bitCount marks)
def fL_isFull (size : Int32) : Int32 :=
if size < (64 : Int32) then ((0 : Int32))
else ((1 : Int32))
def fL_has (size : Int32) (a1 : Int32) : Int32 :=
if a1 < 0 then ((0 : Int32))
else (if size ≤ a1 then ((0 : Int32))
else ((1 : Int32)))
def fL_hasNext (size : Int32) (a1 : Int32) : Int32 :=
if a1 < 0 then ((0 : Int32))
else (if (size - (1 : Int32)) ≤ a1 then ((0 : Int32))
else ((1 : Int32)))
def fL_total_4 : Nat → (Nat → Int32) → Int32 → Int32 → Int32 → Option (Int32)
| 0, _, _, _, _ => none
| n + 1, weights, size, a1, a2 => if size ≤ a2 then (some a1)
else (Option.bind (fL_at weights a2) fun t2 =>
fL_total_4 n weights size (a1 + t2) (a2 + (1 : Int32)))
def fL_total (weights : (Nat → Int32)) (size : Int32) : Option (Int32) :=
fL_total_4 FU weights size (0 : Int32) (0 : Int32)
def fS_isWeight (a0 : Int32) : Int32 :=
if a0 < 0 then ((0 : Int32))
else (if (32 : Int32) ≤ a0 then ((0 : Int32))
else ((1 : Int32)))
def fL_lay (weights : (Nat → Int32)) (a1 : Int32) (a2 : Int32) : Option ((Nat → Int32)) :=
if a1 < 0 then (some weights)
else (if (64 : Int32) ≤ a1 then (some weights)
else (Option.bind (stA weights 64 a1 a2) fun g3 =>
some g3))
def fL_come_33 : Nat → (Nat → Int32) → Int32 → Int32 → Int32 → Int32 → Int32 → Option (Int32 × (Nat → Int32) × Int32 × Int32)
| 0, _, _, _, _, _, _ => none
| n + 1, weights, size, came, a1, a2, a3 => if a3 ≤ a1 then (Option.bind (fL_lay weights a1 a2) fun t6 =>
some ((1 : Int32), t6, (size + (1 : Int32)), (came + (1 : Int32))))
else (Option.bind (fL_at weights (a3 - (1 : Int32))) fun t7 =>
Option.bind (fL_lay weights a3 t7) fun t8 =>
fL_come_33 n t8 size came a1 a2 (a3 + (-1 : Int32)))
def fL_come (weights : (Nat → Int32)) (size : Int32) (came : Int32) (a1 : Int32) (a2 : Int32) : Option (Int32 × (Nat → Int32) × Int32 × Int32) :=
if a1 < 0 then (some ((0 : Int32), weights, size, came))
else (if size < a1 then (some ((0 : Int32), weights, size, came))
else (if (fS_isWeight a2) = 0 then (some ((0 : Int32), weights, size, came))
else (if (fL_isFull size) = 0 then (fL_come_33 FU weights size came a1 a2 size)
else (some ((0 : Int32), weights, size, came)))))
def fL_leave_12 : Nat → (Nat → Int32) → Int32 → Int32 → Int32 → Option (Int32 × (Nat → Int32) × Int32 × Int32)
| 0, _, _, _, _ => none
| n + 1, weights, size, left, a2 => if (size - (1 : Int32)) ≤ a2 then (some ((1 : Int32), weights, (size - (1 : Int32)), (left + (1 : Int32))))
else (Option.bind (fL_at weights (a2 + (1 : Int32))) fun t3 =>
Option.bind (fL_lay weights a2 t3) fun t4 =>
fL_leave_12 n t4 size left (a2 + (1 : Int32)))
def fL_leave (weights : (Nat → Int32)) (size : Int32) (left : Int32) (a1 : Int32) : Option (Int32 × (Nat → Int32) × Int32 × Int32) :=
if (fL_has size a1) = 0 then (some ((0 : Int32), weights, size, left))
else (fL_leave_12 FU weights size left a1)
def fL_exchange (weights : (Nat → Int32)) (size : Int32) (swaps : Int32) (a1 : Int32) : Option (Int32 × (Nat → Int32) × Int32) :=
if (fL_hasNext size a1) = 0 then (some ((0 : Int32), weights, swaps))
else (Option.bind (fL_at weights a1) fun t2 =>
Option.bind (fL_at weights (a1 + (1 : Int32))) fun t3 =>
if t2 = t3 then (some ((0 : Int32), weights, swaps))
else (Option.bind (fL_at weights a1) fun t5 =>
Option.bind (fL_at weights (a1 + (1 : Int32))) fun t6 =>
Option.bind (fL_lay weights a1 t6) fun t7 =>
Option.bind (fL_lay t7 (a1 + (1 : Int32)) t5) fun t8 =>
some ((1 : Int32), t8, (swaps + (1 : Int32)))))
def fL_setMark (marks : Int64) (a1 : Int32) (a2 : Int32) : Option (Int32 × Int64) :=
if (fS_isMarkPlace a1) = 0 then (some ((0 : Int32), marks))
else (if (fL_isMarkedAt marks a1) = a2 then (some ((0 : Int32), marks))
else (some ((1 : Int32), (marks ^^^ ((1 : Int64) <<< (a1.toInt64 &&& 63))))))
def fL_obey (weights : (Nat → Int32)) (size : Int32) (marks : Int64) (came : Int32) (left : Int32) (swaps : Int32) (a1 : Int32) (a2 : Int32) (a3 : Int32) : Option (Int32 × (Nat → Int32) × Int32 × Int64 × Int32 × Int32 × Int32) :=
if a1 = (99 : Int32) then (Option.bind (fL_setMark marks a2 (0 : Int32)) fun t1 =>
some (t1.1, weights, size, t1.2, came, left, swaps))
else (if a1 = (100 : Int32) then (some ((0 : Int32), weights, size, marks, came, left, swaps))
else (if a1 = (101 : Int32) then (some ((0 : Int32), weights, size, marks, came, left, swaps))
else (if a1 = (102 : Int32) then (some ((0 : Int32), weights, size, marks, came, left, swaps))
else (if a1 = (103 : Int32) then (some ((0 : Int32), weights, size, marks, came, left, swaps))
else (if a1 = (104 : Int32) then (some ((0 : Int32), weights, size, marks, came, left, swaps))
else (if a1 = (105 : Int32) then (Option.bind (fL_come weights size came a2 a3) fun t2 =>
some (t2.1, t2.2.1, t2.2.2.1, marks, t2.2.2.2, left, swaps))
else (if a1 = (106 : Int32) then (some ((0 : Int32), weights, size, marks, came, left, swaps))
else (if a1 = (107 : Int32) then (some ((0 : Int32), weights, size, marks, came, left, swaps))
else (if a1 = (108 : Int32) then (some ((0 : Int32), weights, size, marks, came, left, swaps))
else (if a1 = (109 : Int32) then (Option.bind (fL_setMark marks a2 (1 : Int32)) fun t3 =>
some (t3.1, weights, size, t3.2, came, left, swaps))
else (if a1 = (110 : Int32) then (some ((0 : Int32), weights, size, marks, came, left, swaps))
else (if a1 = (111 : Int32) then (Option.bind (fL_leave weights size left a2) fun t4 =>
some (t4.1, t4.2.1, t4.2.2.1, marks, came, t4.2.2.2, swaps))
else (if a1 = (112 : Int32) then (Option.bind (fL_come weights size came size a2) fun t5 =>
some (t5.1, t5.2.1, t5.2.2.1, marks, t5.2.2.2, left, swaps))
else (if a1 = (113 : Int32) then (some ((0 : Int32), weights, size, marks, came, left, swaps))
else (if a1 = (114 : Int32) then (some ((0 : Int32), weights, size, marks, came, left, swaps))
else (if a1 = (115 : Int32) then (Option.bind (fL_exchange weights size swaps a2) fun t6 =>
some (t6.1, t6.2.1, size, marks, came, left, t6.2.2))
else (some ((0 : Int32), weights, size, marks, came, left, swaps))))))))))))))))))
def fL_becomeLike_47 : Nat → (Nat → Int32) → Int32 → Int64 → Int32 → Int32 → Int32 → (Nat → Int32) → Int32 → Int64 → Int32 → Int32 → Int32 → Int32 → Option ((Nat → Int32) × Int32 × Int64 × Int32 × Int32 × Int32)
| 0, _, _, _, _, _, _, _, _, _, _, _, _, _ => none
| n + 1, weights, size, marks, came, left, swaps, weights2, size2, marks2, came2, left2, swaps2, a2 => if size ≤ a2 then (some (weights, size, marks, came, left, swaps))
else (Option.bind (fL_at weights2 a2) fun t2 =>
Option.bind (fL_lay weights a2 t2) fun t3 =>
fL_becomeLike_47 n t3 size marks came left swaps weights2 size2 marks2 came2 left2 swaps2 (a2 + (1 : Int32)))
def fL_becomeLike (weights : (Nat → Int32)) (size : Int32) (marks : Int64) (came : Int32) (left : Int32) (swaps : Int32) (weights2 : (Nat → Int32)) (size2 : Int32) (marks2 : Int64) (came2 : Int32) (left2 : Int32) (swaps2 : Int32) : Option ((Nat → Int32) × Int32 × Int64 × Int32 × Int32 × Int32) :=
fL_becomeLike_47 FU weights size2 marks2 came2 left2 swaps2 weights2 size2 marks2 came2 left2 swaps2 (0 : Int32)
def fS_hasBit (a0 : Int32) (a1 : Int32) : Int32 :=
if ((a0 >>> (((4 : Int32) - a1) &&& 31)) &&& (1 : Int32)) = (1 : Int32) then ((1 : Int32))
else ((0 : Int32))
def fS_isRow (a0 : Int32) : Int32 :=
if a0 < 0 then ((0 : Int32))
else (if (5 : Int32) ≤ a0 then ((0 : Int32))
else ((1 : Int32)))
def fS_digitOf (a0 : Int32) : Int32 :=
if (10 : Int32) ≤ a0 then ((((97 : Int32) + a0) - (10 : Int32)))
else (((48 : Int32) + a0))
def fM_isBetween (a0 : Int32) (a1 : Int32) (a2 : Int32) : Int32 :=
if a0 < a1 then ((0 : Int32))
else (if a2 < a0 then ((0 : Int32))
else ((1 : Int32)))
def fM_isWeight (a0 : Int32) : Int32 :=
(fM_isBetween a0 (0 : Int32) (31 : Int32))
def fM_isRow (a0 : Int32) : Int32 :=
(fM_isBetween a0 (0 : Int32) (4 : Int32))
def fM_bitOf (a0 : Int32) (a1 : Int32) : Int32 :=
((a0 >>> (((4 : Int32) - a1) &&& 31)) &&& (1 : Int32))
