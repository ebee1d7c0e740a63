def fL_size (size : Int32) : Int32 :=
size
def fS_isMarkPlace (a0 : Int32) : Int32 :=
if a0 < (1 : Int32) then ((0 : Int32))
else (if (64 : Int32) ≤ a0 then ((0 : Int32))
else ((1 : Int32)))
def fL_isMarkedAt (marks : Int64) (a1 : Int32) : Int32 :=
if (fS_isMarkPlace a1) = 0 then ((0 : Int32))
else (if (lg_cmp ((marks.toUInt64 >>> (a1.toInt64.toUInt64 &&& Int64.toUInt64 63)).toInt64 &&& (1 : Int64)) (1 : Int64)) = 0 then ((1 : Int32))
else ((0 : Int32)))
def fB_open (begins : (Nat → Int32)) (totals : (Nat → Int32)) (number : Int32) (a1 : Int32) : Option ((Nat → Int32) × (Nat → Int32) × Int32) :=
if number < 0 then (some (begins, totals, number))
else (if (64 : Int32) ≤ number then (some (begins, totals, number))
else (if (64 : Int32) ≤ number then (some (begins, totals, number))
else (Option.bind (stA begins 64 number a1) fun g4 =>
Option.bind (stA totals 64 number (0 : Int32)) fun g5 =>
some (g4, g5, (number + (1 : Int32))))))
def fL_at (weights : (Nat → Int32)) (a1 : Int32) : Option (Int32) :=
if a1 < 0 then (some (0 : Int32))
else (if (64 : Int32) ≤ a1 then (some (0 : Int32))
else (Option.bind (ldA weights 64 a1) fun v3 =>
some v3))
def fB_addToLatest (totals : (Nat → Int32)) (number : Int32) (a1 : Int32) : Option ((Nat → Int32)) :=
if (number - (1 : Int32)) < 0 then (some totals)
else (if (64 : Int32) ≤ (number - (1 : Int32)) then (some totals)
else (Option.bind (ldA totals 64 (number - (1 : Int32))) fun v3 =>
Option.bind (stA totals 64 (number - (1 : Int32)) (v3 + a1)) fun g4 =>
some g4))
def fB_fill_15 : Nat → (Nat → Int32) → (Nat → Int32) → Int32 → Int32 → (Nat → Int32) → Int32 → Int64 → Int32 → Option ((Nat → Int32) × (Nat → Int32) × Int32 × Int32)
| 0, _, _, _, _, _, _, _, _ => none
| n + 1, begins, totals, number, letterCount, weights2, size2, marks2, a2 => if letterCount ≤ a2 then (some (begins, totals, number, letterCount))
else (if a2 = 0 then (Option.bind (fB_open begins totals number a2) fun t3 =>
Option.bind (fL_at weights2 a2) fun t4 =>
Option.bind (fB_addToLatest t3.2.1 t3.2.2 t4) fun t5 =>
fB_fill_15 n t3.1 t5 t3.2.2 letterCount weights2 size2 marks2 (a2 + (1 : Int32)))
else (if (fL_isMarkedAt marks2 a2) = 0 then (Option.bind (fL_at weights2 a2) fun t7 =>
Option.bind (fB_addToLatest totals number t7) fun t8 =>
fB_fill_15 n begins t8 number letterCount weights2 size2 marks2 (a2 + (1 : Int32)))
else (Option.bind (fB_open begins totals number a2) fun t9 =>
Option.bind (fL_at weights2 a2) fun t10 =>
Option.bind (fB_addToLatest t9.2.1 t9.2.2 t10) fun t11 =>
fB_fill_15 n t9.1 t11 t9.2.2 letterCount weights2 size2 marks2 (a2 + (1 : Int32)))))
def fB_fill (begins : (Nat → Int32)) (totals : (Nat → Int32)) (number : Int32) (letterCount : Int32) (weights2 : (Nat → Int32)) (size2 : Int32) (marks2 : Int64) : Option ((Nat → Int32) × (Nat → Int32) × Int32 × Int32) :=
fB_fill_15 FU begins totals (0 : Int32) (fL_size size2) weights2 size2 marks2 (0 : Int32)
def fB_number (number : Int32) : Int32 :=
number
def fB_beginOf (begins : (Nat → Int32)) (number : Int32) (letterCount : Int32) (a1 : Int32) : Option (Int32) :=
if a1 < 0 then (some letterCount)
else (if number ≤ a1 then (some letterCount)
else (if (64 : Int32) ≤ a1 then (some letterCount)
else (Option.bind (ldA begins 64 a1) fun v4 =>
some v4)))
def fB_endOf (begins : (Nat → Int32)) (number : Int32) (letterCount : Int32) (a1 : Int32) : Option (Int32) :=
Option.bind (fB_beginOf begins number letterCount (a1 + (1 : Int32))) fun t1 =>
some t1
def fB_totalOf (totals : (Nat → Int32)) (number : Int32) (a1 : Int32) : Option (Int32) :=
if a1 < 0 then (some (0 : Int32))
else (if number ≤ a1 then (some (0 : Int32))
else (if (64 : Int32) ≤ a1 then (some (0 : Int32))
else (Option.bind (ldA totals 64 a1) fun v4 =>
some v4)))
def fB_bagWith_2 : Nat → (Nat → Int32) → Int32 → Int32 → Int32 → Int32 → Option (Int32)
| 0, _, _, _, _, _ => none
| n + 1, begins, number, letterCount, a1, a2 => if (number - (1 : Int32)) ≤ a2 then (some a2)
else (Option.bind (fB_beginOf begins number letterCount (a2 + (1 : Int32))) fun t2 =>
if a1 < t2 then (some a2)
else (fB_bagWith_2 n begins number letterCount a1 (a2 + (1 : Int32))))
def fB_bagWith (begins : (Nat → Int32)) (number : Int32) (letterCount : Int32) (a1 : Int32) : Option (Int32) :=
fB_bagWith_2 FU begins number letterCount a1 (0 : Int32)
def fB_isAhead (begins : (Nat → Int32)) (totals : (Nat → Int32)) (number : Int32) (letterCount : Int32) (a1 : Int32) (a2 : Int32) : Option (Int32) :=
Option.bind (fB_totalOf totals number a1) fun t1 =>
Option.bind (fB_totalOf totals number a2) fun t2 =>
if t1 = t2 then (Option.bind (fB_endOf begins number letterCount a1) fun t4 =>
Option.bind (fB_beginOf begins number letterCount a1) fun t5 =>
Option.bind (fB_endOf begins number letterCount a2) fun t6 =>
Option.bind (fB_beginOf begins number letterCount a2) fun t7 =>
if (t4 - t5) = (t6 - t7) then (if a2 ≤ a1 then (some (0 : Int32))
else (some (1 : Int32)))
else (if (t6 - t7) ≤ (t4 - t5) then (some (0 : Int32))
else (some (1 : Int32))))
else (Option.bind (fB_totalOf totals number a1) fun t11 =>
Option.bind (fB_totalOf totals number a2) fun t12 =>
if t11 ≤ t12 then (some (0 : Int32))
else (some (1 : Int32)))
def fB_numberAheadOf_4 : Nat → (Nat → Int32) → (Nat → Int32) → Int32 → Int32 → Int32 → Int32 → Int32 → Option (Int32)
| 0, _, _, _, _, _, _, _ => none
| n + 1, begins, totals, number, letterCount, a1, a2, a3 => if number ≤ a3 then (some a2)
else (Option.bind (fB_isAhead begins totals number letterCount a3 a1) fun t2 =>
if t2 = 0 then (fB_numberAheadOf_4 n begins totals number letterCount a1 a2 (a3 + (1 : Int32)))
else (fB_numberAheadOf_4 n begins totals number letterCount a1 (a2 + (1 : Int32)) (a3 + (1 : Int32))))
def fB_numberAheadOf (begins : (Nat → Int32)) (totals : (Nat → Int32)) (number : Int32) (letterCount : Int32) (a1 : Int32) : Option (Int32) :=
fB_numberAheadOf_4 FU begins totals number letterCount a1 (0 : Int32) (0 : Int32)
def fB_byTotal_2 : Nat → (Nat → Int32) → (Nat → Int32) → Int32 → Int32 → Int32 → Int32 → Option (Int32)
| 0, _, _, _, _, _, _ => none
| n + 1, begins, totals, number, letterCount, a1, a2 => if number ≤ a2 then (some (-1 : Int32))
else (Option.bind (fB_numberAheadOf begins totals number letterCount a2) fun t2 =>
if t2 = a1 then (some a2)
else (fB_byTotal_2 n begins totals number letterCount a1 (a2 + (1 : Int32))))
def fB_byTotal (begins : (Nat → Int32)) (totals : (Nat → Int32)) (number : Int32) (letterCount : Int32) (a1 : Int32) : Option (Int32) :=
fB_byTotal_2 FU begins totals number letterCount a1 (0 : Int32)
def fL_came (came : Int32) : Int32 :=
came
def fL_left (left : Int32) : Int32 :=
left
def fL_swaps (swaps : Int32) : Int32 :=
swaps
def fJ_bitCount (a0 : Int64) : Int32 :=
(((((((((a0 - ((a0.toUInt64 >>> ((1 : Int32).toInt64.toUInt64 &&& Int64.toUInt64 63)).toInt64 &&& (6148914691236517205 : Int64))) &&& (3689348814741910323 : Int64)) + (((a0 - ((a0.toUInt64 >>> ((1 : Int32).toInt64.toUInt64 &&& Int64.toUInt64 63)).toInt64 &&& (6148914691236517205 : Int64))).toUInt64 >>> ((2 : Int32).toInt64.toUInt64 &&& Int64.toUInt64 63)).toInt64 &&& (3689348814741910323 : Int64))) + ((((a0 - ((a0.toUInt64 >>> ((1 : Int32).toInt64.toUInt64 &&& Int64.toUInt64 63)).toInt64 &&& (6148914691236517205 : Int64))) &&& (3689348814741910323 : Int64)) + (((a0 - ((a0.toUInt64 >>> ((1 : Int32).toInt64.toUInt64 &&& Int64.toUInt64 63)).toInt64 &&& (6148914691236517205 : Int64))).toUInt64 >>> ((2 : Int32).toInt64.toUInt64 &&& Int64.toUInt64 63)).toInt64 &&& (3689348814741910323 : Int64))).toUInt64 >>> ((4 : Int32).toInt64.toUInt64 &&& Int64.toUInt64 63)).toInt64) &&& (1085102592571150095 : Int64)) + ((((((a0 - ((a0.toUInt64 >>> ((1 : Int32).toInt64.toUInt64 &&& Int64.toUInt64 63)).toInt64 &&& (6148914691236517205 : Int64))) &&& (3689348814741910323 : Int64)) + (((a0 - ((a0.toUInt64 >>> ((1 : Int32).toInt64.toUInt64 &&& Int64.toUInt64 63)).toInt64 &&& (6148914691236517205 : Int64))).toUInt64 >>> ((2 : Int32).toInt64.toUInt64 &&& Int64.toUInt64 63)).toInt64 &&& (3689348814741910323 : Int64))) + ((((a0 - ((a0.toUInt64 >>> ((1 : Int32).toInt64.toUInt64 &&& Int64.toUInt64 63)).toInt64 &&& (6148914691236517205 : Int64))) &&& (3689348814741910323 : Int64)) + (((a0 - ((a0.toUInt64 >>> ((1 : Int32).toInt64.toUInt64 &&& Int64.toUInt64 63)).toInt64 &&& (6148914691236517205 : Int64))).toUInt64 >>> ((2 : Int32).toInt64.toUInt64 &&& Int64.toUInt64 63)).toInt64 &&& (3689348814741910323 : Int64))).toUInt64 >>> ((4 : Int32).toInt64.toUInt64 &&& Int64.toUInt64 63)).toInt64) &&& (1085102592571150095 : Int64)).toUInt64 >>> ((8 : Int32).toInt64.toUInt64 &&& Int64.toUInt64 63)).toInt64) + (((((((a0 - ((a0.toUInt64 >>> ((1 : Int32).toInt64.toUInt64 &&& Int64.toUInt64 63)).toInt64 &&& (6148914691236517205 : Int64))) &&& (3689348814741910323 : Int64)) + (((a0 - ((a0.toUInt64 >>> ((1 : Int32).toInt64.toUInt64 &&& Int64.toUInt64 63)).toInt64 &&& (6148914691236517205 : Int64))).toUInt64 >>> ((2 : Int32).toInt64.toUInt64 &&& Int64.toUInt64 63)).toInt64 &&& (3689348814741910323 : Int64))) + ((((a0 - ((a0.toUInt64 >>> ((1 : Int32).toInt64.toUInt64 &&& Int64.toUInt64 63)).toInt64 &&& (6148914691236517205 : Int64))) &&& (3689348814741910323 : Int64)) + (((a0 - ((a0.toUInt64 >>> ((1 : Int32).toInt64.toUInt64 &&& Int64.toUInt64 63)).toInt64 &&& (6148914691236517205 : Int64))).toUInt64 >>> ((2 : Int32).toInt64.toUInt64 &&& Int64.toUInt64 63)).toInt64 &&& (3689348814741910323 : Int64))).toUInt64 >>> ((4 : Int32).toInt64.toUInt64 &&& Int64.toUInt64 63)).toInt64) &&& (1085102592571150095 : Int64)) + ((((((a0 - ((a0.toUInt64 >>> ((1 : Int32).toInt64.toUInt64 &&& Int64.toUInt64 63)).toInt64 &&& (6148914691236517205 : Int64))) &&& (3689348814741910323 : Int64)) + (((a0 - ((a0.toUInt64 >>> ((1 : Int32).toInt64.toUInt64 &&& Int64.toUInt64 63)).toInt64 &&& (6148914691236517205 : Int64))).toUInt64 >>> ((2 : Int32).toInt64.toUInt64 &&& Int64.toUInt64 63)).toInt64 &&& (3689348814741910323 : Int64))) + ((((a0 - ((a0.toUInt64 >>> ((1 : Int32).toInt64.toUInt64 &&& Int64.toUInt64 63)).toInt64 &&& (6148914691236517205 : Int64))) &&& (3689348814741910323 : Int64)) + (((a0 - ((a0.toUInt64 >>> ((1 : Int32).toInt64.toUInt64 &&& Int64.toUInt64 63)).toInt64 &&& (6148914691236517205 : Int64))).toUInt64 >>> ((2 : Int32).toInt64.toUInt64 &&& Int64.toUInt64 63)).toInt64 &&& (3689348814741910323 : Int64))).toUInt64 >>> ((4 : Int32).toInt64.toUInt64 &&& Int64.toUInt64 63)).toInt64) &&& (1085102592571150095 : Int64)).toUInt64 >>> ((8 : Int32).toInt64.toUInt64 &&& Int64.toUInt64 63)).toInt64).toUInt64 >>> ((16 : Int32).toInt64.toUInt64 &&& Int64.toUInt64 63)).toInt64) + ((((((((a0 - ((a0.toUInt64 >>> ((1 : Int32).toInt64.toUInt64 &&& Int64.toUInt64 63)).toInt64 &&& (6148914691236517205 : Int64))) &&& (3689348814741910323 : Int64)) + (((a0 - ((a0.toUInt64 >>> ((1 : Int32).toInt64.toUInt64 &&& Int64.toUInt64 63)).toInt64 &&& (6148914691236517205 : Int64))).toUInt64 >>> ((2 : Int32).toInt64.toUInt64 &&& Int64.toUInt64 63)).toInt64 &&& (3689348814741910323 : Int64))) + ((((a0 - ((a0.toUInt64 >>> ((1 : Int32).toInt64.toUInt64 &&& Int64.toUInt64 63)).toInt64 &&& (6148914691236517205 : Int64))) &&& (3689348814741910323 : Int64)) + (((a0 - ((a0.toUInt64 >>> ((1 : Int32).toInt64.toUInt64 &&& Int64.toUInt64 63)).toInt64 &&& (6148914691236517205 : Int64))).toUInt64 >>> ((2 : Int32).toInt64.toUInt64 &&& Int64.toUInt64 63)).toInt64 &&& (3689348814741910323 : Int64))).toUInt64 >>> ((4 : Int32).toInt64.toUInt64 &&& Int64.toUInt64 63)).toInt64) &&& (1085102592571150095 : Int64)) + ((((((a0 - ((a0.toUInt64 >>> ((1 : Int32).toInt64.toUInt64 &&& Int64.toUInt64 63)).toInt64 &&& (6148914691236517205 : Int64))) &&& (3689348814741910323 : Int64)) + (((a0 - ((a0.toUInt64 >>> ((1 : Int32).toInt64.toUInt64 &&& Int64.toUInt64 63)).toInt64 &&& (6148914691236517205 : Int64))).toUInt64 >>> ((2 : Int32).toInt64.toUInt64 &&& Int64.toUInt64 63)).toInt64 &&& (3689348814741910323 : Int64))) + ((((a0 - ((a0.toUInt64 >>> ((1 : Int32).toInt64.toUInt64 &&& Int64.toUInt64 63)).toInt64 &&& (6148914691236517205 : Int64))) &&& (3689348814741910323 : Int64)) + (((a0 - ((a0.toUInt64 >>> ((1 : Int32).toInt64.toUInt64 &&& Int64.toUInt64 63)).toInt64 &&& (6148914691236517205 : Int64))).toUInt64 >>> ((2 : Int32).toInt64.toUInt64 &&& Int64.toUInt64 63)).toInt64 &&& (3689348814741910323 : Int64))).toUInt64 >>> ((4 : Int32).toInt64.toUInt64 &&& Int64.toUInt64 63)).toInt64) &&& (1085102592571150095 : Int64)).toUInt64 >>> ((8 : Int32).toInt64.toUInt64 &&& Int64.toUInt64 63)).toInt64) + (((((((a0 - ((a0.toUInt64 >>> ((1 : Int32).toInt64.toUInt64 &&& Int64.toUInt64 63)).toInt64 &&& (6148914691236517205 : Int64))) &&& (3689348814741910323 : Int64)) + (((a0 - ((a0.toUInt64 >>> ((1 : Int32).toInt64.toUInt64 &&& Int64.toUInt64 63)).toInt64 &&& (6148914691236517205 : Int64))).toUInt64 >>> ((2 : Int32).toInt64.toUInt64 &&& Int64.toUInt64 63)).toInt64 &&& (3689348814741910323 : Int64))) + ((((a0 - ((a0.toUInt64 >>> ((1 : Int32).toInt64.toUInt64 &&& Int64.toUInt64 63)).toInt64 &&& (6148914691236517205 : Int64))) &&& (3689348814741910323 : Int64)) + (((a0 - ((a0.toUInt64 >>> ((1 : Int32).toInt64.toUInt64 &&& Int64.toUInt64 63)).toInt64 &&& (6148914691236517205 : Int64))).toUInt64 >>> ((2 : Int32).toInt64.toUInt64 &&& Int64.toUInt64 63)).toInt64 &&& (3689348814741910323 : Int64))).toUInt64 >>> ((4 : Int32).toInt64.toUInt64 &&& Int64.toUInt64 63)).toInt64) &&& (1085102592571150095 : Int64)) + ((((((a0 - ((a0.toUInt64 >>> ((1 : Int32).toInt64.toUInt64 &&& Int64.toUInt64 63)).toInt64 &&& (6148914691236517205 : Int64))) &&& (3689348814741910323 : Int64)) + (((a0 - ((a0.toUInt64 >>> ((1 : Int32).toInt64.toUInt64 &&& Int64.toUInt64 63)).toInt64 &&& (6148914691236517205 : Int64))).toUInt64 >>> ((2 : Int32).toInt64.toUInt64 &&& Int64.toUInt64 63)).toInt64 &&& (3689348814741910323 : Int64))) + ((((a0 - ((a0.toUInt64 >>> ((1 : Int32).toInt64.toUInt64 &&& Int64.toUInt64 63)).toInt64 &&& (6148914691236517205 : Int64))) &&& (3689348814741910323 : Int64)) + (((a0 - ((a0.toUInt64 >>> ((1 : Int32).toInt64.toUInt64 &&& Int64.toUInt64 63)).toInt64 &&& (6148914691236517205 : Int64))).toUInt64 >>> ((2 : Int32).toInt64.toUInt64 &&& Int64.toUInt64 63)).toInt64 &&& (3689348814741910323 : Int64))).toUInt64 >>> ((4 : Int32).toInt64.toUInt64 &&& Int64.toUInt64 63)).toInt64) &&& (1085102592571150095 : Int64)).toUInt64 >>> ((8 : Int32).toInt64.toUInt64 &&& Int64.toUInt64 63)).toInt64).toUInt64 >>> ((16 : Int32).toInt64.toUInt64 &&& Int64.toUInt64 63)).toInt64).toUInt64 >>> ((32 : Int32).toInt64.toUInt64 &&& Int64.toUInt64 63)).toInt64).toInt32 &&& (127 : Int32))
def fL_marked (marks : Int64) : Int32 :=
(fJ_bitCount marks)
def fL_isFull (size : Int32) : Int32 :=
if size < (64 : Int32) then ((0 : Int32))
else ((1 : Int32))
def fL_has (size : Int32) (a1 : Int32) : Int32 :=
if a1 < 0 then ((0 : Int32))
else (if size ≤ a1 then ((0 : Int32))
else ((1 : Int32)))
def fL_hasNext (size : Int32) (a1 : Int32) : Int32 :=
if a1 < 0 then ((0 : Int32))
else (if (size - (1 : Int32)) ≤ a1 then ((0 : Int32))
else ((1 : Int32)))
def fL_total_4 : Nat → (Nat → Int32) → Int32 → Int32 → Int32 → Option (Int32)
| 0, _, _, _, _ => none
| n + 1, weights, size, a1, a2 => if size ≤ a2 then (some a1)
else (Option.bind (fL_at weights a2) fun t2 =>
fL_total_4 n weights size (a1 + t2) (a2 + (1 : Int32)))
def fL_total (weights : (Nat → Int32)) (size : Int32) : Option (Int32) :=
fL_total_4 FU weights size (0 : Int32) (0 : Int32)
def fS_isWeight (a0 : Int32) : Int32 :=
if a0 < 0 then ((0 : Int32))
else (if (32 : Int32) ≤ a0 then ((0 : Int32))
else ((1 : Int32)))
def fL_lay (weights : (Nat → Int32)) (a1 : Int32) (a2 : Int32) : Option ((Nat → Int32)) :=
if a1 < 0 then (some weights)
else (if (64 : Int32) ≤ a1 then (some weights)
else (Option.bind (stA weights 64 a1 a2) fun g3 =>
some g3))
def fL_come_33 : Nat → (Nat → Int32) → Int32 → Int32 → Int32 → Int32 → Int32 → Option (Int32 × (Nat → Int32) × Int32 × Int32)
| 0, _, _, _, _, _, _ => none
| n + 1, weights, size, came, a1, a2, a3 => if a3 ≤ a1 then (Option.bind (fL_lay weights a1 a2) fun t6 =>
some ((1 : Int32), t6, (size + (1 : Int32)), (came + (1 : Int32))))
else (Option.bind (fL_at weights (a3 - (1 : Int32))) fun t7 =>
Option.bind (fL_lay weights a3 t7) fun t8 =>
fL_come_33 n t8 size came a1 a2 (a3 + (-1 : Int32)))
def fL_come (weights : (Nat → Int32)) (size : Int32) (came : Int32) (a1 : Int32) (a2 : Int32) : Option (Int32 × (Nat → Int32) × Int32 × Int32) :=
if a1 < 0 then (some ((0 : Int32), weights, size, came))
else (if size < a1 then (some ((0 : Int32), weights, size, came))
else (if (fS_isWeight a2) = 0 then (some ((0 : Int32), weights, size, came))
else (if (fL_isFull size) = 0 then (fL_come_33 FU weights size came a1 a2 size)
else (some ((0 : Int32), weights, size, came)))))
def fL_leave_12 : Nat → (Nat → Int32) → Int32 → Int32 → Int32 → Option (Int32 × (Nat → Int32) × Int32 × Int32)
| 0, _, _, _, _ => none
| n + 1, weights, size, left, a2 => if (size - (1 : Int32)) ≤ a2 then (some ((1 : Int32), weights, (size - (1 : Int32)), (left + (1 : Int32))))
else (Option.bind (fL_at weights (a2 + (1 : Int32))) fun t3 =>
Option.bind (fL_lay weights a2 t3) fun t4 =>
fL_leave_12 n t4 size left (a2 + (1 : Int32)))
def fL_leave (weights : (Nat → Int32)) (size : Int32) (left : Int32) (a1 : Int32) : Option (Int32 × (Nat → Int32) × Int32 × Int32) :=
if (fL_has size a1) = 0 then (some ((0 : Int32), weights, size, left))
else (fL_leave_12 FU weights size left a1)
def fL_exchange (weights : (Nat → Int32)) (size : Int32) (swaps : Int32) (a1 : Int32) : Option (Int32 × (Nat → Int32) × Int32) :=
if (fL_hasNext size a1) = 0 then (some ((0 : Int32), weights, swaps))
else (Option.bind (fL_at weights a1) fun t2 =>
Option.bind (fL_at weights (a1 + (1 : Int32))) fun t3 =>
if t2 = t3 then (some ((0 : Int32), weights, swaps))
else (Option.bind (fL_at weights a1) fun t5 =>
Option.bind (fL_at weights (a1 + (1 : Int32))) fun t6 =>
Option.bind (fL_lay weights a1 t6) fun t7 =>
Option.bind (fL_lay t7 (a1 + (1 : Int32)) t5) fun t8 =>
some ((1 : Int32), t8, (swaps + (1 : Int32)))))
def fL_setMark (marks : Int64) (a1 : Int32) (a2 : Int32) : Option (Int32 × Int64) :=
if (fS_isMarkPlace a1) = 0 then (some ((0 : Int32), marks))
else (if (fL_isMarkedAt marks a1) = a2 then (some ((0 : Int32), marks))
else (some ((1 : Int32), (marks ^^^ ((1 : Int64) <<< (a1.toInt64 &&& 63))))))
def fL_obey (weights : (Nat → Int32)) (size : Int32) (marks : Int64) (came : Int32) (left : Int32) (swaps : Int32) (a1 : Int32) (a2 : Int32) (a3 : Int32) : Option (Int32 × (Nat → Int32) × Int32 × Int64 × Int32 × Int32 × Int32) :=
if a1 = (99 : Int32) then (Option.bind (fL_setMark marks a2 (0 : Int32)) fun t1 =>
some (t1.1, weights, size, t1.2, came, left, swaps))
else (if a1 = (105 : Int32) then (Option.bind (fL_come weights size came a2 a3) fun t2 =>
some (t2.1, t2.2.1, t2.2.2.1, marks, t2.2.2.2, left, swaps))
else (if a1 = (109 : Int32) then (Option.bind (fL_setMark marks a2 (1 : Int32)) fun t3 =>
some (t3.1, weights, size, t3.2, came, left, swaps))
else (if a1 = (111 : Int32) then (Option.bind (fL_leave weights size left a2) fun t4 =>
some (t4.1, t4.2.1, t4.2.2.1, marks, came, t4.2.2.2, swaps))
else (if a1 = (112 : Int32) then (Option.bind (fL_come weights size came size a2) fun t5 =>
some (t5.1, t5.2.1, t5.2.2.1, marks, t5.2.2.2, left, swaps))
else (if a1 = (115 : Int32) then (Option.bind (fL_exchange weights size swaps a2) fun t6 =>
some (t6.1, t6.2.1, size, marks, came, left, t6.2.2))
else (some ((0 : Int32), weights, size, marks, came, left, swaps)))))))
def fL_becomeLike_47 : Nat → (Nat → Int32) → Int32 → Int64 → Int32 → Int32 → Int32 → (Nat → Int32) → Int32 → Int64 → Int32 → Int32 → Int32 → Int32 → Option ((Nat → Int32) × Int32 × Int64 × Int32 × Int32 × Int32)
| 0, _, _, _, _, _, _, _, _, _, _, _, _, _ => none
| n + 1, weights, size, marks, came, left, swaps, weights2, size2, marks2, came2, left2, swaps2, a2 => if size ≤ a2 then (some (weights, size, marks, came, left, swaps))
else (Option.bind (fL_at weights2 a2) fun t2 =>
Option.bind (fL_lay weights a2 t2) fun t3 =>
fL_becomeLike_47 n t3 size marks came left swaps weights2 size2 marks2 came2 left2 swaps2 (a2 + (1 : Int32)))
def fL_becomeLike (weights : (Nat → Int32)) (size : Int32) (marks : Int64) (came : Int32) (left : Int32) (swaps : Int32) (weights2 : (Nat → Int32)) (size2 : Int32) (marks2 : Int64) (came2 : Int32) (left2 : Int32) (swaps2 : Int32) : Option ((Nat → Int32) × Int32 × Int64 × Int32 × Int32 × Int32) :=
fL_becomeLike_47 FU weights size2 marks2 came2 left2 swaps2 weights2 size2 marks2 came2 left2 swaps2 (0 : Int32)
def fN_size (size : Int32) : Int32 :=
size
def fN_empty (size : Int32) : Option (Int32) :=
some (0 : Int32)
def fN_write (codes : (Nat → Int32)) (size : Int32) (a1 : Int32) : Option ((Nat → Int32) × Int32) :=
if size < 0 then (some (codes, size))
else (if (128 : Int32) ≤ size then (some (codes, size))
else (Option.bind (stA codes 128 size a1) fun g3 =>
some (g3, (size + (1 : Int32)))))
def fN_codeAt (codes : (Nat → Int32)) (size : Int32) (a1 : Int32) : Option (Int32) :=
if a1 < 0 then (some (-1 : Int32))
else (if size ≤ a1 then (some (-1 : Int32))
else (if (128 : Int32) ≤ a1 then (some (-1 : Int32))
else (Option.bind (ldA codes 128 a1) fun v4 =>
some v4)))
def fP_size (size : Int32) : Int32 :=
size
def fP_slotAt (first : Int32) (a1 : Int32) : Option (Option Nat) :=
if ((first + a1) - (first + a1) / (8 : Int32) * (8 : Int32)) < 0 then (some none)
else (if (8 : Int32) ≤ ((first + a1) - (first + a1) / (8 : Int32) * (8 : Int32)) then (some none)
else (Option.bind (ldA (fun j : Nat => j) 8 ((first + a1) - (first + a1) / (8 : Int32) * (8 : Int32))) fun k3 =>
some (some k3)))
def fP_keep (kept : (Nat → TL)) (first : Int32) (size : Int32) (weights2 : (Nat → Int32)) (size2 : Int32) (marks2 : Int64) (came2 : Int32) (left2 : Int32) (swaps2 : Int32) : Option ((Nat → TL) × Int32 × Int32) :=
if size = (8 : Int32) then (Option.bind (fP_slotAt ((first + (1 : Int32)) - (first + (1 : Int32)) / (8 : Int32) * (8 : Int32)) (size - (1 : Int32))) fun t5 => Option.elim t5 (some (kept, ((first + (1 : Int32)) - (first + (1 : Int32)) / (8 : Int32) * (8 : Int32)), (size - (1 : Int32))))
(fun k6 => Option.bind (fL_becomeLike ((kept k6).1) ((kept k6).2.1) ((kept k6).2.2.1) ((kept k6).2.2.2.1) ((kept k6).2.2.2.2.1) ((kept k6).2.2.2.2.2) weights2 size2 marks2 came2 left2 swaps2) fun t7 =>
some ((fun j => if j = k6 then (t7.1, t7.2.1, t7.2.2.1, t7.2.2.2.1, t7.2.2.2.2.1, t7.2.2.2.2.2) else kept j), ((first + (1 : Int32)) - (first + (1 : Int32)) / (8 : Int32) * (8 : Int32)), ((size - (1 : Int32)) + (1 : Int32)))))
else (Option.bind (fP_slotAt first size) fun t2 => Option.elim t2 (some (kept, first, size))
(fun k3 => Option.bind (fL_becomeLike ((kept k3).1) ((kept k3).2.1) ((kept k3).2.2.1) ((kept k3).2.2.2.1) ((kept k3).2.2.2.2.1) ((kept k3).2.2.2.2.2) weights2 size2 marks2 came2 left2 swaps2) fun t4 =>
some ((fun j => if j = k3 then (t4.1, t4.2.1, t4.2.2.1, t4.2.2.2.1, t4.2.2.2.2.1, t4.2.2.2.2.2) else kept j), first, (size + (1 : Int32)))))
def fP_giveBack (kept : (Nat → TL)) (first : Int32) (size : Int32) (weights2 : (Nat → Int32)) (size2 : Int32) (marks2 : Int64) (came2 : Int32) (left2 : Int32) (swaps2 : Int32) : Option (Int32 × Int32 × (Nat → Int32) × Int32 × Int64 × Int32 × Int32 × Int32) :=
if size = 0 then (some ((0 : Int32), size, weights2, size2, marks2, came2, left2, swaps2))
else (Option.bind (fP_slotAt first (size - (1 : Int32))) fun t2 => Option.elim t2 (none)
(fun k3 => Option.bind (fL_becomeLike weights2 size2 marks2 came2 left2 swaps2 ((kept k3).1) ((kept k3).2.1) ((kept k3).2.2.1) ((kept k3).2.2.2.1) ((kept k3).2.2.2.2.1) ((kept k3).2.2.2.2.2)) fun t4 =>
some ((1 : Int32), (size - (1 : Int32)), t4.1, t4.2.1, t4.2.2.1, t4.2.2.2.1, t4.2.2.2.2.1, t4.2.2.2.2.2)))
def fP_forget (size : Int32) : Option (Int32) :=
some (0 : Int32)
def fS_isRow (a0 : Int32) : Int32 :=
if a0 < 0 then ((0 : Int32))
else (if (5 : Int32) ≤ a0 then ((0 : Int32))
else ((1 : Int32)))
def fS_hasBit (a0 : Int32) (a1 : Int32) : Int32 :=
if ((a0 >>> (((4 : Int32) - a1) &&& 31)) &&& (1 : Int32)) = (1 : Int32) then ((1 : Int32))
else ((0 : Int32))
def fR_fillRow_16 : Nat → (Nat → Int64) → (Nat → Nat → Int32) → (Nat → Int32) → (Nat → Int32) → Int32 → Int32 → Int64 → Int32 → Int32 → Option ((Nat → Int64) × (Nat → Nat → Int32) × (Nat → Int32))
| 0, _, _, _, _, _, _, _, _, _ => none
| n + 1, wholes, onesAtBlocks, zeros, order, size, a1, a2, a4, a5 => if (64 : Int32) < a5 then (Option.bind (stA wholes 5 a1 a2) fun g3 =>
Option.bind (stA zeros 5 a1 (size - a4)) fun g4 =>
some (g3, onesAtBlocks, g4))
else (if (a5 - a5 / (8 : Int32) * (8 : Int32)) = 0 then (Option.bind (ldA (fun j : Nat => j) 5 a1) fun k10 =>
Option.bind (stA (onesAtBlocks k10) 9 (a5 / (8 : Int32)) a4) fun g11 =>
if size ≤ a5 then (fR_fillRow_16 n wholes (fun j => if j = k10 then g11 else onesAtBlocks j) zeros order size a1 a2 a4 (a5 + (1 : Int32)))
else (if (64 : Int32) ≤ a5 then (fR_fillRow_16 n wholes (fun j => if j = k10 then g11 else onesAtBlocks j) zeros order size a1 a2 a4 (a5 + (1 : Int32)))
else (Option.bind (ldA order 64 a5) fun v14 =>
if (fS_hasBit v14 a1) = 0 then (fR_fillRow_16 n wholes (fun j => if j = k10 then g11 else onesAtBlocks j) zeros order size a1 a2 a4 (a5 + (1 : Int32)))
else (fR_fillRow_16 n wholes (fun j => if j = k10 then g11 else onesAtBlocks j) zeros order size a1 (a2 ||| ((1 : Int64) <<< (a5.toInt64 &&& 63))) (a4 + (1 : Int32)) (a5 + (1 : Int32))))))
else (if size ≤ a5 then (fR_fillRow_16 n wholes onesAtBlocks zeros order size a1 a2 a4 (a5 + (1 : Int32)))
else (if (64 : Int32) ≤ a5 then (fR_fillRow_16 n wholes onesAtBlocks zeros order size a1 a2 a4 (a5 + (1 : Int32)))
else (Option.bind (ldA order 64 a5) fun v8 =>
if (fS_hasBit v8 a1) = 0 then (fR_fillRow_16 n wholes onesAtBlocks zeros order size a1 a2 a4 (a5 + (1 : Int32)))
else (fR_fillRow_16 n wholes onesAtBlocks zeros order size a1 (a2 ||| ((1 : Int64) <<< (a5.toInt64 &&& 63))) (a4 + (1 : Int32)) (a5 + (1 : Int32)))))))
def fR_fillRow (wholes : (Nat → Int64)) (onesAtBlocks : (Nat → Nat → Int32)) (zeros : (Nat → Int32)) (order : (Nat → Int32)) (size : Int32) (a1 : Int32) : Option ((Nat → Int64) × (Nat → Nat → Int32) × (Nat → Int32)) :=
if (fS_isRow a1) = 0 then (some (wholes, onesAtBlocks, zeros))
else (fR_fillRow_16 FU wholes onesAtBlocks zeros order size a1 (0 : Int64) (0 : Int32) (0 : Int32))
def fR_gather_6 : Nat → (Nat → Int32) → (Nat → Int32) → Int32 → Int32 → Int32 → Int32 → Int32 → Option (Int32 × (Nat → Int32))
| 0, _, _, _, _, _, _, _ => none
| n + 1, order, nextOrder, size, a1, a2, a4, a5 => if size ≤ a5 then (some (a4, nextOrder))
else (if (64 : Int32) ≤ a5 then (some (a4, nextOrder))
else (Option.bind (ldA order 64 a5) fun v3 =>
if (fS_hasBit v3 a1) = a2 then (if a4 < 0 then (fR_gather_6 n order nextOrder size a1 a2 a4 (a5 + (1 : Int32)))
else (if (64 : Int32) ≤ a4 then (fR_gather_6 n order nextOrder size a1 a2 a4 (a5 + (1 : Int32)))
else (Option.bind (ldA order 64 a5) fun v7 =>
Option.bind (stA nextOrder 64 a4 v7) fun g8 =>
fR_gather_6 n order g8 size a1 a2 (a4 + (1 : Int32)) (a5 + (1 : Int32)))))
else (fR_gather_6 n order nextOrder size a1 a2 a4 (a5 + (1 : Int32)))))
def fR_gather (order : (Nat → Int32)) (nextOrder : (Nat → Int32)) (size : Int32) (a1 : Int32) (a2 : Int32) (a3 : Int32) : Option (Int32 × (Nat → Int32)) :=
fR_gather_6 FU order nextOrder size a1 a2 a3 (0 : Int32)
def fR_sortByBit_18 : Nat → (Nat → Int32) → (Nat → Int32) → Int32 → Int32 → Option ((Nat → Int32) × (Nat → Int32))
| 0, _, _, _, _ => none
| n + 1, order, nextOrder, size, a3 => if size ≤ a3 then (some (order, nextOrder))
else (if (64 : Int32) ≤ a3 then (some (order, nextOrder))
else (if (64 : Int32) ≤ a3 then (some (order, nextOrder))
else (Option.bind (ldA nextOrder 64 a3) fun v6 =>
Option.bind (stA order 64 a3 v6) fun g7 =>
fR_sortByBit_18 n g7 nextOrder size (a3 + (1 : Int32)))))
def fR_sortByBit (order : (Nat → Int32)) (nextOrder : (Nat → Int32)) (size : Int32) (a1 : Int32) : Option ((Nat → Int32) × (Nat → Int32)) :=
Option.bind (fR_gather order nextOrder size a1 (0 : Int32) (0 : Int32)) fun t1 =>
Option.bind (fR_gather order t1.2 size a1 (1 : Int32) t1.1) fun t2 =>
fR_sortByBit_18 FU order t2.2 size (0 : Int32)
def fR_fill_46 : Nat → (Nat → Int64) → (Nat → Nat → Int32) → (Nat → Int32) → (Nat → Int32) → (Nat → Int32) → Int32 → (Nat → Int32) → Int32 → Int32 → Option ((Nat → Int64) × (Nat → Nat → Int32) × (Nat → Int32) × (Nat → Int32) × (Nat → Int32) × Int32)
| 0, _, _, _, _, _, _, _, _, _ => none
| n + 1, wholes, onesAtBlocks, zeros, order, nextOrder, size, weights2, size2, a2 => if (5 : Int32) ≤ a2 then (some (wholes, onesAtBlocks, zeros, order, nextOrder, size))
else (Option.bind (fR_fillRow wholes onesAtBlocks zeros order size a2) fun t3 =>
Option.bind (fR_sortByBit order nextOrder size a2) fun t4 =>
fR_fill_46 n t3.1 t3.2.1 t3.2.2 t4.1 t4.2 size weights2 size2 (a2 + (1 : Int32)))
def fR_fill_10 : Nat → (Nat → Int64) → (Nat → Nat → Int32) → (Nat → Int32) → (Nat → Int32) → (Nat → Int32) → Int32 → (Nat → Int32) → Int32 → Int32 → Option ((Nat → Int64) × (Nat → Nat → Int32) × (Nat → Int32) × (Nat → Int32) × (Nat → Int32) × Int32)
| 0, _, _, _, _, _, _, _, _, _ => none
| n + 1, wholes, onesAtBlocks, zeros, order, nextOrder, size, weights2, size2, a2 => if size ≤ a2 then (fR_fill_46 FU wholes onesAtBlocks zeros order nextOrder size weights2 size2 (0 : Int32))
else (if (64 : Int32) ≤ a2 then (fR_fill_46 FU wholes onesAtBlocks zeros order nextOrder size weights2 size2 (0 : Int32))
else (Option.bind (fL_at weights2 a2) fun t6 =>
Option.bind (stA order 64 a2 t6) fun g7 =>
fR_fill_10 n wholes onesAtBlocks zeros g7 nextOrder size weights2 size2 (a2 + (1 : Int32))))
def fR_fill (wholes : (Nat → Int64)) (onesAtBlocks : (Nat → Nat → Int32)) (zeros : (Nat → Int32)) (order : (Nat → Int32)) (nextOrder : (Nat → Int32)) (size : Int32) (weights2 : (Nat → Int32)) (size2 : Int32) : Option ((Nat → Int64) × (Nat → Nat → Int32) × (Nat → Int32) × (Nat → Int32) × (Nat → Int32) × Int32) :=
fR_fill_10 FU wholes onesAtBlocks zeros order nextOrder (fL_size size2) weights2 size2 (0 : Int32)
def fR_wholeRow (wholes : (Nat → Int64)) (a1 : Int32) : Option (Int64) :=
if (fS_isRow a1) = 0 then (some (0 : Int64))
else (Option.bind (ldA wholes 5 a1) fun v2 =>
some v2)
def fR_bitAt (wholes : (Nat → Int64)) (size : Int32) (a1 : Int32) (a2 : Int32) : Option (Int32) :=
if (fS_isRow a1) = 0 then (some (0 : Int32))
else (if a2 < 0 then (some (0 : Int32))
else (if size ≤ a2 then (some (0 : Int32))
else (Option.bind (ldA wholes 5 a1) fun v4 =>
some (((v4.toUInt64 >>> (a2.toInt64.toUInt64 &&& Int64.toUInt64 63)).toInt64 &&& (1 : Int64)).toInt32))))
def fR_onesOf (wholes : (Nat → Int64)) (a1 : Int32) : Option (Int32) :=
Option.bind (fR_wholeRow wholes a1) fun t1 =>
some (fJ_bitCount t1)
def fR_onesOfAll_4 : Nat → (Nat → Int64) → Int32 → Int32 → Option (Int32)
| 0, _, _, _ => none
| n + 1, wholes, a1, a2 => if (5 : Int32) ≤ a2 then (some a1)
else (Option.bind (fR_onesOf wholes a2) fun t2 =>
fR_onesOfAll_4 n wholes (a1 + t2) (a2 + (1 : Int32)))
def fR_onesOfAll (wholes : (Nat → Int64)) : Option (Int32) :=
fR_onesOfAll_4 FU wholes (0 : Int32) (0 : Int32)
def fR_ahead (wholes : (Nat → Int64)) (onesAtBlocks : (Nat → Nat → Int32)) (size : Int32) (a1 : Int32) (a2 : Int32) (a3 : Int32) : Option (Int32) :=
if (fS_isRow a1) = 0 then (some (0 : Int32))
else (if a3 < 0 then (some (0 : Int32))
else (if size < a3 then (some (0 : Int32))
else (if a3 ≤ (64 : Int32) then (Option.bind (ldA wholes 5 a1) fun v5 =>
Option.bind (ldA (fun j : Nat => j) 5 a1) fun k6 =>
Option.bind (ldA (onesAtBlocks k6) 9 (a3 / (8 : Int32))) fun v7 =>
if a2 = 0 then (some (a3 - (v7 + (fJ_bitCount ((v5.toUInt64 >>> (((a3 / (8 : Int32)) * (8 : Int32)).toInt64.toUInt64 &&& Int64.toUInt64 63)).toInt64 &&& (((1 : Int64) <<< ((a3 - a3 / (8 : Int32) * (8 : Int32)).toInt64 &&& 63)) - (1 : Int64)))))))
else (some (v7 + (fJ_bitCount ((v5.toUInt64 >>> (((a3 / (8 : Int32)) * (8 : Int32)).toInt64.toUInt64 &&& Int64.toUInt64 63)).toInt64 &&& (((1 : Int64) <<< ((a3 - a3 / (8 : Int32) * (8 : Int32)).toInt64 &&& 63)) - (1 : Int64)))))))
else (some (0 : Int32)))))
def fR_isThere (wholes : (Nat → Int64)) (size : Int32) (a1 : Int32) (a2 : Int32) (a3 : Int32) : Option (Int32) :=
Option.bind (fR_bitAt wholes size a1 a3) fun t1 =>
if a2 = 0 then (if t1 = (0 : Int32) then (some (1 : Int32))
else (some (0 : Int32)))
else (if t1 = (1 : Int32) then (some (1 : Int32))
else (some (0 : Int32)))
def fR_aheadOneByOne_6 : Nat → (Nat → Int64) → Int32 → Int32 → Int32 → Int32 → Int32 → Int32 → Option (Int32)
| 0, _, _, _, _, _, _, _ => none
| n + 1, wholes, size, a1, a2, a3, a4, a5 => if a3 ≤ a5 then (some a4)
else (if size ≤ a5 then (some a4)
else (Option.bind (fR_isThere wholes size a1 a2 a5) fun t3 =>
if t3 = 0 then (fR_aheadOneByOne_6 n wholes size a1 a2 a3 a4 (a5 + (1 : Int32)))
else (fR_aheadOneByOne_6 n wholes size a1 a2 a3 (a4 + (1 : Int32)) (a5 + (1 : Int32)))))
def fR_aheadOneByOne (wholes : (Nat → Int64)) (size : Int32) (a1 : Int32) (a2 : Int32) (a3 : Int32) : Option (Int32) :=
fR_aheadOneByOne_6 FU wholes size a1 a2 a3 (0 : Int32) (0 : Int32)
def fR_placeOf_72 : Nat → (Nat → Int64) → (Nat → Nat → Int32) → Int32 → Int32 → Int32 → Int32 → Int32 → Option (Int32)
| 0, _, _, _, _, _, _, _ => none
| n + 1, wholes, onesAtBlocks, size, a1, a2, a5, a6 => if size ≤ a6 then (some (-1 : Int32))
else (Option.bind (fR_isThere wholes size a1 a2 a6) fun t7 =>
if t7 = 0 then (fR_placeOf_72 n wholes onesAtBlocks size a1 a2 a5 (a6 + (1 : Int32)))
else (if a5 = 0 then (some a6)
else (fR_placeOf_72 n wholes onesAtBlocks size a1 a2 (a5 + (-1 : Int32)) (a6 + (1 : Int32)))))
def fR_placeOf_23 : Nat → (Nat → Int64) → (Nat → Nat → Int32) → Int32 → Int32 → Int32 → Int32 → Int32 → Option (Int32)
| 0, _, _, _, _, _, _, _ => none
| n + 1, wholes, onesAtBlocks, size, a1, a2, a3, a4 => if size ≤ (a4 + (8 : Int32)) then (Option.bind (fR_ahead wholes onesAtBlocks size a1 a2 a4) fun t5 =>
fR_placeOf_72 FU wholes onesAtBlocks size a1 a2 (a3 - t5) a4)
else (Option.bind (fR_ahead wholes onesAtBlocks size a1 a2 (a4 + (8 : Int32))) fun t10 =>
if a3 < t10 then (Option.bind (fR_ahead wholes onesAtBlocks size a1 a2 a4) fun t12 =>
fR_placeOf_72 FU wholes onesAtBlocks size a1 a2 (a3 - t12) a4)
else (fR_placeOf_23 n wholes onesAtBlocks size a1 a2 a3 (a4 + (8 : Int32))))
def fR_placeOf (wholes : (Nat → Int64)) (onesAtBlocks : (Nat → Nat → Int32)) (size : Int32) (a1 : Int32) (a2 : Int32) (a3 : Int32) : Option (Int32) :=
if a3 < 0 then (some (-1 : Int32))
else (Option.bind (fR_ahead wholes onesAtBlocks size a1 a2 size) fun t2 =>
if a3 < t2 then (fR_placeOf_23 FU wholes onesAtBlocks size a1 a2 a3 (0 : Int32))
else (some (-1 : Int32)))
def fR_zerosOf (zeros : (Nat → Int32)) (a1 : Int32) : Option (Int32) :=
if (fS_isRow a1) = 0 then (some (0 : Int32))
else (Option.bind (ldA zeros 5 a1) fun v2 =>
some v2)
def fR_down (wholes : (Nat → Int64)) (onesAtBlocks : (Nat → Nat → Int32)) (zeros : (Nat → Int32)) (size : Int32) (a1 : Int32) (a2 : Int32) (a3 : Int32) : Option (Int32) :=
Option.bind (fR_ahead wholes onesAtBlocks size a1 a2 a3) fun t1 =>
if a2 = 0 then (some t1)
else (Option.bind (fR_zerosOf zeros a1) fun t3 =>
some (t3 + t1))
def fR_placeDownTo_5 : Nat → (Nat → Int64) → (Nat → Nat → Int32) → (Nat → Int32) → Int32 → Int32 → Int32 → Int32 → Option (Int32)
| 0, _, _, _, _, _, _, _ => none
| n + 1, wholes, onesAtBlocks, zeros, size, a1, a3, a4 => if a1 ≤ a4 then (some a3)
else (if (5 : Int32) ≤ a4 then (some a3)
else (Option.bind (fR_bitAt wholes size a4 a3) fun t3 =>
if t3 = (1 : Int32) then (Option.bind (fR_down wholes onesAtBlocks zeros size a4 (1 : Int32) a3) fun t6 =>
fR_placeDownTo_5 n wholes onesAtBlocks zeros size a1 t6 (a4 + (1 : Int32)))
else (Option.bind (fR_down wholes onesAtBlocks zeros size a4 (0 : Int32) a3) fun t5 =>
fR_placeDownTo_5 n wholes onesAtBlocks zeros size a1 t5 (a4 + (1 : Int32)))))
def fR_placeDownTo (wholes : (Nat → Int64)) (onesAtBlocks : (Nat → Nat → Int32)) (zeros : (Nat → Int32)) (size : Int32) (a1 : Int32) (a2 : Int32) : Option (Int32) :=
fR_placeDownTo_5 FU wholes onesAtBlocks zeros size a1 a2 (0 : Int32)
def fR_weightOf_7 : Nat → (Nat → Int64) → (Nat → Nat → Int32) → (Nat → Int32) → Int32 → Int32 → Int32 → Int32 → Option (Int32)
| 0, _, _, _, _, _, _, _ => none
| n + 1, wholes, onesAtBlocks, zeros, size, a2, a3, a4 => if (5 : Int32) ≤ a4 then (some a2)
else (Option.bind (fR_bitAt wholes size a4 a3) fun t2 =>
if t2 = (1 : Int32) then (Option.bind (fR_down wholes onesAtBlocks zeros size a4 (1 : Int32) a3) fun t5 =>
fR_weightOf_7 n wholes onesAtBlocks zeros size ((a2 * (2 : Int32)) + t2) t5 (a4 + (1 : Int32)))
else (Option.bind (fR_down wholes onesAtBlocks zeros size a4 (0 : Int32) a3) fun t4 =>
fR_weightOf_7 n wholes onesAtBlocks zeros size ((a2 * (2 : Int32)) + t2) t4 (a4 + (1 : Int32))))
def fR_weightOf (wholes : (Nat → Int64)) (onesAtBlocks : (Nat → Nat → Int32)) (zeros : (Nat → Int32)) (size : Int32) (a1 : Int32) : Option (Int32) :=
fR_weightOf_7 FU wholes onesAtBlocks zeros size (0 : Int32) a1 (0 : Int32)
def fR_weightBySize_15 : Nat → (Nat → Int64) → (Nat → Nat → Int32) → (Nat → Int32) → Int32 → Int32 → Int32 → Int32 → Int32 → Int32 → Option (Int32)
| 0, _, _, _, _, _, _, _, _, _ => none
| n + 1, wholes, onesAtBlocks, zeros, size, a4, a5, a6, a7, a8 => if (5 : Int32) ≤ a8 then (some a4)
else (Option.bind (fR_ahead wholes onesAtBlocks size a8 (0 : Int32) a6) fun t2 =>
Option.bind (fR_ahead wholes onesAtBlocks size a8 (0 : Int32) a5) fun t3 =>
if a7 < (t2 - t3) then (Option.bind (fR_down wholes onesAtBlocks zeros size a8 (0 : Int32) a5) fun t5 =>
Option.bind (fR_down wholes onesAtBlocks zeros size a8 (0 : Int32) a6) fun t6 =>
fR_weightBySize_15 n wholes onesAtBlocks zeros size ((a4 * (2 : Int32)) + (0 : Int32)) t5 t6 (a7 - (0 : Int32)) (a8 + (1 : Int32)))
else (Option.bind (fR_down wholes onesAtBlocks zeros size a8 (1 : Int32) a5) fun t7 =>
Option.bind (fR_down wholes onesAtBlocks zeros size a8 (1 : Int32) a6) fun t8 =>
fR_weightBySize_15 n wholes onesAtBlocks zeros size ((a4 * (2 : Int32)) + (1 : Int32)) t7 t8 (a7 - (t2 - t3)) (a8 + (1 : Int32))))
def fR_weightBySize (wholes : (Nat → Int64)) (onesAtBlocks : (Nat → Nat → Int32)) (zeros : (Nat → Int32)) (size : Int32) (a1 : Int32) (a2 : Int32) (a3 : Int32) : Option (Int32) :=
fR_weightBySize_15 FU wholes onesAtBlocks zeros size (0 : Int32) a1 a2 a3 (0 : Int32)
def fR_downAll_5 : Nat → (Nat → Int64) → (Nat → Nat → Int32) → (Nat → Int32) → Int32 → Int32 → Int32 → Int32 → Option (Int32)
| 0, _, _, _, _, _, _, _ => none
| n + 1, wholes, onesAtBlocks, zeros, size, a1, a3, a4 => if (5 : Int32) ≤ a4 then (some a3)
else (Option.bind (fR_down wholes onesAtBlocks zeros size a4 (fS_hasBit a1 a4) a3) fun t2 =>
fR_downAll_5 n wholes onesAtBlocks zeros size a1 t2 (a4 + (1 : Int32)))
def fR_downAll (wholes : (Nat → Int64)) (onesAtBlocks : (Nat → Nat → Int32)) (zeros : (Nat → Int32)) (size : Int32) (a1 : Int32) (a2 : Int32) : Option (Int32) :=
fR_downAll_5 FU wholes onesAtBlocks zeros size a1 a2 (0 : Int32)
def fR_numberOf (wholes : (Nat → Int64)) (onesAtBlocks : (Nat → Nat → Int32)) (zeros : (Nat → Int32)) (size : Int32) (a1 : Int32) (a2 : Int32) (a3 : Int32) : Option (Int32) :=
Option.bind (fR_downAll wholes onesAtBlocks zeros size a3 a2) fun t1 =>
Option.bind (fR_downAll wholes onesAtBlocks zeros size a3 a1) fun t2 =>
some (t1 - t2)
def fR_numberBelow_12 : Nat → (Nat → Int64) → (Nat → Nat → Int32) → (Nat → Int32) → Int32 → Int32 → Int32 → Int32 → Int32 → Int32 → Option (Int32)
| 0, _, _, _, _, _, _, _, _, _ => none
| n + 1, wholes, onesAtBlocks, zeros, size, a3, a4, a5, a6, a7 => if (5 : Int32) ≤ a7 then (some a4)
else (if (fS_hasBit a3 a7) = 0 then (Option.bind (fR_down wholes onesAtBlocks zeros size a7 (fS_hasBit a3 a7) a5) fun t3 =>
Option.bind (fR_down wholes onesAtBlocks zeros size a7 (fS_hasBit a3 a7) a6) fun t4 =>
fR_numberBelow_12 n wholes onesAtBlocks zeros size a3 a4 t3 t4 (a7 + (1 : Int32)))
else (Option.bind (fR_ahead wholes onesAtBlocks size a7 (0 : Int32) a6) fun t5 =>
Option.bind (fR_ahead wholes onesAtBlocks size a7 (0 : Int32) a5) fun t6 =>
Option.bind (fR_down wholes onesAtBlocks zeros size a7 (fS_hasBit a3 a7) a5) fun t7 =>
Option.bind (fR_down wholes onesAtBlocks zeros size a7 (fS_hasBit a3 a7) a6) fun t8 =>
fR_numberBelow_12 n wholes onesAtBlocks zeros size a3 (a4 + (t5 - t6)) t7 t8 (a7 + (1 : Int32))))
def fR_numberBelow (wholes : (Nat → Int64)) (onesAtBlocks : (Nat → Nat → Int32)) (zeros : (Nat → Int32)) (size : Int32) (a1 : Int32) (a2 : Int32) (a3 : Int32) : Option (Int32) :=
fR_numberBelow_12 FU wholes onesAtBlocks zeros size a3 (0 : Int32) a1 a2 (0 : Int32)
def fR_placeBack_36 : Nat → (Nat → Int64) → (Nat → Nat → Int32) → (Nat → Int32) → Int32 → Int32 → Int32 → Int32 → Option (Int32)
| 0, _, _, _, _, _, _, _ => none
| n + 1, wholes, onesAtBlocks, zeros, size, a1, a4, a5 => if a5 < 0 then (some a4)
else (if (fS_hasBit a1 a5) = 0 then (Option.bind (fR_placeOf wholes onesAtBlocks size a5 (fS_hasBit a1 a5) a4) fun t7 =>
fR_placeBack_36 n wholes onesAtBlocks zeros size a1 t7 (a5 + (-1 : Int32)))
else (Option.bind (fR_zerosOf zeros a5) fun t8 =>
Option.bind (fR_placeOf wholes onesAtBlocks size a5 (fS_hasBit a1 a5) (a4 - t8)) fun t9 =>
fR_placeBack_36 n wholes onesAtBlocks zeros size a1 t9 (a5 + (-1 : Int32))))
def fR_placeBack (wholes : (Nat → Int64)) (onesAtBlocks : (Nat → Nat → Int32)) (zeros : (Nat → Int32)) (size : Int32) (a1 : Int32) (a2 : Int32) : Option (Int32) :=
Option.bind (fR_downAll wholes onesAtBlocks zeros size a1 (0 : Int32)) fun t1 =>
if a2 < 0 then (some (-1 : Int32))
else (Option.bind (fR_downAll wholes onesAtBlocks zeros size a1 size) fun t3 =>
if a2 < (t3 - t1) then (fR_placeBack_36 FU wholes onesAtBlocks zeros size a1 (t1 + a2) (4 : Int32))
else (some (-1 : Int32)))
def fZ_lay_5 : Nat → (Nat → Int32) → Int32 → Int32 → Int32 → Option ((Nat → Int32) × Int32)
| 0, _, _, _, _ => none
| n + 1, sorted, size, a1, a2 => if a2 ≤ 0 then (if a2 < 0 then (some (sorted, size))
else (if (64 : Int32) ≤ a2 then (some (sorted, size))
else (Option.bind (stA sorted 64 a2 a1) fun g4 =>
some (g4, (size + (1 : Int32))))))
else (if (64 : Int32) ≤ a2 then (if a2 < 0 then (some (sorted, size))
else (if (64 : Int32) ≤ a2 then (some (sorted, size))
else (Option.bind (stA sorted 64 a2 a1) fun g8 =>
some (g8, (size + (1 : Int32))))))
else (Option.bind (ldA sorted 64 (a2 - (1 : Int32))) fun v9 =>
if v9 ≤ a1 then (if a2 < 0 then (some (sorted, size))
else (if (64 : Int32) ≤ a2 then (some (sorted, size))
else (Option.bind (stA sorted 64 a2 a1) fun g13 =>
some (g13, (size + (1 : Int32))))))
else (Option.bind (ldA sorted 64 (a2 - (1 : Int32))) fun v14 =>
Option.bind (stA sorted 64 a2 v14) fun g15 =>
fZ_lay_5 n g15 size a1 (a2 + (-1 : Int32)))))
def fZ_lay (sorted : (Nat → Int32)) (size : Int32) (a1 : Int32) : Option ((Nat → Int32) × Int32) :=
fZ_lay_5 FU sorted size a1 size
def fZ_fill_8 : Nat → (Nat → Int32) → Int32 → (Nat → Int32) → Int32 → Int32 → Option ((Nat → Int32) × Int32)
| 0, _, _, _, _, _ => none
| n + 1, sorted, size, weights2, a3, a4 => if a3 ≤ a4 then (some (sorted, size))
else (if (64 : Int32) ≤ size then (some (sorted, size))
else (Option.bind (fL_at weights2 a4) fun t3 =>
Option.bind (fZ_lay sorted size t3) fun t4 =>
fZ_fill_8 n t4.1 t4.2 weights2 a3 (a4 + (1 : Int32))))
def fZ_fill (sorted : (Nat → Int32)) (size : Int32) (weights2 : (Nat → Int32)) (a2 : Int32) (a3 : Int32) : Option ((Nat → Int32) × Int32) :=
fZ_fill_8 FU sorted (0 : Int32) weights2 a3 a2
def fZ_at (sorted : (Nat → Int32)) (size : Int32) (a1 : Int32) : Option (Int32) :=
if a1 < 0 then (some (0 : Int32))
else (if size ≤ a1 then (some (0 : Int32))
else (if (64 : Int32) ≤ a1 then (some (0 : Int32))
else (Option.bind (ldA sorted 64 a1) fun v4 =>
some v4)))
def fY_fill_30 : Nat → (Nat → Int32) → (Nat → Int32) → Int32 → Int32 → Option ((Nat → Int32))
| 0, _, _, _, _ => none
| n + 1, numbers, weights2, a3, a4 => if a3 ≤ a4 then (some numbers)
else (Option.bind (fL_at weights2 a4) fun t3 =>
if t3 < 0 then (fY_fill_30 n numbers weights2 a3 (a4 + (1 : Int32)))
else (if (32 : Int32) ≤ t3 then (fY_fill_30 n numbers weights2 a3 (a4 + (1 : Int32)))
else (Option.bind (ldA numbers 32 t3) fun v6 =>
Option.bind (stA numbers 32 t3 (v6 + (1 : Int32))) fun g7 =>
fY_fill_30 n g7 weights2 a3 (a4 + (1 : Int32)))))
def fY_fill_3 : Nat → (Nat → Int32) → (Nat → Int32) → Int32 → Int32 → Int32 → Option ((Nat → Int32))
| 0, _, _, _, _, _ => none
| n + 1, numbers, weights2, a2, a3, a4 => if (32 : Int32) ≤ a4 then (fY_fill_30 FU numbers weights2 a3 a2)
else (Option.bind (stA numbers 32 a4 (0 : Int32)) fun g8 =>
fY_fill_3 n g8 weights2 a2 a3 (a4 + (1 : Int32)))
def fY_fill (numbers : (Nat → Int32)) (weights2 : (Nat → Int32)) (a2 : Int32) (a3 : Int32) : Option ((Nat → Int32)) :=
fY_fill_3 FU numbers weights2 a2 a3 (0 : Int32)
def fY_unlike_4 : Nat → (Nat → Int32) → Int32 → Int32 → Option (Int32)
| 0, _, _, _ => none
| n + 1, numbers, a1, a2 => if (32 : Int32) ≤ a2 then (some a1)
else (Option.bind (ldA numbers 32 a2) fun v2 =>
if v2 ≤ 0 then (fY_unlike_4 n numbers a1 (a2 + (1 : Int32)))
else (fY_unlike_4 n numbers (a1 + (1 : Int32)) (a2 + (1 : Int32))))
def fY_unlike (numbers : (Nat → Int32)) : Option (Int32) :=
fY_unlike_4 FU numbers (0 : Int32) (0 : Int32)
def fY_numberAheadOf_29 : Nat → (Nat → Int32) → Int32 → Int32 → Int32 → Int32 → Option (Int32)
| 0, _, _, _, _, _ => none
| n + 1, numbers, a1, a2, a3, a4 => if (32 : Int32) ≤ a4 then (some a3)
else (Option.bind (ldA numbers 32 a4) fun v3 =>
if a2 < v3 then (fY_numberAheadOf_29 n numbers a1 a2 (a3 + (1 : Int32)) (a4 + (1 : Int32)))
else (Option.bind (ldA numbers 32 a4) fun v5 =>
if v5 = a2 then (if a1 ≤ a4 then (fY_numberAheadOf_29 n numbers a1 a2 a3 (a4 + (1 : Int32)))
else (fY_numberAheadOf_29 n numbers a1 a2 (a3 + (1 : Int32)) (a4 + (1 : Int32))))
else (fY_numberAheadOf_29 n numbers a1 a2 a3 (a4 + (1 : Int32)))))
def fY_numberAheadOf (numbers : (Nat → Int32)) (a1 : Int32) : Option (Int32) :=
if a1 < 0 then (fY_numberAheadOf_29 FU numbers a1 (0 : Int32) (0 : Int32) (0 : Int32))
else (if (32 : Int32) ≤ a1 then (fY_numberAheadOf_29 FU numbers a1 (0 : Int32) (0 : Int32) (0 : Int32))
else (Option.bind (ldA numbers 32 a1) fun v9 =>
fY_numberAheadOf_29 FU numbers a1 v9 (0 : Int32) (0 : Int32)))
def fY_byNumber_2 : Nat → (Nat → Int32) → Int32 → Int32 → Option (Int32)
| 0, _, _, _ => none
| n + 1, numbers, a1, a2 => if (32 : Int32) ≤ a2 then (some (-1 : Int32))
else (Option.bind (ldA numbers 32 a2) fun v2 =>
if v2 ≤ 0 then (fY_byNumber_2 n numbers a1 (a2 + (1 : Int32)))
else (Option.bind (fY_numberAheadOf numbers a2) fun t4 =>
if t4 = a1 then (some a2)
else (fY_byNumber_2 n numbers a1 (a2 + (1 : Int32)))))
def fY_byNumber (numbers : (Nat → Int32)) (a1 : Int32) : Option (Int32) :=
fY_byNumber_2 FU numbers a1 (0 : Int32)
def fT_size (size : Int32) : Int32 :=
size
def fT_isFull (size : Int32) : Int32 :=
if size < (60 : Int32) then ((0 : Int32))
else ((1 : Int32))
def fT_add (codes : (Nat → Int32)) (size : Int32) (a1 : Int32) : Option ((Nat → Int32) × Int32) :=
if size < 0 then (some (codes, size))
else (if (60 : Int32) ≤ size then (some (codes, size))
else (Option.bind (stA codes 60 size a1) fun g3 =>
some (g3, (size + (1 : Int32)))))
def fT_empty (size : Int32) : Option (Int32) :=
some (0 : Int32)
def fT_orders (orders : Int32) : Int32 :=
orders
def fT_kindOf (kinds : (Nat → Int32)) (orders : Int32) (a1 : Int32) : Option (Int32) :=
if a1 < 0 then (some (0 : Int32))
else (if orders ≤ a1 then (some (0 : Int32))
else (if (10 : Int32) ≤ a1 then (some (0 : Int32))
else (Option.bind (ldA kinds 10 a1) fun v4 =>
some v4)))
def fT_firstOf (firsts : (Nat → Int32)) (orders : Int32) (a1 : Int32) : Option (Int32) :=
if a1 < 0 then (some (0 : Int32))
else (if orders ≤ a1 then (some (0 : Int32))
else (if (10 : Int32) ≤ a1 then (some (0 : Int32))
else (Option.bind (ldA firsts 10 a1) fun v4 =>
some v4)))
def fT_secondOf (seconds : (Nat → Int32)) (orders : Int32) (a1 : Int32) : Option (Int32) :=
if a1 < 0 then (some (0 : Int32))
else (if orders ≤ a1 then (some (0 : Int32))
else (if (10 : Int32) ≤ a1 then (some (0 : Int32))
else (Option.bind (ldA seconds 10 a1) fun v4 =>
some v4)))
def fT_codeAt (codes : (Nat → Int32)) (size : Int32) (a1 : Int32) : Option (Int32) :=
if a1 < 0 then (some (-1 : Int32))
else (if size ≤ a1 then (some (-1 : Int32))
else (if (60 : Int32) ≤ a1 then (some (-1 : Int32))
else (Option.bind (ldA codes 60 a1) fun v4 =>
some v4)))
def fT_wordOf (a0 : Int32) : Nat :=
if a0 = (99 : Int32) then (5)
else (if a0 = (105 : Int32) then (1)
else (if a0 = (109 : Int32) then (4)
else (if a0 = (111 : Int32) then (2)
else (if a0 = (112 : Int32) then (0)
else (if a0 = (115 : Int32) then (3)
else (6))))))
def fT_readSign (codes : (Nat → Int32)) (size : Int32) (cursor : Int32) (a1 : Int32) : Option (Int32 × Int32) :=
Option.bind (fT_codeAt codes size cursor) fun t1 =>
if t1 = a1 then (some ((1 : Int32), (cursor + (1 : Int32))))
else (some ((0 : Int32), cursor))
def fT_readWord_2 : Nat → (Nat → Int32) → Int32 → Int32 → Nat → Int32 → Option (Int32 × Int32)
| 0, _, _, _, _, _ => none
| n + 1, codes, size, cursor, a1, a2 => if (strLen a1) ≤ a2 then (if (strEmp a1) = 0 then (some ((1 : Int32), cursor))
else (some ((0 : Int32), cursor)))
else (Option.bind (strAt a1 a2) fun v3 =>
Option.bind (fT_readSign codes size cursor v3) fun t4 =>
if t4.1 = 0 then (some ((0 : Int32), t4.2))
else (fT_readWord_2 n codes size t4.2 a1 (a2 + (1 : Int32))))
def fT_readWord (codes : (Nat → Int32)) (size : Int32) (cursor : Int32) (a1 : Nat) : Option (Int32 × Int32) :=
fT_readWord_2 FU codes size cursor a1 (0 : Int32)
def fT_digitAt (codes : (Nat → Int32)) (size : Int32) (a1 : Int32) : Option (Int32) :=
Option.bind (fT_codeAt codes size a1) fun t1 =>
if t1 < (48 : Int32) then (some (-1 : Int32))
else (if (57 : Int32) < t1 then (some (-1 : Int32))
else (some (t1 - (48 : Int32))))
def fT_readNumber (codes : (Nat → Int32)) (size : Int32) (cursor : Int32) (latestNumber : Int32) : Option (Int32 × Int32 × Int32) :=
Option.bind (fT_digitAt codes size cursor) fun t1 =>
if 0 ≤ t1 then (Option.bind (fT_digitAt codes size (cursor + (1 : Int32))) fun t3 =>
if t3 < 0 then (some ((1 : Int32), (cursor + (1 : Int32)), t1))
else (some ((1 : Int32), ((cursor + (1 : Int32)) + (1 : Int32)), ((t1 * (10 : Int32)) + t3))))
else (some ((0 : Int32), cursor, latestNumber))
def fT_addOrder (kinds : (Nat → Int32)) (firsts : (Nat → Int32)) (seconds : (Nat → Int32)) (orders : Int32) (a1 : Int32) (a2 : Int32) (a3 : Int32) : Option ((Nat → Int32) × (Nat → Int32) × (Nat → Int32) × Int32) :=
if orders < 0 then (some (kinds, firsts, seconds, orders))
else (if (10 : Int32) ≤ orders then (some (kinds, firsts, seconds, orders))
else (if (10 : Int32) ≤ orders then (some (kinds, firsts, seconds, orders))
else (if (10 : Int32) ≤ orders then (some (kinds, firsts, seconds, orders))
else (Option.bind (stA kinds 10 orders a1) fun g5 =>
Option.bind (stA firsts 10 orders a2) fun g6 =>
Option.bind (stA seconds 10 orders a3) fun g7 =>
some (g5, g6, g7, (orders + (1 : Int32)))))))
def fT_readOrder (codes : (Nat → Int32)) (size : Int32) (kinds : (Nat → Int32)) (firsts : (Nat → Int32)) (seconds : (Nat → Int32)) (orders : Int32) (cursor : Int32) (latestNumber : Int32) : Option (Int32 × (Nat → Int32) × (Nat → Int32) × (Nat → Int32) × Int32 × Int32 × Int32) :=
Option.bind (fT_codeAt codes size cursor) fun t1 =>
Option.bind (fT_readWord codes size cursor (fT_wordOf t1)) fun t2 =>
if t2.1 = 0 then (some ((0 : Int32), kinds, firsts, seconds, orders, t2.2, latestNumber))
else (Option.bind (fT_readNumber codes size t2.2 latestNumber) fun t4 =>
if t4.1 = 0 then (some ((0 : Int32), kinds, firsts, seconds, orders, t4.2.1, t4.2.2))
else (if t1 = (105 : Int32) then (Option.bind (fT_readSign codes size t4.2.1 (32 : Int32)) fun t8 =>
if t8.1 = 0 then (some ((0 : Int32), kinds, firsts, seconds, orders, t8.2, t4.2.2))
else (Option.bind (fT_readNumber codes size t8.2 t4.2.2) fun t10 =>
if t10.1 = 0 then (some ((0 : Int32), kinds, firsts, seconds, orders, t10.2.1, t10.2.2))
else (Option.bind (fT_addOrder kinds firsts seconds orders t1 t4.2.2 t10.2.2) fun t12 =>
some ((1 : Int32), t12.1, t12.2.1, t12.2.2.1, t12.2.2.2, t10.2.1, t10.2.2))))
else (Option.bind (fT_addOrder kinds firsts seconds orders t1 t4.2.2 t4.2.2) fun t7 =>
some ((1 : Int32), t7.1, t7.2.1, t7.2.2.1, t7.2.2.2, t4.2.1, t4.2.2))))
def fT_read_12 : Nat → (Nat → Int32) → Int32 → (Nat → Int32) → (Nat → Int32) → (Nat → Int32) → Int32 → Int32 → Int32 → Int32 → Option (Int32 × (Nat → Int32) × (Nat → Int32) × (Nat → Int32) × Int32 × Int32 × Int32)
| 0, _, _, _, _, _, _, _, _, _ => none
| n + 1, codes, size, kinds, firsts, seconds, orders, cursor, latestNumber, a1 => if (60 : Int32) < a1 then (some (cursor, kinds, firsts, seconds, orders, cursor, latestNumber))
else (Option.bind (fT_readOrder codes size kinds firsts seconds orders cursor latestNumber) fun t2 =>
if t2.1 = 0 then (some (t2.2.2.2.2.2.1, t2.2.1, t2.2.2.1, t2.2.2.2.1, t2.2.2.2.2.1, t2.2.2.2.2.2.1, t2.2.2.2.2.2.2))
else (if t2.2.2.2.2.2.1 = size then (some ((-1 : Int32), t2.2.1, t2.2.2.1, t2.2.2.2.1, t2.2.2.2.2.1, t2.2.2.2.2.2.1, t2.2.2.2.2.2.2))
else (Option.bind (fT_readSign codes size t2.2.2.2.2.2.1 (59 : Int32)) fun t5 =>
if t5.1 = 0 then (some (t5.2, t2.2.1, t2.2.2.1, t2.2.2.2.1, t2.2.2.2.2.1, t5.2, t2.2.2.2.2.2.2))
else (fT_read_12 n codes size t2.2.1 t2.2.2.1 t2.2.2.2.1 t2.2.2.2.2.1 t5.2 t2.2.2.2.2.2.2 (a1 + (1 : Int32))))))
def fT_read (codes : (Nat → Int32)) (size : Int32) (kinds : (Nat → Int32)) (firsts : (Nat → Int32)) (seconds : (Nat → Int32)) (orders : Int32) (cursor : Int32) (latestNumber : Int32) : Option (Int32 × (Nat → Int32) × (Nat → Int32) × (Nat → Int32) × Int32 × Int32 × Int32) :=
fT_read_12 FU codes size kinds firsts seconds (0 : Int32) (0 : Int32) latestNumber (0 : Int32)
def fS_refuse (latestReason : Int32) (latestDetail : Int32) (a1 : Int32) (a2 : Int32) : Option (Int32 × Int32 × Int32) :=
some ((-14 : Int32), a1, a2)
def fS_follow (letters : TL) (rows : TR) (bags : TB) : Option (TR × TB) :=
Option.bind (fR_fill rows.1 rows.2.1 rows.2.2.1 rows.2.2.2.1 rows.2.2.2.2.1 rows.2.2.2.2.2 letters.1 letters.2.1) fun t1 =>
Option.bind (fB_fill bags.1 bags.2.1 bags.2.2.1 bags.2.2.2 letters.1 letters.2.1 letters.2.2.1) fun t2 =>
some ((t1.1, t1.2.1, t1.2.2.1, t1.2.2.2.1, t1.2.2.2.2.1, t1.2.2.2.2.2), (t2.1, t2.2.1, t2.2.2.1, t2.2.2.2))
def fS_put (letters : TL) (past : TP) (rows : TR) (bags : TB) (latestReason : Int32) (latestDetail : Int32) (a1 : Int32) : Option (Int32 × TL × TP × TR × TB × Int32 × Int32) :=
if (fS_isWeight a1) = 0 then (some ((-12 : Int32), letters, past, rows, bags, latestReason, latestDetail))
else (if (fL_isFull letters.2.1) = 0 then (Option.bind (fP_keep past.1 past.2.1 past.2.2 letters.1 letters.2.1 letters.2.2.1 letters.2.2.2.1 letters.2.2.2.2.1 letters.2.2.2.2.2) fun t3 =>
Option.bind (fL_come letters.1 letters.2.1 letters.2.2.2.1 (fL_size letters.2.1) a1) fun t4 =>
Option.bind (fS_follow (t4.2.1, t4.2.2.1, letters.2.2.1, t4.2.2.2, letters.2.2.2.2) rows bags) fun t5 =>
some (((fL_size t4.2.2.1) - (1 : Int32)), (t4.2.1, t4.2.2.1, letters.2.2.1, t4.2.2.2, letters.2.2.2.2), (t3.1, t3.2.1, t3.2.2), t5.1, t5.2, latestReason, latestDetail))
else (Option.bind (fS_refuse latestReason latestDetail (1 : Int32) (64 : Int32)) fun t6 =>
some (t6.1, letters, past, rows, bags, t6.2.1, t6.2.2)))
def fS_insert (letters : TL) (past : TP) (rows : TR) (bags : TB) (latestReason : Int32) (latestDetail : Int32) (a1 : Int32) (a2 : Int32) : Option (Int32 × TL × TP × TR × TB × Int32 × Int32) :=
if a1 < 0 then (some ((-11 : Int32), letters, past, rows, bags, latestReason, latestDetail))
else (if a1 ≤ (fL_size letters.2.1) then (if (fS_isWeight a2) = 0 then (some ((-12 : Int32), letters, past, rows, bags, latestReason, latestDetail))
else (if (fL_isFull letters.2.1) = 0 then (Option.bind (fP_keep past.1 past.2.1 past.2.2 letters.1 letters.2.1 letters.2.2.1 letters.2.2.2.1 letters.2.2.2.2.1 letters.2.2.2.2.2) fun t5 =>
Option.bind (fL_come letters.1 letters.2.1 letters.2.2.2.1 a1 a2) fun t6 =>
Option.bind (fS_follow (t6.2.1, t6.2.2.1, letters.2.2.1, t6.2.2.2, letters.2.2.2.2) rows bags) fun t7 =>
some ((fL_size t6.2.2.1), (t6.2.1, t6.2.2.1, letters.2.2.1, t6.2.2.2, letters.2.2.2.2), (t5.1, t5.2.1, t5.2.2), t7.1, t7.2, latestReason, latestDetail))
else (Option.bind (fS_refuse latestReason latestDetail (1 : Int32) (64 : Int32)) fun t8 =>
some (t8.1, letters, past, rows, bags, t8.2.1, t8.2.2))))
else (some ((-11 : Int32), letters, past, rows, bags, latestReason, latestDetail)))
def fS_take (letters : TL) (past : TP) (rows : TR) (bags : TB) (a1 : Int32) : Option (Int32 × TL × TP × TR × TB) :=
if (fL_has letters.2.1 a1) = 0 then (some ((-11 : Int32), letters, past, rows, bags))
else (Option.bind (fL_at letters.1 a1) fun t2 =>
Option.bind (fP_keep past.1 past.2.1 past.2.2 letters.1 letters.2.1 letters.2.2.1 letters.2.2.2.1 letters.2.2.2.2.1 letters.2.2.2.2.2) fun t3 =>
Option.bind (fL_leave letters.1 letters.2.1 letters.2.2.2.2.1 a1) fun t4 =>
Option.bind (fS_follow (t4.2.1, t4.2.2.1, letters.2.2.1, letters.2.2.2.1, t4.2.2.2, letters.2.2.2.2.2) rows bags) fun t5 =>
some (t2, (t4.2.1, t4.2.2.1, letters.2.2.1, letters.2.2.2.1, t4.2.2.2, letters.2.2.2.2.2), (t3.1, t3.2.1, t3.2.2), t5.1, t5.2))
def fS_swap (letters : TL) (past : TP) (rows : TR) (bags : TB) (latestReason : Int32) (latestDetail : Int32) (a1 : Int32) : Option (Int32 × TL × TP × TR × TB × Int32 × Int32) :=
if (fL_hasNext letters.2.1 a1) = 0 then (some ((-11 : Int32), letters, past, rows, bags, latestReason, latestDetail))
else (Option.bind (fL_at letters.1 a1) fun t2 =>
Option.bind (fL_at letters.1 (a1 + (1 : Int32))) fun t3 =>
if t2 = t3 then (Option.bind (fL_at letters.1 a1) fun t9 =>
Option.bind (fS_refuse latestReason latestDetail (2 : Int32) t9) fun t10 =>
some (t10.1, letters, past, rows, bags, t10.2.1, t10.2.2))
else (Option.bind (fP_keep past.1 past.2.1 past.2.2 letters.1 letters.2.1 letters.2.2.1 letters.2.2.2.1 letters.2.2.2.2.1 letters.2.2.2.2.2) fun t5 =>
Option.bind (fL_exchange letters.1 letters.2.1 letters.2.2.2.2.2 a1) fun t6 =>
Option.bind (fS_follow (t6.2.1, letters.2.1, letters.2.2.1, letters.2.2.2.1, letters.2.2.2.2.1, t6.2.2) rows bags) fun t7 =>
Option.bind (fL_at t6.2.1 a1) fun t8 =>
some (t8, (t6.2.1, letters.2.1, letters.2.2.1, letters.2.2.2.1, letters.2.2.2.2.1, t6.2.2), (t5.1, t5.2.1, t5.2.2), t7.1, t7.2, latestReason, latestDetail)))
def fS_mark (letters : TL) (past : TP) (rows : TR) (bags : TB) (latestReason : Int32) (latestDetail : Int32) (a1 : Int32) (a2 : Int32) : Option (Int32 × TL × TP × TR × TB × Int32 × Int32) :=
if (fS_isMarkPlace a1) = 0 then (some ((-11 : Int32), letters, past, rows, bags, latestReason, latestDetail))
else (if (fL_isMarkedAt letters.2.2.1 a1) = a2 then (Option.bind (fS_refuse latestReason latestDetail (3 : Int32) a1) fun t6 =>
some (t6.1, letters, past, rows, bags, t6.2.1, t6.2.2))
else (Option.bind (fP_keep past.1 past.2.1 past.2.2 letters.1 letters.2.1 letters.2.2.1 letters.2.2.2.1 letters.2.2.2.2.1 letters.2.2.2.2.2) fun t3 =>
Option.bind (fL_setMark letters.2.2.1 a1 a2) fun t4 =>
Option.bind (fS_follow (letters.1, letters.2.1, t4.2, letters.2.2.2) rows bags) fun t5 =>
some ((fL_marked t4.2), (letters.1, letters.2.1, t4.2, letters.2.2.2), (t3.1, t3.2.1, t3.2.2), t5.1, t5.2, latestReason, latestDetail)))
def fS_weight (letters : TL) (a1 : Int32) : Option (Int32) :=
if (fL_has letters.2.1 a1) = 0 then (some (-11 : Int32))
else (Option.bind (fL_at letters.1 a1) fun t2 =>
some t2)
def fS_weightAgain (letters : TL) (rows : TR) (a1 : Int32) : Option (Int32) :=
if (fL_has letters.2.1 a1) = 0 then (some (-11 : Int32))
else (Option.bind (fR_weightOf rows.1 rows.2.1 rows.2.2.1 rows.2.2.2.2.2 a1) fun t2 =>
some t2)
def fS_bit (letters : TL) (rows : TR) (a1 : Int32) (a2 : Int32) : Option (Int32) :=
if (fS_isRow a1) = 0 then (some (-11 : Int32))
else (if (fL_has letters.2.1 a2) = 0 then (some (-11 : Int32))
else (Option.bind (fR_bitAt rows.1 rows.2.2.2.2.2 a1 a2) fun t3 =>
some t3))
def fS_bits (rows : TR) (a1 : Int32) : Option (Int64) :=
Option.bind (fR_wholeRow rows.1 a1) fun t1 =>
some t1
def fS_isEdge (letters : TL) (a1 : Int32) : Int32 :=
if a1 < 0 then ((0 : Int32))
else (if (fL_size letters.2.1) < a1 then ((0 : Int32))
else ((1 : Int32)))
def fS_rank (letters : TL) (rows : TR) (a1 : Int32) (a2 : Int32) (a3 : Int32) : Option (Int32) :=
if (fS_isRow a1) = 0 then (some (-11 : Int32))
else (if (fS_isEdge letters a3) = 0 then (some (-11 : Int32))
else (Option.bind (fR_ahead rows.1 rows.2.1 rows.2.2.2.2.2 a1 a2 a3) fun t3 =>
some t3))
def fS_rankAgain (letters : TL) (rows : TR) (a1 : Int32) (a2 : Int32) (a3 : Int32) : Option (Int32) :=
if (fS_isRow a1) = 0 then (some (-11 : Int32))
else (if (fS_isEdge letters a3) = 0 then (some (-11 : Int32))
else (Option.bind (fR_aheadOneByOne rows.1 rows.2.2.2.2.2 a1 a2 a3) fun t3 =>
some t3))
def fS_select (rows : TR) (a1 : Int32) (a2 : Int32) (a3 : Int32) : Option (Int32) :=
if (fS_isRow a1) = 0 then (some (-11 : Int32))
else (Option.bind (fR_placeOf rows.1 rows.2.1 rows.2.2.2.2.2 a1 a2 a3) fun t2 =>
if 0 ≤ t2 then (some t2)
else (some (-15 : Int32)))
def fS_placeIn (letters : TL) (rows : TR) (a1 : Int32) (a2 : Int32) : Option (Int32) :=
if (fS_isRow a1) = 0 then (some (-11 : Int32))
else (if (fL_has letters.2.1 a2) = 0 then (some (-11 : Int32))
else (Option.bind (fR_placeDownTo rows.1 rows.2.1 rows.2.2.1 rows.2.2.2.2.2 a1 a2) fun t3 =>
some t3))
def fS_isPart (letters : TL) (a1 : Int32) (a2 : Int32) : Int32 :=
if a1 < 0 then ((0 : Int32))
else (if a2 < a1 then ((0 : Int32))
else (if (fL_size letters.2.1) < a2 then ((0 : Int32))
else ((1 : Int32))))
def fS_isPlaceOfPart (letters : TL) (a1 : Int32) (a2 : Int32) (a3 : Int32) : Int32 :=
if (fS_isPart letters a1 a2) = 0 then ((0 : Int32))
else (if a3 < 0 then ((0 : Int32))
else (if (a2 - a1) ≤ a3 then ((0 : Int32))
else ((1 : Int32))))
def fS_quantile (letters : TL) (rows : TR) (a1 : Int32) (a2 : Int32) (a3 : Int32) : Option (Int32) :=
if (fS_isPlaceOfPart letters a1 a2 a3) = 0 then (some (-11 : Int32))
else (Option.bind (fR_weightBySize rows.1 rows.2.1 rows.2.2.1 rows.2.2.2.2.2 a1 a2 a3) fun t2 =>
some t2)
def fS_quantileAgain (letters : TL) (sizes : TZ) (a1 : Int32) (a2 : Int32) (a3 : Int32) : Option (Int32 × TZ) :=
if (fS_isPlaceOfPart letters a1 a2 a3) = 0 then (some ((-11 : Int32), sizes))
else (Option.bind (fZ_fill sizes.1 sizes.2 letters.1 a1 a2) fun t2 =>
Option.bind (fZ_at t2.1 t2.2 a3) fun t3 =>
some (t3, (t2.1, t2.2)))
def fS_count (letters : TL) (rows : TR) (a1 : Int32) (a2 : Int32) (a3 : Int32) : Option (Int32) :=
if (fS_isPart letters a1 a2) = 0 then (some (-11 : Int32))
else (if (fS_isWeight a3) = 0 then (some (-12 : Int32))
else (Option.bind (fR_numberOf rows.1 rows.2.1 rows.2.2.1 rows.2.2.2.2.2 a1 a2 a3) fun t3 =>
some t3))
def fS_lighter (letters : TL) (rows : TR) (a1 : Int32) (a2 : Int32) (a3 : Int32) : Option (Int32) :=
if (fS_isPart letters a1 a2) = 0 then (some (-11 : Int32))
else (if (fS_isWeight a3) = 0 then (some (-12 : Int32))
else (Option.bind (fR_numberBelow rows.1 rows.2.1 rows.2.2.1 rows.2.2.2.2.2 a1 a2 a3) fun t3 =>
some t3))
def fS_atLeast (letters : TL) (rows : TR) (a1 : Int32) (a2 : Int32) (a3 : Int32) : Option (Int32) :=
if (fS_isPart letters a1 a2) = 0 then (some (-11 : Int32))
else (if (fS_isWeight a3) = 0 then (some (-12 : Int32))
else (Option.bind (fR_numberBelow rows.1 rows.2.1 rows.2.2.1 rows.2.2.2.2.2 a1 a2 a3) fun t3 =>
if (a2 - a1) ≤ t3 then (some (-15 : Int32))
else (Option.bind (fR_weightBySize rows.1 rows.2.1 rows.2.2.1 rows.2.2.2.2.2 a1 a2 t3) fun t5 =>
some t5)))
def fS_find (rows : TR) (a1 : Int32) (a2 : Int32) : Option (Int32) :=
if (fS_isWeight a1) = 0 then (some (-12 : Int32))
else (Option.bind (fR_placeBack rows.1 rows.2.1 rows.2.2.1 rows.2.2.2.2.2 a1 a2) fun t2 =>
if 0 ≤ t2 then (some t2)
else (some (-15 : Int32)))
def fS_common (letters : TL) (tally : TY) (a1 : Int32) (a2 : Int32) (a3 : Int32) : Option (Int32 × TY) :=
if (fS_isPart letters a1 a2) = 0 then (some ((-11 : Int32), tally))
else (Option.bind (fY_fill tally letters.1 a1 a2) fun t2 =>
Option.bind (fY_byNumber t2 a3) fun t3 =>
if 0 ≤ t3 then (some (t3, t2))
else (some ((-11 : Int32), t2)))
def fS_bagOf (letters : TL) (rows : TR) (bags : TB) (tally : TY) (a1 : Int32) (a2 : Int32) : Option (Int32 × TY) :=
if a1 < 0 then (some ((-11 : Int32), tally))
else (if a1 < (fB_number bags.2.2.1) then (Option.bind (fB_beginOf bags.1 bags.2.2.1 bags.2.2.2 a1) fun t3 =>
Option.bind (fB_endOf bags.1 bags.2.2.1 bags.2.2.2 a1) fun t4 =>
if a2 = (0 : Int32) then (some (t3, tally))
else (if a2 = (1 : Int32) then (some ((t4 - t3), tally))
else (if a2 = (2 : Int32) then (Option.bind (fB_totalOf bags.2.1 bags.2.2.1 a1) fun t5 =>
some (t5, tally))
else (if a2 = (3 : Int32) then (Option.bind (fR_weightBySize rows.1 rows.2.1 rows.2.2.1 rows.2.2.2.2.2 t3 t4 (((t4 - t3) - (1 : Int32)) / (2 : Int32))) fun t6 =>
some (t6, tally))
else (if a2 = (4 : Int32) then (Option.bind (fR_weightBySize rows.1 rows.2.1 rows.2.2.1 rows.2.2.2.2.2 t3 t4 ((t4 - t3) - (1 : Int32))) fun t7 =>
some (t7, tally))
else (if a2 = (5 : Int32) then (Option.bind (fY_fill tally letters.1 t3 t4) fun t8 =>
Option.bind (fY_unlike t8) fun t9 =>
some (t9, t8))
else (some ((-12 : Int32), tally))))))))
else (some ((-11 : Int32), tally)))
def fS_bagAt (letters : TL) (bags : TB) (a1 : Int32) : Option (Int32) :=
if (fL_has letters.2.1 a1) = 0 then (some (-11 : Int32))
else (Option.bind (fB_bagWith bags.1 bags.2.2.1 bags.2.2.2 a1) fun t2 =>
some t2)
def fS_ranked (bags : TB) (a1 : Int32) : Option (Int32) :=
Option.bind (fB_byTotal bags.1 bags.2.1 bags.2.2.1 bags.2.2.2 a1) fun t1 =>
if 0 ≤ t1 then (some t1)
else (some (-11 : Int32))
def fS_append (text : TT) (a1 : Int32) : Option (Int32 × TT) :=
if a1 < (32 : Int32) then (some ((-12 : Int32), text))
else (if a1 ≤ (126 : Int32) then (if (fT_isFull text.2.1) = 0 then (Option.bind (fT_add text.1 text.2.1 a1) fun t4 =>
some ((fT_size t4.2), (t4.1, t4.2, text.2.2)))
else (some ((-13 : Int32), text)))
else (some ((-12 : Int32), text)))
def fS_tryOrders_13 : Nat → TL → TL → TT → Int32 → Option (Int32 × TL)
| 0, _, _, _, _ => none
| n + 1, letters, trial, text, a1 => if (fT_orders text.2.2.2.2.2.1) ≤ a1 then (some ((-1 : Int32), trial))
else (Option.bind (fT_kindOf text.2.2.1 text.2.2.2.2.2.1 a1) fun t3 =>
Option.bind (fT_firstOf text.2.2.2.1 text.2.2.2.2.2.1 a1) fun t4 =>
Option.bind (fT_secondOf text.2.2.2.2.1 text.2.2.2.2.2.1 a1) fun t5 =>
Option.bind (fL_obey trial.1 trial.2.1 trial.2.2.1 trial.2.2.2.1 trial.2.2.2.2.1 trial.2.2.2.2.2 t3 t4 t5) fun t6 =>
if t6.1 = 0 then (some (a1, (t6.2.1, t6.2.2.1, t6.2.2.2.1, t6.2.2.2.2.1, t6.2.2.2.2.2.1, t6.2.2.2.2.2.2)))
else (fS_tryOrders_13 n letters (t6.2.1, t6.2.2.1, t6.2.2.2.1, t6.2.2.2.2.1, t6.2.2.2.2.2.1, t6.2.2.2.2.2.2) text (a1 + (1 : Int32))))
def fS_tryOrders (letters : TL) (trial : TL) (text : TT) : Option (Int32 × TL) :=
Option.bind (fL_becomeLike trial.1 trial.2.1 trial.2.2.1 trial.2.2.2.1 trial.2.2.2.2.1 trial.2.2.2.2.2 letters.1 letters.2.1 letters.2.2.1 letters.2.2.2.1 letters.2.2.2.2.1 letters.2.2.2.2.2) fun t1 =>
fS_tryOrders_13 FU letters (t1.1, t1.2.1, t1.2.2.1, t1.2.2.2.1, t1.2.2.2.2.1, t1.2.2.2.2.2) text (0 : Int32)
def fS_run (letters : TL) (trial : TL) (past : TP) (rows : TR) (bags : TB) (text : TT) (latestReason : Int32) (latestDetail : Int32) : Option (Int32 × TL × TL × TP × TR × TB × TT × Int32 × Int32) :=
Option.bind (fT_read text.1 text.2.1 text.2.2.1 text.2.2.2.1 text.2.2.2.2.1 text.2.2.2.2.2.1 text.2.2.2.2.2.2.1 text.2.2.2.2.2.2.2) fun t1 =>
Option.bind (fT_empty text.2.1) fun t2 =>
if t1.1 < 0 then (Option.bind (fS_tryOrders letters trial (text.1, t2, t1.2.1, t1.2.2.1, t1.2.2.2.1, t1.2.2.2.2.1, t1.2.2.2.2.2.1, t1.2.2.2.2.2.2)) fun t4 =>
if t4.1 < 0 then (Option.bind (fP_keep past.1 past.2.1 past.2.2 letters.1 letters.2.1 letters.2.2.1 letters.2.2.2.1 letters.2.2.2.2.1 letters.2.2.2.2.2) fun t6 =>
Option.bind (fL_becomeLike letters.1 letters.2.1 letters.2.2.1 letters.2.2.2.1 letters.2.2.2.2.1 letters.2.2.2.2.2 t4.2.1 t4.2.2.1 t4.2.2.2.1 t4.2.2.2.2.1 t4.2.2.2.2.2.1 t4.2.2.2.2.2.2) fun t7 =>
Option.bind (fS_follow (t7.1, t7.2.1, t7.2.2.1, t7.2.2.2.1, t7.2.2.2.2.1, t7.2.2.2.2.2) rows bags) fun t8 =>
some ((fT_orders t1.2.2.2.2.1), (t7.1, t7.2.1, t7.2.2.1, t7.2.2.2.1, t7.2.2.2.2.1, t7.2.2.2.2.2), t4.2, (t6.1, t6.2.1, t6.2.2), t8.1, t8.2, (text.1, t2, t1.2.1, t1.2.2.1, t1.2.2.2.1, t1.2.2.2.2.1, t1.2.2.2.2.2.1, t1.2.2.2.2.2.2), latestReason, latestDetail))
else (Option.bind (fS_refuse latestReason latestDetail (4 : Int32) t4.1) fun t9 =>
some (t9.1, letters, t4.2, past, rows, bags, (text.1, t2, t1.2.1, t1.2.2.1, t1.2.2.2.1, t1.2.2.2.2.1, t1.2.2.2.2.2.1, t1.2.2.2.2.2.2), t9.2.1, t9.2.2)))
else (some (((-1000 : Int32) - t1.1), letters, trial, past, rows, bags, (text.1, t2, t1.2.1, t1.2.2.1, t1.2.2.2.1, t1.2.2.2.2.1, t1.2.2.2.2.2.1, t1.2.2.2.2.2.2), latestReason, latestDetail))
def fS_digitOf (a0 : Int32) : Int32 :=
if (10 : Int32) ≤ a0 then ((((97 : Int32) + a0) - (10 : Int32)))
else (((48 : Int32) + a0))
def fS_tell_9 : Nat → TL → TN → Int32 → Option (Int32 × TN)
| 0, _, _, _ => none
| n + 1, letters, line_, a1 => if (fL_size letters.2.1) ≤ a1 then (some ((fN_size line_.2), line_))
else (if a1 ≤ 0 then (Option.bind (fL_at letters.1 a1) fun t4 =>
Option.bind (fN_write line_.1 line_.2 (fS_digitOf t4)) fun t5 =>
fS_tell_9 n letters (t5.1, t5.2) (a1 + (1 : Int32)))
else (if (fL_isMarkedAt letters.2.2.1 a1) = 0 then (Option.bind (fL_at letters.1 a1) fun t7 =>
Option.bind (fN_write line_.1 line_.2 (fS_digitOf t7)) fun t8 =>
fS_tell_9 n letters (t8.1, t8.2) (a1 + (1 : Int32)))
else (Option.bind (fN_write line_.1 line_.2 (124 : Int32)) fun t9 =>
Option.bind (fL_at letters.1 a1) fun t10 =>
Option.bind (fN_write t9.1 t9.2 (fS_digitOf t10)) fun t11 =>
fS_tell_9 n letters (t11.1, t11.2) (a1 + (1 : Int32)))))
def fS_tell (letters : TL) (line_ : TN) : Option (Int32 × TN) :=
Option.bind (fN_empty line_.2) fun t1 =>
fS_tell_9 FU letters (line_.1, t1) (0 : Int32)
def fS_tellRow_19 : Nat → TL → TR → TN → Int32 → Int32 → Option (Int32 × TN)
| 0, _, _, _, _, _ => none
| n + 1, letters, rows, line_, a1, a2 => if (fL_size letters.2.1) ≤ a2 then (some ((fN_size line_.2), line_))
else (if a2 ≤ 0 then (Option.bind (fR_bitAt rows.1 rows.2.2.2.2.2 a1 a2) fun t5 =>
Option.bind (fN_write line_.1 line_.2 ((48 : Int32) + t5)) fun t6 =>
fS_tellRow_19 n letters rows (t6.1, t6.2) a1 (a2 + (1 : Int32)))
else (if (a2 - a2 / (8 : Int32) * (8 : Int32)) = 0 then (Option.bind (fN_write line_.1 line_.2 (32 : Int32)) fun t10 =>
Option.bind (fR_bitAt rows.1 rows.2.2.2.2.2 a1 a2) fun t11 =>
Option.bind (fN_write t10.1 t10.2 ((48 : Int32) + t11)) fun t12 =>
fS_tellRow_19 n letters rows (t12.1, t12.2) a1 (a2 + (1 : Int32)))
else (Option.bind (fR_bitAt rows.1 rows.2.2.2.2.2 a1 a2) fun t8 =>
Option.bind (fN_write line_.1 line_.2 ((48 : Int32) + t8)) fun t9 =>
fS_tellRow_19 n letters rows (t9.1, t9.2) a1 (a2 + (1 : Int32)))))
def fS_tellRow (letters : TL) (rows : TR) (line_ : TN) (a1 : Int32) : Option (Int32 × TN) :=
if (fS_isRow a1) = 0 then (some ((-11 : Int32), line_))
else (Option.bind (fN_empty line_.2) fun t2 =>
fS_tellRow_19 FU letters rows (line_.1, t2) a1 (0 : Int32))
def fS_character (line_ : TN) (a1 : Int32) : Option (Int32) :=
if a1 < 0 then (some (-11 : Int32))
else (if (fN_size line_.2) ≤ a1 then (some (-11 : Int32))
else (Option.bind (fN_codeAt line_.1 line_.2 a1) fun t3 =>
some t3))
def fS_reason (latestReason : Int32) (latestDetail : Int32) (a1 : Int32) : Int32 :=
if latestReason = 0 then ((-15 : Int32))
else (if a1 = 0 then (latestReason)
else (latestDetail))
def fS_account (letters : TL) (past : TP) (rows : TR) (bags : TB) (tally : TY) (text : TT) (a1 : Int32) : Option (Int32 × TY) :=
if a1 = (0 : Int32) then (some ((fL_size letters.2.1), tally))
else (if a1 = (1 : Int32) then (Option.bind (fL_total letters.1 letters.2.1) fun t1 =>
some (t1, tally))
else (if a1 = (2 : Int32) then (some ((fL_came letters.2.2.2.1), tally))
else (if a1 = (3 : Int32) then (some ((fL_left letters.2.2.2.2.1), tally))
else (if a1 = (4 : Int32) then (some ((fB_number bags.2.2.1), tally))
else (if a1 = (5 : Int32) then (some ((fL_marked letters.2.2.1), tally))
else (if a1 = (6 : Int32) then (Option.bind (fY_fill tally letters.1 (0 : Int32) (fL_size letters.2.1)) fun t2 =>
Option.bind (fY_unlike t2) fun t3 =>
some (t3, t2))
else (if a1 = (7 : Int32) then (some ((fL_swaps letters.2.2.2.2.2), tally))
else (if a1 = (8 : Int32) then (Option.bind (fR_onesOfAll rows.1) fun t4 =>
some (t4, tally))
else (if a1 = (9 : Int32) then (some ((fT_size text.2.1), tally))
else (if a1 = (10 : Int32) then (some ((fP_size past.2.2), tally))
else (some ((-12 : Int32), tally))))))))))))
def fS_areWeightsAlike_2 : Nat → TL → TR → Int32 → Option (Int32)
| 0, _, _, _ => none
| n + 1, letters, rows, a1 => if (fL_size letters.2.1) ≤ a1 then (some (1 : Int32))
else (Option.bind (fL_at letters.1 a1) fun t2 =>
Option.bind (fR_weightOf rows.1 rows.2.1 rows.2.2.1 rows.2.2.2.2.2 a1) fun t3 =>
if t2 = t3 then (fS_areWeightsAlike_2 n letters rows (a1 + (1 : Int32)))
else (some (0 : Int32)))
def fS_areWeightsAlike (letters : TL) (rows : TR) : Option (Int32) :=
fS_areWeightsAlike_2 FU letters rows (0 : Int32)
def fS_areCountsAlike_9 : Nat → TL → TR → Int32 → Int32 → Option (Int32 ⊕ (Unit))
| 0, _, _, _, _ => none
| n + 1, letters, rows, a1, a2 => if (fL_size letters.2.1) < a2 then (some (Sum.inr ()))
else (Option.bind (fR_ahead rows.1 rows.2.1 rows.2.2.2.2.2 a1 (1 : Int32) a2) fun t3 =>
Option.bind (fR_aheadOneByOne rows.1 rows.2.2.2.2.2 a1 (1 : Int32) a2) fun t4 =>
if t3 = t4 then (Option.bind (fR_ahead rows.1 rows.2.1 rows.2.2.2.2.2 a1 (0 : Int32) a2) fun t6 =>
Option.bind (fR_aheadOneByOne rows.1 rows.2.2.2.2.2 a1 (0 : Int32) a2) fun t7 =>
if t6 = t7 then (fS_areCountsAlike_9 n letters rows a1 (a2 + (8 : Int32)))
else (some (Sum.inl (0 : Int32))))
else (some (Sum.inl (0 : Int32))))
def fS_areCountsAlike_2 : Nat → TL → TR → Int32 → Option (Int32)
| 0, _, _, _ => none
| n + 1, letters, rows, a1 => if (5 : Int32) ≤ a1 then (some (1 : Int32))
else (Option.bind (fS_areCountsAlike_9 FU letters rows a1 (0 : Int32)) fun o9 => Sum.elim (fun r9 => some r9) (fun o9x =>
fS_areCountsAlike_2 n letters rows (a1 + (1 : Int32))) o9)
def fS_areCountsAlike (letters : TL) (rows : TR) : Option (Int32) :=
fS_areCountsAlike_2 FU letters rows (0 : Int32)
def fS_areSizesAlike_23 : Nat → TL → TR → TZ → Int32 → Int32 → Option (Int32 × TZ)
| 0, _, _, _, _, _ => none
| n + 1, letters, rows, sizes, a1, a2 => if a1 ≤ a2 then (some ((1 : Int32), sizes))
else (Option.bind (fZ_at sizes.1 sizes.2 a2) fun t3 =>
Option.bind (fR_weightBySize rows.1 rows.2.1 rows.2.2.1 rows.2.2.2.2.2 (0 : Int32) a1 a2) fun t4 =>
if t3 = t4 then (fS_areSizesAlike_23 n letters rows sizes a1 (a2 + (1 : Int32)))
else (some ((0 : Int32), sizes)))
def fS_areSizesAlike (letters : TL) (rows : TR) (sizes : TZ) : Option (Int32 × TZ) :=
Option.bind (fZ_fill sizes.1 sizes.2 letters.1 (0 : Int32) (fL_size letters.2.1)) fun t1 =>
fS_areSizesAlike_23 FU letters rows (t1.1, t1.2) (fL_size letters.2.1) (0 : Int32)
def fS_lettersOfBags_4 : Nat → TB → Int32 → Int32 → Option (Int32)
| 0, _, _, _ => none
| n + 1, bags, a1, a2 => if (fB_number bags.2.2.1) ≤ a2 then (some a1)
else (Option.bind (fB_endOf bags.1 bags.2.2.1 bags.2.2.2 a2) fun t2 =>
Option.bind (fB_beginOf bags.1 bags.2.2.1 bags.2.2.2 a2) fun t3 =>
fS_lettersOfBags_4 n bags (a1 + (t2 - t3)) (a2 + (1 : Int32)))
def fS_lettersOfBags (bags : TB) : Option (Int32) :=
fS_lettersOfBags_4 FU bags (0 : Int32) (0 : Int32)
def fS_isBalanced (letters : TL) (rows : TR) (bags : TB) (sizes : TZ) : Option (Int32 × TZ) :=
if (fL_size letters.2.1) = ((fL_came letters.2.2.2.1) - (fL_left letters.2.2.2.2.1)) then (Option.bind (fS_areWeightsAlike letters rows) fun t2 =>
if t2 = 0 then (some ((0 : Int32), sizes))
else (Option.bind (fS_areCountsAlike letters rows) fun t4 =>
if t4 = 0 then (some ((0 : Int32), sizes))
else (Option.bind (fS_areSizesAlike letters rows sizes) fun t6 =>
if t6.1 = 0 then (some ((0 : Int32), t6.2))
else (Option.bind (fS_lettersOfBags bags) fun t8 =>
if t8 = (fL_size letters.2.1) then (some ((1 : Int32), t6.2))
else (some ((0 : Int32), t6.2))))))
else (some ((0 : Int32), sizes))
def fS_meanWeight (letters : TL) : Option (UInt64) :=
if (fL_size letters.2.1) ≤ 0 then (some FP.dconst0)
else (Option.bind (fL_total letters.1 letters.2.1) fun t2 =>
Option.bind (dvD (FP.i2d t2) (FP.i2d (fL_size letters.2.1))) fun w3 =>
some w3)
def fS_oneShare (letters : TL) (rows : TR) (a1 : Int32) : Option (UInt32) :=
if (fS_isRow a1) = 0 then (some FP.fconst0)
else (if (fL_size letters.2.1) ≤ 0 then (some FP.fconst0)
else (Option.bind (fR_onesOf rows.1 a1) fun t3 =>
Option.bind (dvF (FP.i2f t3) (FP.i2f (fL_size letters.2.1))) fun w4 =>
some w4))
def fS_undo (letters : TL) (past : TP) (rows : TR) (bags : TB) : Option (Int32 × TL × TP × TR × TB) :=
Option.bind (fP_giveBack past.1 past.2.1 past.2.2 letters.1 letters.2.1 letters.2.2.1 letters.2.2.2.1 letters.2.2.2.2.1 letters.2.2.2.2.2) fun t1 =>
if t1.1 = 0 then (some ((-15 : Int32), (t1.2.2.1, t1.2.2.2.1, t1.2.2.2.2.1, t1.2.2.2.2.2.1, t1.2.2.2.2.2.2.1, t1.2.2.2.2.2.2.2), (past.1, past.2.1, t1.2.1), rows, bags))
else (Option.bind (fS_follow (t1.2.2.1, t1.2.2.2.1, t1.2.2.2.2.1, t1.2.2.2.2.2.1, t1.2.2.2.2.2.2.1, t1.2.2.2.2.2.2.2) rows bags) fun t3 =>
some ((fP_size t1.2.1), (t1.2.2.1, t1.2.2.2.1, t1.2.2.2.2.1, t1.2.2.2.2.2.1, t1.2.2.2.2.2.2.1, t1.2.2.2.2.2.2.2), (past.1, past.2.1, t1.2.1), t3.1, t3.2))
def fS_save (letters : TL) (snapshot : TL) (isSaved : Int32) : Option (Int32 × TL × Int32) :=
Option.bind (fL_becomeLike snapshot.1 snapshot.2.1 snapshot.2.2.1 snapshot.2.2.2.1 snapshot.2.2.2.2.1 snapshot.2.2.2.2.2 letters.1 letters.2.1 letters.2.2.1 letters.2.2.2.1 letters.2.2.2.2.1 letters.2.2.2.2.2) fun t1 =>
some ((fL_size letters.2.1), (t1.1, t1.2.1, t1.2.2.1, t1.2.2.2.1, t1.2.2.2.2.1, t1.2.2.2.2.2), (1 : Int32))
def fS_restore (letters : TL) (snapshot : TL) (isSaved : Int32) (past : TP) (rows : TR) (bags : TB) : Option (Int32 × TL × TP × TR × TB) :=
if isSaved = 0 then (some ((-15 : Int32), letters, past, rows, bags))
else (Option.bind (fL_becomeLike letters.1 letters.2.1 letters.2.2.1 letters.2.2.2.1 letters.2.2.2.2.1 letters.2.2.2.2.2 snapshot.1 snapshot.2.1 snapshot.2.2.1 snapshot.2.2.2.1 snapshot.2.2.2.2.1 snapshot.2.2.2.2.2) fun t2 =>
Option.bind (fP_forget past.2.2) fun t3 =>
Option.bind (fS_follow (t2.1, t2.2.1, t2.2.2.1, t2.2.2.2.1, t2.2.2.2.2.1, t2.2.2.2.2.2) rows bags) fun t4 =>
some ((fL_size t2.2.1), (t2.1, t2.2.1, t2.2.2.1, t2.2.2.2.1, t2.2.2.2.2.1, t2.2.2.2.2.2), (past.1, past.2.1, t3), t4.1, t4.2))
def fM_isBetween (a0 : Int32) (a1 : Int32) (a2 : Int32) : Int32 :=
if a0 < a1 then ((0 : Int32))
else (if a2 < a0 then ((0 : Int32))
else ((1 : Int32)))
def fM_isNot (reasonNow : Int32) (detailNow : Int32) (a1 : Int32) (a2 : Int32) : Option (Int32 × Int32 × Int32) :=
some ((-14 : Int32), a1, a2)
def fM_refuses (why : Int32) (detail : Int32) (reasonNow : Int32) (detailNow : Int32) (a1 : Int32) : Option (Int32 × Int32 × Int32) :=
if a1 = (-14 : Int32) then (some (a1, reasonNow, detailNow))
else (some (a1, why, detail))
def fM_reason (why : Int32) (detail : Int32) (a1 : Int32) : Int32 :=
if why = 0 then ((-15 : Int32))
else (if a1 = 0 then (why)
else (detail))
def fM_thinks_2 : Nat → (Nat → Int32) → (Nat → Int32) → Int32 → Option ((Nat → Int32))
| 0, _, _, _ => none
| n + 1, w, mind, a1 => if (132 : Int32) ≤ a1 then (some mind)
else (Option.bind (ldA w 132 a1) fun v2 =>
Option.bind (stA mind 132 a1 v2) fun g3 =>
fM_thinks_2 n w g3 (a1 + (1 : Int32)))
def fM_thinks (w : (Nat → Int32)) (mind : (Nat → Int32)) : Option ((Nat → Int32)) :=
fM_thinks_2 FU w mind (0 : Int32)
def fM_forgets_2 : Nat → (Nat → Int32) → (Nat → Int32) → Int32 → Option ((Nat → Int32))
| 0, _, _, _ => none
| n + 1, w, mind, a1 => if (132 : Int32) ≤ a1 then (some w)
else (Option.bind (ldA mind 132 a1) fun v2 =>
Option.bind (stA w 132 a1 v2) fun g3 =>
fM_forgets_2 n g3 mind (a1 + (1 : Int32)))
def fM_forgets (w : (Nat → Int32)) (mind : (Nat → Int32)) : Option ((Nat → Int32)) :=
fM_forgets_2 FU w mind (0 : Int32)
def fM_keepsMind_47 : Nat → (Nat → Int32) → (Nat → Int32) → Int32 → Int32 → Int32 → Int32 → Option ((Nat → Int32) × Int32 × Int32)
| 0, _, _, _, _, _, _ => none
| n + 1, undos, mind, changes, firstChange, a1, a2 => if (132 : Int32) ≤ a2 then (some (undos, (changes + (1 : Int32)), firstChange))
else (Option.bind (ldA mind 132 a2) fun v3 =>
Option.bind (stA undos 1056 (((132 : Int32) * a1) + a2) v3) fun g4 =>
fM_keepsMind_47 n g4 mind changes firstChange a1 (a2 + (1 : Int32)))
def fM_keepsMind (undos : (Nat → Int32)) (mind : (Nat → Int32)) (changes : Int32) (firstChange : Int32) : Option ((Nat → Int32) × Int32 × Int32) :=
if changes = (8 : Int32) then (fM_keepsMind_47 FU undos mind (changes - (1 : Int32)) ((firstChange + (1 : Int32)) - (firstChange + (1 : Int32)) / (8 : Int32) * (8 : Int32)) ((((firstChange + (1 : Int32)) - (firstChange + (1 : Int32)) / (8 : Int32) * (8 : Int32)) + (changes - (1 : Int32))) - (((firstChange + (1 : Int32)) - (firstChange + (1 : Int32)) / (8 : Int32) * (8 : Int32)) + (changes - (1 : Int32))) / (8 : Int32) * (8 : Int32)) (0 : Int32))
else (fM_keepsMind_47 FU undos mind changes firstChange ((firstChange + changes) - (firstChange + changes) / (8 : Int32) * (8 : Int32)) (0 : Int32))
def fM_remembers (w : (Nat → Int32)) (undos : (Nat → Int32)) (mind : (Nat → Int32)) (changes : Int32) (firstChange : Int32) : Option ((Nat → Int32) × (Nat → Int32) × Int32 × Int32) :=
Option.bind (fM_thinks w mind) fun t1 =>
Option.bind (fM_keepsMind undos t1 changes firstChange) fun t2 =>
some (t2.1, t1, t2.2.1, t2.2.2)
def fM_isLetter (w : (Nat → Int32)) (a1 : Int32) : Option (Int32) :=
Option.bind (ldA w 132 (0 : Int32)) fun v1 =>
some (fM_isBetween a1 (0 : Int32) (v1 - (1 : Int32)))
def fM_is (w : (Nat → Int32)) (a1 : Int32) : Option (Int32) :=
Option.bind (ldA w 132 ((4 : Int32) + a1)) fun v1 =>
some v1
def fM_isWeight (a0 : Int32) : Int32 :=
(fM_isBetween a0 (0 : Int32) (31 : Int32))
def fM_isRow (a0 : Int32) : Int32 :=
(fM_isBetween a0 (0 : Int32) (4 : Int32))
def fM_notInsert (reasonNow : Int32) (detailNow : Int32) (w : (Nat → Int32)) (a1 : Int32) (a2 : Int32) : Option (Int32 × Int32 × Int32) :=
Option.bind (ldA w 132 (0 : Int32)) fun v1 =>
if (fM_isBetween a1 (0 : Int32) v1) = 0 then (some ((-11 : Int32), reasonNow, detailNow))
else (if (fM_isWeight a2) = 0 then (some ((-12 : Int32), reasonNow, detailNow))
else (Option.bind (ldA w 132 (0 : Int32)) fun v4 =>
if v4 = (64 : Int32) then (Option.bind (fM_isNot reasonNow detailNow (1 : Int32) (64 : Int32)) fun t6 =>
some (t6.1, t6.2.1, t6.2.2))
else (some ((0 : Int32), reasonNow, detailNow))))
def fM_comes_7 : Nat → (Nat → Int32) → Int32 → Int32 → Int32 → Option ((Nat → Int32))
| 0, _, _, _, _ => none
| n + 1, w, a1, a2, a3 => if a3 ≤ a1 then (Option.bind (stA w 132 ((4 : Int32) + a1) a2) fun g3 =>
Option.bind (ldA g3 132 (0 : Int32)) fun v4 =>
Option.bind (stA g3 132 (0 : Int32) (v4 + (1 : Int32))) fun g5 =>
Option.bind (ldA g5 132 (1 : Int32)) fun v6 =>
Option.bind (stA g5 132 (1 : Int32) (v6 + (1 : Int32))) fun g7 =>
some g7)
else (Option.bind (ldA w 132 (((4 : Int32) + a3) - (1 : Int32))) fun v8 =>
Option.bind (stA w 132 ((4 : Int32) + a3) v8) fun g9 =>
fM_comes_7 n g9 a1 a2 (a3 + (-1 : Int32)))
def fM_comes (w : (Nat → Int32)) (a1 : Int32) (a2 : Int32) : Option ((Nat → Int32)) :=
Option.bind (ldA w 132 (0 : Int32)) fun v1 =>
fM_comes_7 FU w a1 a2 v1
def fM_put (why : Int32) (detail : Int32) (reasonNow : Int32) (detailNow : Int32) (w : (Nat → Int32)) (undos : (Nat → Int32)) (mind : (Nat → Int32)) (changes : Int32) (firstChange : Int32) (a1 : Int32) : Option (Int32 × Int32 × Int32 × Int32 × Int32 × (Nat → Int32) × (Nat → Int32) × (Nat → Int32) × Int32 × Int32) :=
Option.bind (ldA w 132 (0 : Int32)) fun v1 =>
Option.bind (fM_notInsert reasonNow detailNow w v1 a1) fun t2 =>
if t2.1 = 0 then (Option.bind (fM_remembers w undos mind changes firstChange) fun t4 =>
Option.bind (ldA w 132 (0 : Int32)) fun v5 =>
Option.bind (fM_comes w v5 a1) fun t6 =>
Option.bind (ldA t6 132 (0 : Int32)) fun v7 =>
some ((v7 - (1 : Int32)), why, detail, t2.2.1, t2.2.2, t6, t4.1, t4.2.1, t4.2.2.1, t4.2.2.2))
else (Option.bind (fM_refuses why detail t2.2.1 t2.2.2 t2.1) fun t8 =>
some (t8.1, t8.2.1, t8.2.2, t2.2.1, t2.2.2, w, undos, mind, changes, firstChange))
def fM_insert (why : Int32) (detail : Int32) (reasonNow : Int32) (detailNow : Int32) (w : (Nat → Int32)) (undos : (Nat → Int32)) (mind : (Nat → Int32)) (changes : Int32) (firstChange : Int32) (a1 : Int32) (a2 : Int32) : Option (Int32 × Int32 × Int32 × Int32 × Int32 × (Nat → Int32) × (Nat → Int32) × (Nat → Int32) × Int32 × Int32) :=
Option.bind (fM_notInsert reasonNow detailNow w a1 a2) fun t1 =>
if t1.1 = 0 then (Option.bind (fM_remembers w undos mind changes firstChange) fun t3 =>
Option.bind (fM_comes w a1 a2) fun t4 =>
Option.bind (ldA t4 132 (0 : Int32)) fun v5 =>
some (v5, why, detail, t1.2.1, t1.2.2, t4, t3.1, t3.2.1, t3.2.2.1, t3.2.2.2))
else (Option.bind (fM_refuses why detail t1.2.1 t1.2.2 t1.1) fun t6 =>
some (t6.1, t6.2.1, t6.2.2, t1.2.1, t1.2.2, w, undos, mind, changes, firstChange))
def fM_goes_28 : Nat → (Nat → Int32) → Int32 → Int32 → Option (Int32 × (Nat → Int32))
| 0, _, _, _ => none
| n + 1, w, a2, a3 => Option.bind (ldA w 132 (0 : Int32)) fun v6 =>
if v6 ≤ a3 then (Option.bind (ldA w 132 (0 : Int32)) fun v8 =>
Option.bind (stA w 132 ((4 : Int32) + v8) (0 : Int32)) fun g9 =>
some (a2, g9))
else (Option.bind (ldA w 132 (((4 : Int32) + a3) + (1 : Int32))) fun v10 =>
Option.bind (stA w 132 ((4 : Int32) + a3) v10) fun g11 =>
fM_goes_28 n g11 a2 (a3 + (1 : Int32)))
def fM_goes (w : (Nat → Int32)) (a1 : Int32) : Option (Int32 × (Nat → Int32)) :=
Option.bind (fM_is w a1) fun t1 =>
Option.bind (ldA w 132 (0 : Int32)) fun v2 =>
Option.bind (stA w 132 (0 : Int32) (v2 - (1 : Int32))) fun g3 =>
Option.bind (ldA g3 132 (2 : Int32)) fun v4 =>
Option.bind (stA g3 132 (2 : Int32) (v4 + (1 : Int32))) fun g5 =>
fM_goes_28 FU g5 t1 a1
def fM_take (w : (Nat → Int32)) (undos : (Nat → Int32)) (mind : (Nat → Int32)) (changes : Int32) (firstChange : Int32) (a1 : Int32) : Option (Int32 × (Nat → Int32) × (Nat → Int32) × (Nat → Int32) × Int32 × Int32) :=
Option.bind (fM_isLetter w a1) fun t1 =>
if t1 = 0 then (some ((-11 : Int32), w, undos, mind, changes, firstChange))
else (Option.bind (fM_remembers w undos mind changes firstChange) fun t3 =>
Option.bind (fM_goes w a1) fun t4 =>
some (t4.1, t4.2, t3.1, t3.2.1, t3.2.2.1, t3.2.2.2))
def fM_notSwap (reasonNow : Int32) (detailNow : Int32) (w : (Nat → Int32)) (a1 : Int32) : Option (Int32 × Int32 × Int32) :=
Option.bind (fM_isLetter w a1) fun t1 =>
if t1 = 0 then (some ((-11 : Int32), reasonNow, detailNow))
else (Option.bind (fM_isLetter w (a1 + (1 : Int32))) fun t3 =>
if t3 = 0 then (some ((-11 : Int32), reasonNow, detailNow))
else (Option.bind (fM_is w a1) fun t5 =>
Option.bind (fM_is w (a1 + (1 : Int32))) fun t6 =>
if t5 = t6 then (Option.bind (fM_is w a1) fun t8 =>
Option.bind (fM_isNot reasonNow detailNow (2 : Int32) t8) fun t9 =>
some (t9.1, t9.2.1, t9.2.2))
else (some ((0 : Int32), reasonNow, detailNow))))
def fM_swaps (w : (Nat → Int32)) (a1 : Int32) : Option (Int32 × (Nat → Int32)) :=
Option.bind (fM_is w a1) fun t1 =>
Option.bind (fM_is w (a1 + (1 : Int32))) fun t2 =>
Option.bind (stA w 132 ((4 : Int32) + a1) t2) fun g3 =>
Option.bind (stA g3 132 (((4 : Int32) + a1) + (1 : Int32)) t1) fun g4 =>
Option.bind (ldA g4 132 (3 : Int32)) fun v5 =>
Option.bind (stA g4 132 (3 : Int32) (v5 + (1 : Int32))) fun g6 =>
Option.bind (fM_is g6 a1) fun t7 =>
some (t7, g6)
def fM_swap (why : Int32) (detail : Int32) (reasonNow : Int32) (detailNow : Int32) (w : (Nat → Int32)) (undos : (Nat → Int32)) (mind : (Nat → Int32)) (changes : Int32) (firstChange : Int32) (a1 : Int32) : Option (Int32 × Int32 × Int32 × Int32 × Int32 × (Nat → Int32) × (Nat → Int32) × (Nat → Int32) × Int32 × Int32) :=
Option.bind (fM_notSwap reasonNow detailNow w a1) fun t1 =>
if t1.1 = 0 then (Option.bind (fM_remembers w undos mind changes firstChange) fun t3 =>
Option.bind (fM_swaps w a1) fun t4 =>
some (t4.1, why, detail, t1.2.1, t1.2.2, t4.2, t3.1, t3.2.1, t3.2.2.1, t3.2.2.2))
else (Option.bind (fM_refuses why detail t1.2.1 t1.2.2 t1.1) fun t5 =>
some (t5.1, t5.2.1, t5.2.2, t1.2.1, t1.2.2, w, undos, mind, changes, firstChange))
def fM_hasMark (w : (Nat → Int32)) (a1 : Int32) : Option (Int32) :=
Option.bind (ldA w 132 ((68 : Int32) + a1)) fun v1 =>
if v1 = (1 : Int32) then (some (1 : Int32))
else (some (0 : Int32))
def fM_marked_4 : Nat → (Nat → Int32) → Int32 → Int32 → Option (Int32)
| 0, _, _, _ => none
| n + 1, w, a1, a2 => if (64 : Int32) ≤ a2 then (some a1)
else (Option.bind (ldA w 132 ((68 : Int32) + a2)) fun v2 =>
fM_marked_4 n w (a1 + v2) (a2 + (1 : Int32)))
def fM_marked (w : (Nat → Int32)) : Option (Int32) :=
fM_marked_4 FU w (0 : Int32) (1 : Int32)
def fM_notMark (reasonNow : Int32) (detailNow : Int32) (w : (Nat → Int32)) (a1 : Int32) (a2 : Int32) : Option (Int32 × Int32 × Int32) :=
if (fM_isBetween a1 (1 : Int32) (63 : Int32)) = 0 then (some ((-11 : Int32), reasonNow, detailNow))
else (Option.bind (fM_hasMark w a1) fun t2 =>
if t2 = a2 then (Option.bind (fM_isNot reasonNow detailNow (3 : Int32) a1) fun t4 =>
some (t4.1, t4.2.1, t4.2.2))
else (some ((0 : Int32), reasonNow, detailNow)))
def fM_marks (w : (Nat → Int32)) (a1 : Int32) (a2 : Int32) : Option (Int32 × (Nat → Int32)) :=
if a2 = 0 then (Option.bind (stA w 132 ((68 : Int32) + a1) (0 : Int32)) fun g2 =>
Option.bind (fM_marked g2) fun t3 =>
some (t3, g2))
else (Option.bind (stA w 132 ((68 : Int32) + a1) (1 : Int32)) fun g4 =>
Option.bind (fM_marked g4) fun t5 =>
some (t5, g4))
def fM_mark (why : Int32) (detail : Int32) (reasonNow : Int32) (detailNow : Int32) (w : (Nat → Int32)) (undos : (Nat → Int32)) (mind : (Nat → Int32)) (changes : Int32) (firstChange : Int32) (a1 : Int32) (a2 : Int32) : Option (Int32 × Int32 × Int32 × Int32 × Int32 × (Nat → Int32) × (Nat → Int32) × (Nat → Int32) × Int32 × Int32) :=
Option.bind (fM_notMark reasonNow detailNow w a1 a2) fun t1 =>
if t1.1 = 0 then (Option.bind (fM_remembers w undos mind changes firstChange) fun t3 =>
Option.bind (fM_marks w a1 a2) fun t4 =>
some (t4.1, why, detail, t1.2.1, t1.2.2, t4.2, t3.1, t3.2.1, t3.2.2.1, t3.2.2.2))
else (Option.bind (fM_refuses why detail t1.2.1 t1.2.2 t1.1) fun t5 =>
some (t5.1, t5.2.1, t5.2.2, t1.2.1, t1.2.2, w, undos, mind, changes, firstChange))
def fM_begins (w : (Nat → Int32)) (a1 : Int32) : Option (Int32) :=
if a1 = 0 then (some (1 : Int32))
else (Option.bind (fM_hasMark w a1) fun t2 =>
if t2 = 0 then (some (0 : Int32))
else (some (1 : Int32)))
def fM_bagsUpTo_4 : Nat → (Nat → Int32) → Int32 → Int32 → Int32 → Option (Int32)
| 0, _, _, _, _ => none
| n + 1, w, a1, a2, a3 => if a1 < a3 then (some a2)
else (Option.bind (fM_begins w a3) fun t2 =>
if t2 = 0 then (fM_bagsUpTo_4 n w a1 (a2 + (0 : Int32)) (a3 + (1 : Int32)))
else (fM_bagsUpTo_4 n w a1 (a2 + (1 : Int32)) (a3 + (1 : Int32))))
def fM_bagsUpTo (w : (Nat → Int32)) (a1 : Int32) : Option (Int32) :=
fM_bagsUpTo_4 FU w a1 (0 : Int32) (0 : Int32)
def fM_bags (w : (Nat → Int32)) : Option (Int32) :=
Option.bind (ldA w 132 (0 : Int32)) fun v1 =>
Option.bind (fM_bagsUpTo w (v1 - (1 : Int32))) fun t2 =>
some t2
def fM_beginOf_2 : Nat → (Nat → Int32) → Int32 → Int32 → Option (Int32)
| 0, _, _, _ => none
| n + 1, w, a1, a2 => Option.bind (ldA w 132 (0 : Int32)) fun v1 =>
if v1 ≤ a2 then (some a2)
else (Option.bind (fM_bagsUpTo w a2) fun t3 =>
if a1 < t3 then (some a2)
else (fM_beginOf_2 n w a1 (a2 + (1 : Int32))))
def fM_beginOf (w : (Nat → Int32)) (a1 : Int32) : Option (Int32) :=
fM_beginOf_2 FU w a1 (0 : Int32)
def fM_bitOf (a0 : Int32) (a1 : Int32) : Int32 :=
((a0 >>> (((4 : Int32) - a1) &&& 31)) &&& (1 : Int32))
def fM_findsRows_51 : Nat → (Nat → Int32) → (Nat → Int32) → Int32 → Int32 → Int32 → Int32 → Int32 → Option (Int32 × (Nat → Int32))
| 0, _, _, _, _, _, _, _ => none
| n + 1, w, at_, a1, a2, a3, a4, a5 => if a1 ≤ a5 then (some (a3, at_))
else (Option.bind (ldA at_ 320 (((64 : Int32) * (a2 - (1 : Int32))) + a5)) fun v6 =>
Option.bind (fM_is w v6) fun t7 =>
if (fM_bitOf t7 (a2 - (1 : Int32))) = a4 then (Option.bind (stA at_ 320 a3 v6) fun g9 =>
fM_findsRows_51 n w g9 a1 a2 (a3 + (1 : Int32)) a4 (a5 + (1 : Int32)))
else (fM_findsRows_51 n w at_ a1 a2 a3 a4 (a5 + (1 : Int32))))
def fM_findsRows_42 : Nat → (Nat → Int32) → (Nat → Int32) → Int32 → Int32 → Int32 → Int32 → Option ((Nat → Int32))
| 0, _, _, _, _, _, _ => none
| n + 1, w, at_, a1, a2, a3, a4 => if (2 : Int32) ≤ a4 then (some at_)
else (Option.bind (fM_findsRows_51 FU w at_ a1 a2 a3 a4 (0 : Int32)) fun o10 =>
fM_findsRows_42 n w o10.2 a1 a2 o10.1 (a4 + (1 : Int32)))
def fM_findsRows_29 : Nat → (Nat → Int32) → (Nat → Int32) → Int32 → Int32 → Option ((Nat → Int32))
| 0, _, _, _, _ => none
| n + 1, w, at_, a1, a2 => if (5 : Int32) ≤ a2 then (some at_)
else (Option.bind (fM_findsRows_42 FU w at_ a1 a2 ((64 : Int32) * a2) (0 : Int32)) fun o11 =>
fM_findsRows_29 n w o11 a1 (a2 + (1 : Int32)))
def fM_findsRows_9 : Nat → (Nat → Int32) → (Nat → Int32) → Int32 → Int32 → Option ((Nat → Int32))
| 0, _, _, _, _ => none
| n + 1, w, at_, a1, a2 => if a1 ≤ a2 then (fM_findsRows_29 FU w at_ a1 (1 : Int32))
else (Option.bind (stA at_ 320 a2 a2) fun g12 =>
fM_findsRows_9 n w g12 a1 (a2 + (1 : Int32)))
def fM_findsRows (w : (Nat → Int32)) (at_ : (Nat → Int32)) : Option ((Nat → Int32)) :=
Option.bind (ldA w 132 (0 : Int32)) fun v1 =>
fM_findsRows_9 FU w at_ v1 (0 : Int32)
def fM_bitAt (w : (Nat → Int32)) (at_ : (Nat → Int32)) (a1 : Int32) (a2 : Int32) : Option (Int32) :=
Option.bind (ldA at_ 320 (((64 : Int32) * a1) + a2)) fun v1 =>
Option.bind (fM_is w v1) fun t2 =>
some (fM_bitOf t2 a1)
def fM_bit (w : (Nat → Int32)) (at_ : (Nat → Int32)) (a1 : Int32) (a2 : Int32) : Option (Int32 × (Nat → Int32)) :=
if (fM_isRow a1) = 0 then (some ((-11 : Int32), at_))
else (Option.bind (fM_isLetter w a2) fun t2 =>
if t2 = 0 then (some ((-11 : Int32), at_))
else (Option.bind (fM_findsRows w at_) fun t4 =>
Option.bind (fM_bitAt w t4 a1 a2) fun t5 =>
some (t5, t4)))
def fM_bits_25 : Nat → (Nat → Int32) → (Nat → Int32) → Int32 → Int64 → Int32 → Option (Int64 × (Nat → Int32))
| 0, _, _, _, _, _ => none
| n + 1, w, at_, a1, a2, a4 => if a4 < 0 then (some (a2, at_))
else (Option.bind (fM_bitAt w at_ a1 a4) fun t5 =>
fM_bits_25 n w at_ a1 (((2 : Int64) * a2) + t5.toInt64) (a4 + (-1 : Int32)))
def fM_bits (w : (Nat → Int32)) (at_ : (Nat → Int32)) (a1 : Int32) : Option (Int64 × (Nat → Int32)) :=
if (fM_isRow a1) = 0 then (some ((0 : Int64), at_))
else (Option.bind (fM_findsRows w at_) fun t2 =>
Option.bind (ldA w 132 (0 : Int32)) fun v3 =>
fM_bits_25 FU w t2 a1 (0 : Int64) (v3 - (1 : Int32)))
def fM_counted_6 : Nat → (Nat → Int32) → (Nat → Int32) → Int32 → Int32 → Int32 → Int32 → Int32 → Option (Int32)
| 0, _, _, _, _, _, _, _ => none
| n + 1, w, at_, a1, a2, a3, a4, a5 => if a3 ≤ a5 then (some a4)
else (Option.bind (fM_bitAt w at_ a1 a5) fun t2 =>
if t2 = a2 then (fM_counted_6 n w at_ a1 a2 a3 (a4 + (1 : Int32)) (a5 + (1 : Int32)))
else (fM_counted_6 n w at_ a1 a2 a3 (a4 + (0 : Int32)) (a5 + (1 : Int32))))
def fM_counted (w : (Nat → Int32)) (at_ : (Nat → Int32)) (a1 : Int32) (a2 : Int32) (a3 : Int32) : Option (Int32) :=
fM_counted_6 FU w at_ a1 a2 a3 (0 : Int32) (0 : Int32)
def fM_rank (w : (Nat → Int32)) (at_ : (Nat → Int32)) (a1 : Int32) (a2 : Int32) (a3 : Int32) : Option (Int32 × (Nat → Int32)) :=
if (fM_isRow a1) = 0 then (some ((-11 : Int32), at_))
else (Option.bind (ldA w 132 (0 : Int32)) fun v2 =>
if (fM_isBetween a3 (0 : Int32) v2) = 0 then (some ((-11 : Int32), at_))
else (Option.bind (fM_findsRows w at_) fun t4 =>
if a2 = 0 then (Option.bind (fM_counted w t4 a1 (0 : Int32) a3) fun t6 =>
some (t6, t4))
else (Option.bind (fM_counted w t4 a1 (1 : Int32) a3) fun t7 =>
some (t7, t4))))
def fM_rankAgain (w : (Nat → Int32)) (at_ : (Nat → Int32)) (a1 : Int32) (a2 : Int32) (a3 : Int32) : Option (Int32 × (Nat → Int32)) :=
if (fM_isRow a1) = 0 then (some ((-11 : Int32), at_))
else (Option.bind (ldA w 132 (0 : Int32)) fun v2 =>
if (fM_isBetween a3 (0 : Int32) v2) = 0 then (some ((-11 : Int32), at_))
else (Option.bind (fM_findsRows w at_) fun t4 =>
Option.bind (fM_counted w t4 a1 (1 : Int32) a3) fun t5 =>
if a2 = 0 then (some ((a3 - t5), t4))
else (some (t5, t4))))
def fM_select_17 : Nat → (Nat → Int32) → (Nat → Int32) → Int32 → Int32 → Int32 → Int32 → Option (Int32 × (Nat → Int32))
| 0, _, _, _, _, _, _ => none
| n + 1, w, at_, a1, a2, a3, a4 => Option.bind (ldA w 132 (0 : Int32)) fun v3 =>
if v3 ≤ a4 then (some ((-15 : Int32), at_))
else (Option.bind (fM_bitAt w at_ a1 a4) fun t5 =>
if a2 = 0 then (if t5 = (0 : Int32) then (if a2 = 0 then (Option.bind (fM_counted w at_ a1 (0 : Int32) a4) fun t9 =>
if t9 = a3 then (some (a4, at_))
else (fM_select_17 n w at_ a1 a2 a3 (a4 + (1 : Int32))))
else (Option.bind (fM_counted w at_ a1 (1 : Int32) a4) fun t11 =>
if t11 = a3 then (some (a4, at_))
else (fM_select_17 n w at_ a1 a2 a3 (a4 + (1 : Int32)))))
else (fM_select_17 n w at_ a1 a2 a3 (a4 + (1 : Int32))))
else (if t5 = (1 : Int32) then (if a2 = 0 then (Option.bind (fM_counted w at_ a1 (0 : Int32) a4) fun t15 =>
if t15 = a3 then (some (a4, at_))
else (fM_select_17 n w at_ a1 a2 a3 (a4 + (1 : Int32))))
else (Option.bind (fM_counted w at_ a1 (1 : Int32) a4) fun t17 =>
if t17 = a3 then (some (a4, at_))
else (fM_select_17 n w at_ a1 a2 a3 (a4 + (1 : Int32)))))
else (fM_select_17 n w at_ a1 a2 a3 (a4 + (1 : Int32)))))
def fM_select (w : (Nat → Int32)) (at_ : (Nat → Int32)) (a1 : Int32) (a2 : Int32) (a3 : Int32) : Option (Int32 × (Nat → Int32)) :=
if (fM_isRow a1) = 0 then (some ((-11 : Int32), at_))
else (Option.bind (fM_findsRows w at_) fun t2 =>
fM_select_17 FU w t2 a1 a2 a3 (0 : Int32))
def fM_standsIn_2 : Nat → (Nat → Int32) → Int32 → Int32 → Int32 → Option (Int32)
| 0, _, _, _, _ => none
| n + 1, at_, a1, a2, a3 => Option.bind (ldA at_ 320 (((64 : Int32) * a1) + a3)) fun v1 =>
if v1 = a2 then (some a3)
else (fM_standsIn_2 n at_ a1 a2 (a3 + (1 : Int32)))
def fM_standsIn (at_ : (Nat → Int32)) (a1 : Int32) (a2 : Int32) : Option (Int32) :=
fM_standsIn_2 FU at_ a1 a2 (0 : Int32)
def fM_placeIn (w : (Nat → Int32)) (at_ : (Nat → Int32)) (a1 : Int32) (a2 : Int32) : Option (Int32 × (Nat → Int32)) :=
if (fM_isRow a1) = 0 then (some ((-11 : Int32), at_))
else (Option.bind (fM_isLetter w a2) fun t2 =>
if t2 = 0 then (some ((-11 : Int32), at_))
else (Option.bind (fM_findsRows w at_) fun t4 =>
Option.bind (fM_standsIn t4 a1 a2) fun t5 =>
some (t5, t4)))
def fM_weight (w : (Nat → Int32)) (a1 : Int32) : Option (Int32) :=
Option.bind (fM_isLetter w a1) fun t1 =>
if t1 = 0 then (some (-11 : Int32))
else (Option.bind (fM_is w a1) fun t3 =>
some t3)
def fM_byBits_4 : Nat → (Nat → Int32) → (Nat → Int32) → Int32 → Int32 → Int32 → Option (Int32)
| 0, _, _, _, _, _ => none
| n + 1, w, at_, a1, a2, a3 => if (5 : Int32) ≤ a3 then (some a2)
else (Option.bind (fM_standsIn at_ a3 a1) fun t2 =>
Option.bind (fM_bitAt w at_ a3 t2) fun t3 =>
fM_byBits_4 n w at_ a1 (((2 : Int32) * a2) + t3) (a3 + (1 : Int32)))
def fM_byBits (w : (Nat → Int32)) (at_ : (Nat → Int32)) (a1 : Int32) : Option (Int32) :=
fM_byBits_4 FU w at_ a1 (0 : Int32) (0 : Int32)
def fM_weightAgain (w : (Nat → Int32)) (at_ : (Nat → Int32)) (a1 : Int32) : Option (Int32 × (Nat → Int32)) :=
Option.bind (fM_isLetter w a1) fun t1 =>
if t1 = 0 then (some ((-11 : Int32), at_))
else (Option.bind (fM_findsRows w at_) fun t3 =>
Option.bind (fM_byBits w t3 a1) fun t4 =>
some (t4, t3))
def fM_isPart (w : (Nat → Int32)) (a1 : Int32) (a2 : Int32) : Option (Int32) :=
if a1 < (0 : Int32) then (some (0 : Int32))
else (if a2 < a1 then (some (0 : Int32))
else (Option.bind (ldA w 132 (0 : Int32)) fun v3 =>
if v3 < a2 then (some (0 : Int32))
else (some (1 : Int32))))
def fM_having_6 : Nat → (Nat → Int32) → Int32 → Int32 → Int32 → Int32 → Option (Int32)
| 0, _, _, _, _, _ => none
| n + 1, w, a2, a3, a4, a5 => if a2 ≤ a5 then (some a4)
else (Option.bind (fM_is w a5) fun t2 =>
if t2 = a3 then (fM_having_6 n w a2 a3 (a4 + (1 : Int32)) (a5 + (1 : Int32)))
else (fM_having_6 n w a2 a3 (a4 + (0 : Int32)) (a5 + (1 : Int32))))
def fM_having (w : (Nat → Int32)) (a1 : Int32) (a2 : Int32) (a3 : Int32) : Option (Int32) :=
fM_having_6 FU w a2 a3 (0 : Int32) a1
def fM_below_6 : Nat → (Nat → Int32) → Int32 → Int32 → Int32 → Int32 → Option (Int32)
| 0, _, _, _, _, _ => none
| n + 1, w, a2, a3, a4, a5 => if a2 ≤ a5 then (some a4)
else (Option.bind (fM_is w a5) fun t2 =>
if a3 ≤ t2 then (fM_below_6 n w a2 a3 (a4 + (0 : Int32)) (a5 + (1 : Int32)))
else (fM_below_6 n w a2 a3 (a4 + (1 : Int32)) (a5 + (1 : Int32))))
def fM_below (w : (Nat → Int32)) (a1 : Int32) (a2 : Int32) (a3 : Int32) : Option (Int32) :=
fM_below_6 FU w a2 a3 (0 : Int32) a1
def fM_bySize_3 : Nat → (Nat → Int32) → Int32 → Int32 → Int32 → Int32 → Option (Int32)
| 0, _, _, _, _, _ => none
| n + 1, w, a1, a2, a3, a4 => Option.bind (fM_below w a1 a2 (a4 + (1 : Int32))) fun t1 =>
if a3 < t1 then (some a4)
else (fM_bySize_3 n w a1 a2 a3 (a4 + (1 : Int32)))
def fM_bySize (w : (Nat → Int32)) (a1 : Int32) (a2 : Int32) (a3 : Int32) : Option (Int32) :=
fM_bySize_3 FU w a1 a2 a3 (0 : Int32)
def fM_isSized (w : (Nat → Int32)) (a1 : Int32) (a2 : Int32) (a3 : Int32) : Option (Int32) :=
Option.bind (fM_isPart w a1 a2) fun t1 =>
if t1 = 0 then (some (0 : Int32))
else (if (fM_isBetween a3 (0 : Int32) ((a2 - a1) - (1 : Int32))) = 0 then (some (0 : Int32))
else (some (1 : Int32)))
def fM_quantile (w : (Nat → Int32)) (a1 : Int32) (a2 : Int32) (a3 : Int32) : Option (Int32) :=
Option.bind (fM_isSized w a1 a2 a3) fun t1 =>
if t1 = 0 then (some (-11 : Int32))
else (Option.bind (fM_bySize w a1 a2 a3) fun t3 =>
some t3)
def fM_bySizeAgain_3 : Nat → (Nat → Int32) → Int32 → Int32 → Int32 → Int32 → Option (Int32)
| 0, _, _, _, _, _ => none
| n + 1, w, a1, a2, a3, a4 => if a2 ≤ a4 then (some (-11 : Int32))
else (Option.bind (fM_is w a4) fun t2 =>
Option.bind (fM_below w a1 a2 t2) fun t3 =>
Option.bind (fM_is w a4) fun t4 =>
Option.bind (fM_having w a1 a4 t4) fun t5 =>
if (t3 + t5) = a3 then (Option.bind (fM_is w a4) fun t7 =>
some t7)
else (fM_bySizeAgain_3 n w a1 a2 a3 (a4 + (1 : Int32))))
def fM_bySizeAgain (w : (Nat → Int32)) (a1 : Int32) (a2 : Int32) (a3 : Int32) : Option (Int32) :=
fM_bySizeAgain_3 FU w a1 a2 a3 a1
def fM_quantileAgain (w : (Nat → Int32)) (a1 : Int32) (a2 : Int32) (a3 : Int32) : Option (Int32) :=
Option.bind (fM_isSized w a1 a2 a3) fun t1 =>
if t1 = 0 then (some (-11 : Int32))
else (Option.bind (fM_bySizeAgain w a1 a2 a3) fun t3 =>
some t3)
def fM_count (w : (Nat → Int32)) (a1 : Int32) (a2 : Int32) (a3 : Int32) : Option (Int32) :=
Option.bind (fM_isPart w a1 a2) fun t1 =>
if t1 = 0 then (some (-11 : Int32))
else (if (fM_isWeight a3) = 0 then (some (-12 : Int32))
else (Option.bind (fM_having w a1 a2 a3) fun t4 =>
some t4))
def fM_lighter (w : (Nat → Int32)) (a1 : Int32) (a2 : Int32) (a3 : Int32) : Option (Int32) :=
Option.bind (fM_isPart w a1 a2) fun t1 =>
if t1 = 0 then (some (-11 : Int32))
else (if (fM_isWeight a3) = 0 then (some (-12 : Int32))
else (Option.bind (fM_below w a1 a2 a3) fun t4 =>
some t4))
def fM_atLeast_25 : Nat → (Nat → Int32) → Int32 → Int32 → Int32 → Option (Int32)
| 0, _, _, _, _ => none
| n + 1, w, a1, a2, a4 => if (31 : Int32) < a4 then (some (-15 : Int32))
else (Option.bind (fM_having w a1 a2 a4) fun t5 =>
if t5 ≤ 0 then (fM_atLeast_25 n w a1 a2 (a4 + (1 : Int32)))
else (some a4))
def fM_atLeast (w : (Nat → Int32)) (a1 : Int32) (a2 : Int32) (a3 : Int32) : Option (Int32) :=
Option.bind (fM_isPart w a1 a2) fun t1 =>
if t1 = 0 then (some (-11 : Int32))
else (if (fM_isWeight a3) = 0 then (some (-12 : Int32))
else (fM_atLeast_25 FU w a1 a2 a3))
def fM_find_12 : Nat → (Nat → Int32) → Int32 → Int32 → Int32 → Option (Int32)
| 0, _, _, _, _ => none
| n + 1, w, a1, a2, a3 => Option.bind (ldA w 132 (0 : Int32)) fun v2 =>
if v2 ≤ a3 then (some (-15 : Int32))
else (Option.bind (fM_is w a3) fun t4 =>
if t4 = a1 then (Option.bind (fM_having w (0 : Int32) a3 a1) fun t6 =>
if t6 = a2 then (some a3)
else (fM_find_12 n w a1 a2 (a3 + (1 : Int32))))
else (fM_find_12 n w a1 a2 (a3 + (1 : Int32))))
def fM_find (w : (Nat → Int32)) (a1 : Int32) (a2 : Int32) : Option (Int32) :=
if (fM_isWeight a1) = 0 then (some (-12 : Int32))
else (fM_find_12 FU w a1 a2 (0 : Int32))
def fM_common_46 : Nat → (Nat → Int32) → Int32 → Int32 → Int32 → Int32 → Int32 → Int32 → Int32 → Option (Int32)
| 0, _, _, _, _, _, _, _, _ => none
| n + 1, w, a1, a2, a3, a4, a5, a6, a7 => if (31 : Int32) < a7 then (some a6)
else (Option.bind (fM_having w a1 a2 a7) fun t7 =>
if a5 < t7 then (fM_common_46 n w a1 a2 a3 a4 a5 (a6 + (1 : Int32)) (a7 + (1 : Int32)))
else (if t7 = a5 then (if a4 ≤ a7 then (fM_common_46 n w a1 a2 a3 a4 a5 (a6 + (0 : Int32)) (a7 + (1 : Int32)))
else (fM_common_46 n w a1 a2 a3 a4 a5 (a6 + (1 : Int32)) (a7 + (1 : Int32))))
else (fM_common_46 n w a1 a2 a3 a4 a5 (a6 + (0 : Int32)) (a7 + (1 : Int32)))))
def fM_common_15 : Nat → (Nat → Int32) → Int32 → Int32 → Int32 → Int32 → Option (Int32)
| 0, _, _, _, _, _ => none
| n + 1, w, a1, a2, a3, a4 => if (31 : Int32) < a4 then (some (-11 : Int32))
else (Option.bind (fM_having w a1 a2 a4) fun t4 =>
if t4 = 0 then (fM_common_15 n w a1 a2 a3 (a4 + (1 : Int32)))
else (Option.bind (fM_common_46 FU w a1 a2 a3 a4 t4 (0 : Int32) (0 : Int32)) fun o11 =>
if o11 = a3 then (some a4)
else (fM_common_15 n w a1 a2 a3 (a4 + (1 : Int32)))))
def fM_common (w : (Nat → Int32)) (a1 : Int32) (a2 : Int32) (a3 : Int32) : Option (Int32) :=
Option.bind (fM_isPart w a1 a2) fun t1 =>
if t1 = 0 then (some (-11 : Int32))
else (fM_common_15 FU w a1 a2 a3 (0 : Int32))
def fM_unlike_5 : Nat → (Nat → Int32) → Int32 → Int32 → Int32 → Int32 → Option (Int32)
| 0, _, _, _, _, _ => none
| n + 1, w, a1, a2, a3, a4 => if (31 : Int32) < a4 then (some a3)
else (Option.bind (fM_having w a1 a2 a4) fun t2 =>
if t2 ≤ 0 then (fM_unlike_5 n w a1 a2 (a3 + (0 : Int32)) (a4 + (1 : Int32)))
else (fM_unlike_5 n w a1 a2 (a3 + (1 : Int32)) (a4 + (1 : Int32))))
def fM_unlike (w : (Nat → Int32)) (a1 : Int32) (a2 : Int32) : Option (Int32) :=
fM_unlike_5 FU w a1 a2 (0 : Int32) (0 : Int32)
def fM_sum_5 : Nat → (Nat → Int32) → Int32 → Int32 → Int32 → Option (Int32)
| 0, _, _, _, _ => none
| n + 1, w, a2, a3, a4 => if a2 ≤ a4 then (some a3)
else (Option.bind (fM_is w a4) fun t2 =>
fM_sum_5 n w a2 (a3 + t2) (a4 + (1 : Int32)))
def fM_sum (w : (Nat → Int32)) (a1 : Int32) (a2 : Int32) : Option (Int32) :=
fM_sum_5 FU w a2 (0 : Int32) a1
def fM_median (w : (Nat → Int32)) (a1 : Int32) (a2 : Int32) : Option (Int32) :=
if ((a2 - a1) - (a2 - a1) / (2 : Int32) * (2 : Int32)) = 0 then (Option.bind (fM_bySize w a1 a2 (((a2 - a1) / (2 : Int32)) - (1 : Int32))) fun t3 =>
some t3)
else (Option.bind (fM_bySize w a1 a2 ((a2 - a1) / (2 : Int32))) fun t2 =>
some t2)
def fM_bagOf (w : (Nat → Int32)) (a1 : Int32) (a2 : Int32) : Option (Int32) :=
Option.bind (fM_bags w) fun t1 =>
if (fM_isBetween a1 (0 : Int32) (t1 - (1 : Int32))) = 0 then (some (-11 : Int32))
else (Option.bind (fM_beginOf w a1) fun t3 =>
Option.bind (fM_beginOf w (a1 + (1 : Int32))) fun t4 =>
if a2 = (0 : Int32) then (some t3)
else (if a2 = (1 : Int32) then (some (t4 - t3))
else (if a2 = (2 : Int32) then (Option.bind (fM_sum w t3 t4) fun t5 =>
some t5)
else (if a2 = (3 : Int32) then (Option.bind (fM_median w t3 t4) fun t6 =>
some t6)
else (if a2 = (4 : Int32) then (Option.bind (fM_bySize w t3 t4 ((t4 - t3) - (1 : Int32))) fun t7 =>
some t7)
else (if a2 = (5 : Int32) then (Option.bind (fM_unlike w t3 t4) fun t8 =>
some t8)
else (some (-12 : Int32))))))))
def fM_bagAt (w : (Nat → Int32)) (a1 : Int32) : Option (Int32) :=
Option.bind (fM_isLetter w a1) fun t1 =>
if t1 = 0 then (some (-11 : Int32))
else (Option.bind (fM_bagsUpTo w a1) fun t3 =>
some (t3 - (1 : Int32)))
def fM_sumOf (w : (Nat → Int32)) (a1 : Int32) : Option (Int32) :=
Option.bind (fM_beginOf w a1) fun t1 =>
Option.bind (fM_beginOf w (a1 + (1 : Int32))) fun t2 =>
Option.bind (fM_sum w t1 t2) fun t3 =>
some t3
def fM_sizeOf (w : (Nat → Int32)) (a1 : Int32) : Option (Int32) :=
Option.bind (fM_beginOf w (a1 + (1 : Int32))) fun t1 =>
Option.bind (fM_beginOf w a1) fun t2 =>
some (t1 - t2)
def fM_isAhead (w : (Nat → Int32)) (a1 : Int32) (a2 : Int32) : Option (Int32) :=
Option.bind (fM_sumOf w a1) fun t1 =>
Option.bind (fM_sumOf w a2) fun t2 =>
if t1 = t2 then (Option.bind (fM_sizeOf w a1) fun t4 =>
Option.bind (fM_sizeOf w a2) fun t5 =>
if t4 = t5 then (if a2 ≤ a1 then (some (0 : Int32))
else (some (1 : Int32)))
else (Option.bind (fM_sizeOf w a1) fun t8 =>
Option.bind (fM_sizeOf w a2) fun t9 =>
if t9 ≤ t8 then (some (0 : Int32))
else (some (1 : Int32))))
else (Option.bind (fM_sumOf w a1) fun t11 =>
Option.bind (fM_sumOf w a2) fun t12 =>
if t11 ≤ t12 then (some (0 : Int32))
else (some (1 : Int32)))
def fM_ranked_18 : Nat → (Nat → Int32) → Int32 → Int32 → Int32 → Int32 → Int32 → Option (Int32)
| 0, _, _, _, _, _, _ => none
| n + 1, w, a1, a2, a3, a4, a5 => if a2 ≤ a5 then (some a4)
else (Option.bind (fM_isAhead w a5 a3) fun t4 =>
if t4 = 0 then (fM_ranked_18 n w a1 a2 a3 (a4 + (0 : Int32)) (a5 + (1 : Int32)))
else (fM_ranked_18 n w a1 a2 a3 (a4 + (1 : Int32)) (a5 + (1 : Int32))))
def fM_ranked_7 : Nat → (Nat → Int32) → Int32 → Int32 → Int32 → Option (Int32)
| 0, _, _, _, _ => none
| n + 1, w, a1, a2, a3 => if a2 ≤ a3 then (some (-11 : Int32))
else (Option.bind (fM_ranked_18 FU w a1 a2 a3 (0 : Int32) (0 : Int32)) fun o6 =>
if o6 = a1 then (some a3)
else (fM_ranked_7 n w a1 a2 (a3 + (1 : Int32))))
def fM_ranked (w : (Nat → Int32)) (a1 : Int32) : Option (Int32) :=
Option.bind (fM_bags w) fun t1 =>
fM_ranked_7 FU w a1 t1 (0 : Int32)
def fM_writes (line_ : (Nat → Int32)) (lineLength : Int32) (a1 : Int32) : Option ((Nat → Int32) × Int32) :=
Option.bind (stA line_ 140 lineLength ((a1.toUInt32 % 65536).toInt32)) fun g1 =>
some (g1, (lineLength + (1 : Int32)))
def fM_tell_7 : Nat → (Nat → Int32) → (Nat → Int32) → Int32 → Int32 → Option (Int32 × (Nat → Int32) × Int32)
| 0, _, _, _, _ => none
| n + 1, w, line_, lineLength, a1 => Option.bind (ldA w 132 (0 : Int32)) fun v1 =>
if v1 ≤ a1 then (some (lineLength, line_, lineLength))
else (if a1 ≤ 0 then (Option.bind (fM_is w a1) fun t4 =>
if (10 : Int32) ≤ t4 then (Option.bind (fM_is w a1) fun t6 =>
Option.bind (fM_writes line_ lineLength (((97 : Int32) + t6) - (10 : Int32))) fun t7 =>
fM_tell_7 n w t7.1 t7.2 (a1 + (1 : Int32)))
else (Option.bind (fM_is w a1) fun t8 =>
Option.bind (fM_writes line_ lineLength ((48 : Int32) + t8)) fun t9 =>
fM_tell_7 n w t9.1 t9.2 (a1 + (1 : Int32))))
else (Option.bind (fM_begins w a1) fun t10 =>
if t10 = 0 then (Option.bind (fM_is w a1) fun t12 =>
if (10 : Int32) ≤ t12 then (Option.bind (fM_is w a1) fun t14 =>
Option.bind (fM_writes line_ lineLength (((97 : Int32) + t14) - (10 : Int32))) fun t15 =>
fM_tell_7 n w t15.1 t15.2 (a1 + (1 : Int32)))
else (Option.bind (fM_is w a1) fun t16 =>
Option.bind (fM_writes line_ lineLength ((48 : Int32) + t16)) fun t17 =>
fM_tell_7 n w t17.1 t17.2 (a1 + (1 : Int32))))
else (Option.bind (fM_writes line_ lineLength (124 : Int32)) fun t18 =>
Option.bind (fM_is w a1) fun t19 =>
if (10 : Int32) ≤ t19 then (Option.bind (fM_is w a1) fun t21 =>
Option.bind (fM_writes t18.1 t18.2 (((97 : Int32) + t21) - (10 : Int32))) fun t22 =>
fM_tell_7 n w t22.1 t22.2 (a1 + (1 : Int32)))
else (Option.bind (fM_is w a1) fun t23 =>
Option.bind (fM_writes t18.1 t18.2 ((48 : Int32) + t23)) fun t24 =>
fM_tell_7 n w t24.1 t24.2 (a1 + (1 : Int32))))))
def fM_tell (w : (Nat → Int32)) (line_ : (Nat → Int32)) (lineLength : Int32) : Option (Int32 × (Nat → Int32) × Int32) :=
fM_tell_7 FU w line_ (0 : Int32) (0 : Int32)
def fM_tellRow_21 : Nat → (Nat → Int32) → (Nat → Int32) → (Nat → Int32) → Int32 → Int32 → Int32 → Option (Int32 × (Nat → Int32) × (Nat → Int32) × Int32)
| 0, _, _, _, _, _, _ => none
| n + 1, w, at_, line_, lineLength, a1, a2 => Option.bind (ldA w 132 (0 : Int32)) fun v3 =>
if v3 ≤ a2 then (some (lineLength, at_, line_, lineLength))
else (if a2 ≤ 0 then (Option.bind (fM_bitAt w at_ a1 a2) fun t6 =>
Option.bind (fM_writes line_ lineLength ((48 : Int32) + t6)) fun t7 =>
fM_tellRow_21 n w at_ t7.1 t7.2 a1 (a2 + (1 : Int32)))
else (if (a2 - a2 / (8 : Int32) * (8 : Int32)) = 0 then (Option.bind (fM_writes line_ lineLength (32 : Int32)) fun t11 =>
Option.bind (fM_bitAt w at_ a1 a2) fun t12 =>
Option.bind (fM_writes t11.1 t11.2 ((48 : Int32) + t12)) fun t13 =>
fM_tellRow_21 n w at_ t13.1 t13.2 a1 (a2 + (1 : Int32)))
else (Option.bind (fM_bitAt w at_ a1 a2) fun t9 =>
Option.bind (fM_writes line_ lineLength ((48 : Int32) + t9)) fun t10 =>
fM_tellRow_21 n w at_ t10.1 t10.2 a1 (a2 + (1 : Int32)))))
def fM_tellRow (w : (Nat → Int32)) (at_ : (Nat → Int32)) (line_ : (Nat → Int32)) (lineLength : Int32) (a1 : Int32) : Option (Int32 × (Nat → Int32) × (Nat → Int32) × Int32) :=
if (fM_isRow a1) = 0 then (some ((-11 : Int32), at_, line_, lineLength))
else (Option.bind (fM_findsRows w at_) fun t2 =>
fM_tellRow_21 FU w t2 line_ (0 : Int32) a1 (0 : Int32))
def fM_character (line_ : (Nat → Int32)) (lineLength : Int32) (a1 : Int32) : Option (Int32) :=
if (fM_isBetween a1 (0 : Int32) (lineLength - (1 : Int32))) = 0 then (some (-11 : Int32))
else (Option.bind (ldA line_ 140 a1) fun v2 =>
some v2)
def fM_ones_8 : Nat → (Nat → Int32) → (Nat → Int32) → Int32 → Int32 → Option (Int32 × (Nat → Int32))
| 0, _, _, _, _ => none
| n + 1, w, at_, a1, a2 => if (5 : Int32) ≤ a2 then (some (a1, at_))
else (Option.bind (ldA w 132 (0 : Int32)) fun v3 =>
Option.bind (fM_counted w at_ a2 (1 : Int32) v3) fun t4 =>
fM_ones_8 n w at_ (a1 + t4) (a2 + (1 : Int32)))
def fM_ones (w : (Nat → Int32)) (at_ : (Nat → Int32)) : Option (Int32 × (Nat → Int32)) :=
Option.bind (fM_findsRows w at_) fun t1 =>
fM_ones_8 FU w t1 (0 : Int32) (0 : Int32)
def fM_account (w : (Nat → Int32)) (changes : Int32) (at_ : (Nat → Int32)) (length : Int32) (a1 : Int32) : Option (Int32 × (Nat → Int32)) :=
if a1 = (0 : Int32) then (Option.bind (ldA w 132 (0 : Int32)) fun v1 =>
some (v1, at_))
else (if a1 = (1 : Int32) then (Option.bind (ldA w 132 (0 : Int32)) fun v2 =>
Option.bind (fM_sum w (0 : Int32) v2) fun t3 =>
some (t3, at_))
else (if a1 = (2 : Int32) then (Option.bind (ldA w 132 (1 : Int32)) fun v4 =>
some (v4, at_))
else (if a1 = (3 : Int32) then (Option.bind (ldA w 132 (2 : Int32)) fun v5 =>
some (v5, at_))
else (if a1 = (4 : Int32) then (Option.bind (fM_bags w) fun t6 =>
some (t6, at_))
else (if a1 = (5 : Int32) then (Option.bind (fM_marked w) fun t7 =>
some (t7, at_))
else (if a1 = (6 : Int32) then (Option.bind (ldA w 132 (0 : Int32)) fun v8 =>
Option.bind (fM_unlike w (0 : Int32) v8) fun t9 =>
some (t9, at_))
else (if a1 = (7 : Int32) then (Option.bind (ldA w 132 (3 : Int32)) fun v10 =>
some (v10, at_))
else (if a1 = (8 : Int32) then (Option.bind (fM_ones w at_) fun t11 =>
some (t11.1, t11.2))
else (if a1 = (9 : Int32) then (some (length, at_))
else (if a1 = (10 : Int32) then (some (changes, at_))
else (some ((-12 : Int32), at_))))))))))))
def fM_isBalanced_104 : Nat → (Nat → Int32) → (Nat → Int32) → Int32 → Int32 → Int32 → Option (Int32 × (Nat → Int32))
| 0, _, _, _, _, _ => none
| n + 1, w, at_, a1, a2, a3 => Option.bind (fM_bags w) fun t8 =>
if t8 ≤ a3 then (if a1 = 0 then (some ((0 : Int32), at_))
else (Option.bind (ldA w 132 (0 : Int32)) fun v11 =>
if a2 = v11 then (some ((1 : Int32), at_))
else (some ((0 : Int32), at_))))
else (Option.bind (fM_sizeOf w a3) fun t13 =>
fM_isBalanced_104 n w at_ a1 (a2 + t13) (a3 + (1 : Int32)))
def fM_isBalanced_36 : Nat → (Nat → Int32) → (Nat → Int32) → Int32 → Int32 → Int32 → Option (Int32 × (Nat → Int32))
| 0, _, _, _, _, _ => none
| n + 1, w, at_, a1, a2, a3 => Option.bind (ldA w 132 (0 : Int32)) fun v6 =>
if v6 ≤ a3 then (fM_isBalanced_104 FU w at_ a1 a2 (0 : Int32))
else (if a1 = 0 then (fM_isBalanced_36 n w at_ (0 : Int32) a2 (a3 + (1 : Int32)))
else (Option.bind (fM_byBits w at_ a3) fun t15 =>
Option.bind (fM_is w a3) fun t16 =>
if t15 = t16 then (Option.bind (ldA w 132 (0 : Int32)) fun v18 =>
Option.bind (fM_bySize w (0 : Int32) v18 a3) fun t19 =>
Option.bind (ldA w 132 (0 : Int32)) fun v20 =>
Option.bind (fM_bySizeAgain w (0 : Int32) v20 a3) fun t21 =>
if t19 = t21 then (fM_isBalanced_36 n w at_ (1 : Int32) a2 (a3 + (1 : Int32)))
else (fM_isBalanced_36 n w at_ (0 : Int32) a2 (a3 + (1 : Int32))))
else (fM_isBalanced_36 n w at_ (0 : Int32) a2 (a3 + (1 : Int32)))))
def fM_isBalanced (w : (Nat → Int32)) (at_ : (Nat → Int32)) : Option (Int32 × (Nat → Int32)) :=
Option.bind (fM_findsRows w at_) fun t1 =>
Option.bind (ldA w 132 (0 : Int32)) fun v2 =>
Option.bind (ldA w 132 (1 : Int32)) fun v3 =>
Option.bind (ldA w 132 (2 : Int32)) fun v4 =>
if v2 = (v3 - v4) then (fM_isBalanced_36 FU w t1 (1 : Int32) (0 : Int32) (0 : Int32))
else (fM_isBalanced_36 FU w t1 (0 : Int32) (0 : Int32) (0 : Int32))
def fM_meanWeight (w : (Nat → Int32)) : Option (UInt64) :=
Option.bind (ldA w 132 (0 : Int32)) fun v1 =>
if v1 = 0 then (some FP.dconst0)
else (Option.bind (ldA w 132 (0 : Int32)) fun v3 =>
Option.bind (fM_sum w (0 : Int32) v3) fun t4 =>
Option.bind (ldA w 132 (0 : Int32)) fun v5 =>
Option.bind (dvD (FP.i2d t4) (FP.i2d v5)) fun w6 =>
some w6)
def fM_oneShare (w : (Nat → Int32)) (at_ : (Nat → Int32)) (a1 : Int32) : Option (UInt32 × (Nat → Int32)) :=
if (fM_isRow a1) = 0 then (some (FP.fconst0, at_))
else (Option.bind (ldA w 132 (0 : Int32)) fun v2 =>
if v2 = 0 then (some (FP.fconst0, at_))
else (Option.bind (fM_findsRows w at_) fun t4 =>
Option.bind (ldA w 132 (0 : Int32)) fun v5 =>
Option.bind (fM_counted w t4 a1 (1 : Int32) v5) fun t6 =>
Option.bind (ldA w 132 (0 : Int32)) fun v7 =>
Option.bind (dvF (FP.i2f t6) (FP.i2f v7)) fun w8 =>
some (w8, t4)))
def fM_append (text : (Nat → Int32)) (length : Int32) (a1 : Int32) : Option (Int32 × (Nat → Int32) × Int32) :=
if (fM_isBetween a1 (32 : Int32) (126 : Int32)) = 0 then (some ((-12 : Int32), text, length))
else (if length = (60 : Int32) then (some ((-13 : Int32), text, length))
else (Option.bind (stA text 60 length ((a1.toUInt32 % 65536).toInt32)) fun g3 =>
some ((length + (1 : Int32)), g3, (length + (1 : Int32)))))
def fM_sign (text : (Nat → Int32)) (length : Int32) (next : Int32) : Option (Int32) :=
if length ≤ next then (some (-1 : Int32))
else (Option.bind (ldA text 60 next) fun v2 =>
some v2)
def fM_reads (text : (Nat → Int32)) (length : Int32) (next : Int32) (a1 : Int32) : Option (Int32 × Int32) :=
Option.bind (fM_sign text length next) fun t1 =>
if t1 = a1 then (some ((1 : Int32), (next + (1 : Int32))))
else (some ((0 : Int32), next))
def fM_readsDigit (text : (Nat → Int32)) (length : Int32) (next : Int32) (numbers : (Nat → Int32)) (a1 : Int32) : Option (Int32 × Int32 × (Nat → Int32)) :=
Option.bind (fM_sign text length next) fun t1 =>
if (fM_isBetween t1 (48 : Int32) (57 : Int32)) = 0 then (some ((0 : Int32), next, numbers))
else (Option.bind (fM_sign text length next) fun t3 =>
Option.bind (stA numbers 2 a1 (t3 - (48 : Int32))) fun g4 =>
some ((1 : Int32), (next + (1 : Int32)), g4))
def fM_readsNumber (text : (Nat → Int32)) (length : Int32) (next : Int32) (numbers : (Nat → Int32)) (a1 : Int32) : Option (Int32 × Int32 × (Nat → Int32)) :=
Option.bind (fM_reads text length next (32 : Int32)) fun t1 =>
if t1.1 = 0 then (some ((0 : Int32), t1.2, numbers))
else (Option.bind (fM_readsDigit text length t1.2 numbers a1) fun t3 =>
if t3.1 = 0 then (some ((0 : Int32), t3.2.1, t3.2.2))
else (Option.bind (ldA t3.2.2 2 a1) fun v5 =>
Option.bind (fM_readsDigit text length t3.2.1 t3.2.2 a1) fun t6 =>
if t6.1 = 0 then (some ((1 : Int32), t6.2.1, t6.2.2))
else (Option.bind (ldA t6.2.2 2 a1) fun v8 =>
Option.bind (stA t6.2.2 2 a1 (v8 + ((10 : Int32) * v5))) fun g9 =>
some ((1 : Int32), t6.2.1, g9))))
def fM_readsOrder (text : (Nat → Int32)) (length : Int32) (next : Int32) (numbers : (Nat → Int32)) (sort : Int32) : Option (Int32 × Int32 × (Nat → Int32) × Int32) :=
Option.bind (fM_sign text length next) fun t1 =>
if t1 = (99 : Int32) then (Option.bind (fM_reads text length (next + (1 : Int32)) (108 : Int32)) fun t2 =>
if t2.1 = 0 then (some ((0 : Int32), t2.2, numbers, t1))
else (Option.bind (fM_reads text length t2.2 (101 : Int32)) fun t4 =>
if t4.1 = 0 then (some ((0 : Int32), t4.2, numbers, t1))
else (Option.bind (fM_reads text length t4.2 (97 : Int32)) fun t6 =>
if t6.1 = 0 then (some ((0 : Int32), t6.2, numbers, t1))
else (Option.bind (fM_reads text length t6.2 (114 : Int32)) fun t8 =>
if t8.1 = 0 then (some ((0 : Int32), t8.2, numbers, t1))
else (Option.bind (fM_readsNumber text length t8.2 numbers (0 : Int32)) fun t10 =>
if t10.1 = 0 then (some ((0 : Int32), t10.2.1, t10.2.2, t1))
else (some ((1 : Int32), t10.2.1, t10.2.2, t1)))))))
else (if t1 = (105 : Int32) then (Option.bind (fM_reads text length (next + (1 : Int32)) (110 : Int32)) fun t12 =>
if t12.1 = 0 then (some ((0 : Int32), t12.2, numbers, t1))
else (Option.bind (fM_readsNumber text length t12.2 numbers (0 : Int32)) fun t14 =>
if t14.1 = 0 then (some ((0 : Int32), t14.2.1, t14.2.2, t1))
else (Option.bind (fM_readsNumber text length t14.2.1 t14.2.2 (1 : Int32)) fun t16 =>
if t16.1 = 0 then (some ((0 : Int32), t16.2.1, t16.2.2, t1))
else (some ((1 : Int32), t16.2.1, t16.2.2, t1)))))
else (if t1 = (109 : Int32) then (Option.bind (fM_reads text length (next + (1 : Int32)) (97 : Int32)) fun t18 =>
if t18.1 = 0 then (some ((0 : Int32), t18.2, numbers, t1))
else (Option.bind (fM_reads text length t18.2 (114 : Int32)) fun t20 =>
if t20.1 = 0 then (some ((0 : Int32), t20.2, numbers, t1))
else (Option.bind (fM_reads text length t20.2 (107 : Int32)) fun t22 =>
if t22.1 = 0 then (some ((0 : Int32), t22.2, numbers, t1))
else (Option.bind (fM_readsNumber text length t22.2 numbers (0 : Int32)) fun t24 =>
if t24.1 = 0 then (some ((0 : Int32), t24.2.1, t24.2.2, t1))
else (some ((1 : Int32), t24.2.1, t24.2.2, t1))))))
else (if t1 = (111 : Int32) then (Option.bind (fM_reads text length (next + (1 : Int32)) (117 : Int32)) fun t26 =>
if t26.1 = 0 then (some ((0 : Int32), t26.2, numbers, t1))
else (Option.bind (fM_reads text length t26.2 (116 : Int32)) fun t28 =>
if t28.1 = 0 then (some ((0 : Int32), t28.2, numbers, t1))
else (Option.bind (fM_readsNumber text length t28.2 numbers (0 : Int32)) fun t30 =>
if t30.1 = 0 then (some ((0 : Int32), t30.2.1, t30.2.2, t1))
else (some ((1 : Int32), t30.2.1, t30.2.2, t1)))))
else (if t1 = (112 : Int32) then (Option.bind (fM_reads text length (next + (1 : Int32)) (117 : Int32)) fun t32 =>
if t32.1 = 0 then (some ((0 : Int32), t32.2, numbers, t1))
else (Option.bind (fM_reads text length t32.2 (116 : Int32)) fun t34 =>
if t34.1 = 0 then (some ((0 : Int32), t34.2, numbers, t1))
else (Option.bind (fM_readsNumber text length t34.2 numbers (0 : Int32)) fun t36 =>
if t36.1 = 0 then (some ((0 : Int32), t36.2.1, t36.2.2, t1))
else (some ((1 : Int32), t36.2.1, t36.2.2, t1)))))
else (if t1 = (115 : Int32) then (Option.bind (fM_reads text length (next + (1 : Int32)) (119 : Int32)) fun t38 =>
if t38.1 = 0 then (some ((0 : Int32), t38.2, numbers, t1))
else (Option.bind (fM_reads text length t38.2 (97 : Int32)) fun t40 =>
if t40.1 = 0 then (some ((0 : Int32), t40.2, numbers, t1))
else (Option.bind (fM_reads text length t40.2 (112 : Int32)) fun t42 =>
if t42.1 = 0 then (some ((0 : Int32), t42.2, numbers, t1))
else (Option.bind (fM_readsNumber text length t42.2 numbers (0 : Int32)) fun t44 =>
if t44.1 = 0 then (some ((0 : Int32), t44.2.1, t44.2.2, t1))
else (some ((1 : Int32), t44.2.1, t44.2.2, t1))))))
else (some ((0 : Int32), ((next + (1 : Int32)) - (1 : Int32)), numbers, t1)))))))
def fM_readsAll_7 : Nat → (Nat → Int32) → Int32 → Int32 → (Nat → Int32) → Int32 → Int32 → Option (Int32 × Int32 × (Nat → Int32) × Int32)
| 0, _, _, _, _, _, _ => none
| n + 1, text, length, next, numbers, sort, a1 => if a1 = 0 then (if next = length then (some ((1 : Int32), next, numbers, sort))
else (some ((0 : Int32), next, numbers, sort)))
else (Option.bind (fM_readsOrder text length next numbers sort) fun t3 =>
if t3.1 = 0 then (some ((0 : Int32), t3.2.1, t3.2.2.1, t3.2.2.2))
else (Option.bind (fM_reads text length t3.2.1 (59 : Int32)) fun t5 =>
fM_readsAll_7 n text length t5.2 t3.2.2.1 t3.2.2.2 t5.1))
def fM_readsAll (text : (Nat → Int32)) (length : Int32) (next : Int32) (numbers : (Nat → Int32)) (sort : Int32) : Option (Int32 × Int32 × (Nat → Int32) × Int32) :=
fM_readsAll_7 FU text length (0 : Int32) numbers sort (1 : Int32)
def fM_notNow (reasonNow : Int32) (detailNow : Int32) (w : (Nat → Int32)) (numbers : (Nat → Int32)) (sort : Int32) : Option (Int32 × Int32 × Int32) :=
Option.bind (ldA numbers 2 (0 : Int32)) fun v1 =>
if sort = (105 : Int32) then (Option.bind (ldA numbers 2 (1 : Int32)) fun v2 =>
Option.bind (fM_notInsert reasonNow detailNow w v1 v2) fun t3 =>
some (t3.1, t3.2.1, t3.2.2))
else (if sort = (111 : Int32) then (Option.bind (fM_isLetter w v1) fun t4 =>
if t4 = 0 then (some ((-11 : Int32), reasonNow, detailNow))
else (some ((0 : Int32), reasonNow, detailNow)))
else (if sort = (112 : Int32) then (Option.bind (ldA w 132 (0 : Int32)) fun v6 =>
Option.bind (fM_notInsert reasonNow detailNow w v6 v1) fun t7 =>
some (t7.1, t7.2.1, t7.2.2))
else (if sort = (115 : Int32) then (Option.bind (fM_notSwap reasonNow detailNow w v1) fun t8 =>
some (t8.1, t8.2.1, t8.2.2))
else (if sort = (109 : Int32) then (Option.bind (fM_notMark reasonNow detailNow w v1 (1 : Int32)) fun t11 =>
some (t11.1, t11.2.1, t11.2.2))
else (Option.bind (fM_notMark reasonNow detailNow w v1 (0 : Int32)) fun t10 =>
some (t10.1, t10.2.1, t10.2.2))))))
def fM_doesNow (w : (Nat → Int32)) (numbers : (Nat → Int32)) (sort : Int32) : Option ((Nat → Int32)) :=
Option.bind (ldA numbers 2 (0 : Int32)) fun v1 =>
if sort = (105 : Int32) then (Option.bind (ldA numbers 2 (1 : Int32)) fun v2 =>
Option.bind (fM_comes w v1 v2) fun t3 =>
some t3)
else (if sort = (111 : Int32) then (Option.bind (fM_goes w v1) fun t4 =>
some t4.2)
else (if sort = (112 : Int32) then (Option.bind (ldA w 132 (0 : Int32)) fun v5 =>
Option.bind (fM_comes w v5 v1) fun t6 =>
some t6)
else (if sort = (115 : Int32) then (Option.bind (fM_swaps w v1) fun t7 =>
some t7.2)
else (if sort = (109 : Int32) then (Option.bind (fM_marks w v1 (1 : Int32)) fun t10 =>
some t10.2)
else (Option.bind (fM_marks w v1 (0 : Int32)) fun t9 =>
some t9.2)))))
def fM_doesAll_12 : Nat → Int32 → Int32 → (Nat → Int32) → (Nat → Int32) → Int32 → Int32 → (Nat → Int32) → Int32 → Int32 → Int32 → Option (Int32 × Int32 × Int32 × (Nat → Int32) × Int32 × (Nat → Int32) × Int32 × Int32)
| 0, _, _, _, _, _, _, _, _, _, _ => none
| n + 1, reasonNow, detailNow, w, text, length, next, numbers, sort, done, a1 => if a1 = 0 then (some ((1 : Int32), reasonNow, detailNow, w, next, numbers, sort, done))
else (Option.bind (fM_readsOrder text length next numbers sort) fun t2 =>
Option.bind (fM_notNow reasonNow detailNow w t2.2.2.1 t2.2.2.2) fun t3 =>
if t3.1 = 0 then (Option.bind (fM_doesNow w t2.2.2.1 t2.2.2.2) fun t5 =>
Option.bind (fM_reads text length t2.2.1 (59 : Int32)) fun t6 =>
fM_doesAll_12 n t3.2.1 t3.2.2 t5 text length t6.2 t2.2.2.1 t2.2.2.2 (done + (1 : Int32)) t6.1)
else (some ((0 : Int32), t3.2.1, t3.2.2, w, t2.2.1, t2.2.2.1, t2.2.2.2, done)))
def fM_doesAll (reasonNow : Int32) (detailNow : Int32) (w : (Nat → Int32)) (text : (Nat → Int32)) (length : Int32) (next : Int32) (numbers : (Nat → Int32)) (sort : Int32) (done : Int32) : Option (Int32 × Int32 × Int32 × (Nat → Int32) × Int32 × (Nat → Int32) × Int32 × Int32) :=
fM_doesAll_12 FU reasonNow detailNow w text length (0 : Int32) numbers sort (0 : Int32) (1 : Int32)
def fM_run (why : Int32) (detail : Int32) (reasonNow : Int32) (detailNow : Int32) (w : (Nat → Int32)) (undos : (Nat → Int32)) (mind : (Nat → Int32)) (changes : Int32) (firstChange : Int32) (text : (Nat → Int32)) (length : Int32) (next : Int32) (numbers : (Nat → Int32)) (sort : Int32) (done : Int32) : Option (Int32 × Int32 × Int32 × Int32 × Int32 × (Nat → Int32) × (Nat → Int32) × (Nat → Int32) × Int32 × Int32 × Int32 × Int32 × (Nat → Int32) × Int32 × Int32) :=
Option.bind (fM_readsAll text length next numbers sort) fun t1 =>
if t1.1 = 0 then (some (((-1000 : Int32) - t1.2.1), why, detail, reasonNow, detailNow, w, undos, mind, changes, firstChange, (0 : Int32), t1.2.1, t1.2.2.1, t1.2.2.2, done))
else (Option.bind (fM_thinks w mind) fun t3 =>
Option.bind (fM_doesAll reasonNow detailNow w text length t1.2.1 t1.2.2.1 t1.2.2.2 done) fun t4 =>
if t4.1 = 0 then (Option.bind (fM_forgets t4.2.2.2.1 t3) fun t6 =>
some ((-14 : Int32), (4 : Int32), t4.2.2.2.2.2.2.2, t4.2.1, t4.2.2.1, t6, undos, t3, changes, firstChange, (0 : Int32), t4.2.2.2.2.1, t4.2.2.2.2.2.1, t4.2.2.2.2.2.2.1, t4.2.2.2.2.2.2.2))
else (Option.bind (fM_keepsMind undos t3 changes firstChange) fun t7 =>
some (t4.2.2.2.2.2.2.2, why, detail, t4.2.1, t4.2.2.1, t4.2.2.2.1, t7.1, t3, t7.2.1, t7.2.2, (0 : Int32), t4.2.2.2.2.1, t4.2.2.2.2.2.1, t4.2.2.2.2.2.2.1, t4.2.2.2.2.2.2.2)))
def fM_undo_35 : Nat → (Nat → Int32) → (Nat → Int32) → Int32 → Int32 → Int32 → Int32 → Option (Int32 × (Nat → Int32) × Int32)
| 0, _, _, _, _, _, _ => none
| n + 1, w, undos, changes, firstChange, a1, a2 => if (132 : Int32) ≤ a2 then (some (changes, w, changes))
else (Option.bind (ldA undos 1056 (((132 : Int32) * a1) + a2)) fun v3 =>
Option.bind (stA w 132 a2 v3) fun g4 =>
fM_undo_35 n g4 undos changes firstChange a1 (a2 + (1 : Int32)))
def fM_undo (w : (Nat → Int32)) (undos : (Nat → Int32)) (changes : Int32) (firstChange : Int32) : Option (Int32 × (Nat → Int32) × Int32) :=
if changes = 0 then (some ((-15 : Int32), w, changes))
else (fM_undo_35 FU w undos (changes - (1 : Int32)) firstChange ((firstChange + (changes - (1 : Int32))) - (firstChange + (changes - (1 : Int32))) / (8 : Int32) * (8 : Int32)) (0 : Int32))
def fM_save_2 : Nat → (Nat → Int32) → (Nat → Int32) → Int32 → Int32 → Option (Int32 × (Nat → Int32) × Int32)
| 0, _, _, _, _ => none
| n + 1, w, savedRow, isSaved, a1 => if (132 : Int32) ≤ a1 then (Option.bind (ldA w 132 (0 : Int32)) fun v2 =>
some (v2, savedRow, (1 : Int32)))
else (Option.bind (ldA w 132 a1) fun v3 =>
Option.bind (stA savedRow 132 a1 v3) fun g4 =>
fM_save_2 n w g4 isSaved (a1 + (1 : Int32)))
def fM_save (w : (Nat → Int32)) (savedRow : (Nat → Int32)) (isSaved : Int32) : Option (Int32 × (Nat → Int32) × Int32) :=
fM_save_2 FU w savedRow isSaved (0 : Int32)
def fM_restore_12 : Nat → (Nat → Int32) → (Nat → Int32) → Int32 → Int32 → Int32 → Int32 → Option (Int32 × (Nat → Int32) × Int32 × Int32)
| 0, _, _, _, _, _, _ => none
| n + 1, w, savedRow, changes, firstChange, isSaved, a1 => if (132 : Int32) ≤ a1 then (Option.bind (ldA w 132 (0 : Int32)) fun v3 =>
some (v3, w, (0 : Int32), (0 : Int32)))
else (Option.bind (ldA savedRow 132 a1) fun v4 =>
Option.bind (stA w 132 a1 v4) fun g5 =>
fM_restore_12 n g5 savedRow changes firstChange isSaved (a1 + (1 : Int32)))
def fM_restore (w : (Nat → Int32)) (savedRow : (Nat → Int32)) (changes : Int32) (firstChange : Int32) (isSaved : Int32) : Option (Int32 × (Nat → Int32) × Int32 × Int32) :=
if isSaved = 0 then (some ((-15 : Int32), w, changes, firstChange))
else (fM_restore_12 FU w savedRow changes firstChange isSaved (0 : Int32))
def fJ_max (a0 : Int32) (a1 : Int32) : Int32 :=
if a0 < a1 then (a1)
else (a0)
def fJ_min (a0 : Int64) (a2 : Int64) : Int64 :=
if 0 < (lg_cmp a0 a2) then (a2)
else (a0)
def fW_put (letters : TL) (past : TP) (rows : TR) (bags : TB) (latestReason : Int32) (latestDetail : Int32) (a1 : Int32) : Option (Int64 × TL × TP × TR × TB × Int32 × Int32) :=
Option.bind (fS_put letters past rows bags latestReason latestDetail a1) fun t1 =>
some (t1.1.toInt64, t1.2.1, t1.2.2.1, t1.2.2.2.1, t1.2.2.2.2.1, t1.2.2.2.2.2.1, t1.2.2.2.2.2.2)
def fW_insert (letters : TL) (past : TP) (rows : TR) (bags : TB) (latestReason : Int32) (latestDetail : Int32) (a1 : Int32) (a2 : Int32) : Option (Int64 × TL × TP × TR × TB × Int32 × Int32) :=
Option.bind (fS_insert letters past rows bags latestReason latestDetail a1 a2) fun t1 =>
some (t1.1.toInt64, t1.2.1, t1.2.2.1, t1.2.2.2.1, t1.2.2.2.2.1, t1.2.2.2.2.2.1, t1.2.2.2.2.2.2)
def fW_take (letters : TL) (past : TP) (rows : TR) (bags : TB) (a1 : Int32) : Option (Int64 × TL × TP × TR × TB) :=
Option.bind (fS_take letters past rows bags a1) fun t1 =>
some (t1.1.toInt64, t1.2.1, t1.2.2.1, t1.2.2.2.1, t1.2.2.2.2)
def fW_swap (letters : TL) (past : TP) (rows : TR) (bags : TB) (latestReason : Int32) (latestDetail : Int32) (a1 : Int32) : Option (Int64 × TL × TP × TR × TB × Int32 × Int32) :=
Option.bind (fS_swap letters past rows bags latestReason latestDetail a1) fun t1 =>
some (t1.1.toInt64, t1.2.1, t1.2.2.1, t1.2.2.2.1, t1.2.2.2.2.1, t1.2.2.2.2.2.1, t1.2.2.2.2.2.2)
def fW_mark (letters : TL) (past : TP) (rows : TR) (bags : TB) (latestReason : Int32) (latestDetail : Int32) (a1 : Int32) (a2 : Int32) : Option (Int64 × TL × TP × TR × TB × Int32 × Int32) :=
Option.bind (fS_mark letters past rows bags latestReason latestDetail a1 a2) fun t1 =>
some (t1.1.toInt64, t1.2.1, t1.2.2.1, t1.2.2.2.1, t1.2.2.2.2.1, t1.2.2.2.2.2.1, t1.2.2.2.2.2.2)
def fW_weight (letters : TL) (a1 : Int32) : Option (Int64) :=
Option.bind (fS_weight letters a1) fun t1 =>
some t1.toInt64
def fW_weightAgain (letters : TL) (rows : TR) (a1 : Int32) : Option (Int64) :=
Option.bind (fS_weightAgain letters rows a1) fun t1 =>
some t1.toInt64
def fW_bit (letters : TL) (rows : TR) (a1 : Int32) (a2 : Int32) : Option (Int64) :=
Option.bind (fS_bit letters rows a1 a2) fun t1 =>
some t1.toInt64
def fW_bits (rows : TR) (a1 : Int32) : Option (Int64) :=
Option.bind (fS_bits rows a1) fun t1 =>
some t1
def fW_rank (letters : TL) (rows : TR) (a1 : Int32) (a2 : Int32) (a3 : Int32) : Option (Int64) :=
Option.bind (fS_rank letters rows a1 a2 a3) fun t1 =>
some t1.toInt64
def fW_rankAgain (letters : TL) (rows : TR) (a1 : Int32) (a2 : Int32) (a3 : Int32) : Option (Int64) :=
Option.bind (fS_rankAgain letters rows a1 a2 a3) fun t1 =>
some t1.toInt64
def fW_select (rows : TR) (a1 : Int32) (a2 : Int32) (a3 : Int32) : Option (Int64) :=
Option.bind (fS_select rows a1 a2 a3) fun t1 =>
some t1.toInt64
def fW_placeIn (letters : TL) (rows : TR) (a1 : Int32) (a2 : Int32) : Option (Int64) :=
Option.bind (fS_placeIn letters rows a1 a2) fun t1 =>
some t1.toInt64
def fW_quantile (letters : TL) (rows : TR) (a1 : Int32) (a2 : Int32) (a3 : Int32) : Option (Int64) :=
Option.bind (fS_quantile letters rows a1 a2 a3) fun t1 =>
some t1.toInt64
def fW_quantileAgain (letters : TL) (sizes : TZ) (a1 : Int32) (a2 : Int32) (a3 : Int32) : Option (Int64 × TZ) :=
Option.bind (fS_quantileAgain letters sizes a1 a2 a3) fun t1 =>
some (t1.1.toInt64, t1.2)
def fW_count (letters : TL) (rows : TR) (a1 : Int32) (a2 : Int32) (a3 : Int32) : Option (Int64) :=
Option.bind (fS_count letters rows a1 a2 a3) fun t1 =>
some t1.toInt64
def fW_lighter (letters : TL) (rows : TR) (a1 : Int32) (a2 : Int32) (a3 : Int32) : Option (Int64) :=
Option.bind (fS_lighter letters rows a1 a2 a3) fun t1 =>
some t1.toInt64
def fW_atLeast (letters : TL) (rows : TR) (a1 : Int32) (a2 : Int32) (a3 : Int32) : Option (Int64) :=
Option.bind (fS_atLeast letters rows a1 a2 a3) fun t1 =>
some t1.toInt64
def fW_find (rows : TR) (a1 : Int32) (a2 : Int32) : Option (Int64) :=
Option.bind (fS_find rows a1 a2) fun t1 =>
some t1.toInt64
def fW_mostCommon (letters : TL) (tally : TY) (a1 : Int32) (a2 : Int32) (a3 : Int32) : Option (Int64 × TY) :=
Option.bind (fS_common letters tally a1 a2 a3) fun t1 =>
some (t1.1.toInt64, t1.2)
def fW_bagOf (letters : TL) (rows : TR) (bags : TB) (tally : TY) (a1 : Int32) (a2 : Int32) : Option (Int64 × TY) :=
Option.bind (fS_bagOf letters rows bags tally a1 a2) fun t1 =>
some (t1.1.toInt64, t1.2)
def fW_bagAt (letters : TL) (bags : TB) (a1 : Int32) : Option (Int64) :=
Option.bind (fS_bagAt letters bags a1) fun t1 =>
some t1.toInt64
def fW_ranked (bags : TB) (a1 : Int32) : Option (Int64) :=
Option.bind (fS_ranked bags a1) fun t1 =>
some t1.toInt64
def fW_run (letters : TL) (trial : TL) (past : TP) (rows : TR) (bags : TB) (text : TT) (latestReason : Int32) (latestDetail : Int32) : Option (Int64 × TL × TL × TP × TR × TB × TT × Int32 × Int32) :=
Option.bind (fS_run letters trial past rows bags text latestReason latestDetail) fun t1 =>
some (t1.1.toInt64, t1.2.1, t1.2.2.1, t1.2.2.2.1, t1.2.2.2.2.1, t1.2.2.2.2.2.1, t1.2.2.2.2.2.2.1, t1.2.2.2.2.2.2.2.1, t1.2.2.2.2.2.2.2.2)
def fW_account (letters : TL) (past : TP) (rows : TR) (bags : TB) (tally : TY) (text : TT) (a1 : Int32) : Option (Int64 × TY) :=
Option.bind (fS_account letters past rows bags tally text a1) fun t1 =>
some (t1.1.toInt64, t1.2)
def fW_isBalanced (letters : TL) (rows : TR) (bags : TB) (sizes : TZ) : Option (Int64 × TZ) :=
Option.bind (fS_isBalanced letters rows bags sizes) fun t1 =>
some (t1.1.toInt64, t1.2)
def fW_undo (letters : TL) (past : TP) (rows : TR) (bags : TB) : Option (Int64 × TL × TP × TR × TB) :=
Option.bind (fS_undo letters past rows bags) fun t1 =>
some (t1.1.toInt64, t1.2.1, t1.2.2.1, t1.2.2.2.1, t1.2.2.2.2)
def fW_save (letters : TL) (snapshot : TL) (isSaved : Int32) : Option (Int64 × TL × Int32) :=
Option.bind (fS_save letters snapshot isSaved) fun t1 =>
some (t1.1.toInt64, t1.2.1, t1.2.2)
def fW_restore (letters : TL) (snapshot : TL) (isSaved : Int32) (past : TP) (rows : TR) (bags : TB) : Option (Int64 × TL × TP × TR × TB) :=
Option.bind (fS_restore letters snapshot isSaved past rows bags) fun t1 =>
some (t1.1.toInt64, t1.2.1, t1.2.2.1, t1.2.2.2.1, t1.2.2.2.2)
def fW_chosen (a0 : Int32) (a1 : Int32) : Option (Int32) :=
Option.bind (rmI (a0 &&& (2147483647 : Int32)) a1) fun v1 =>
some v1
def fW_done_2 : Nat → TL → TL → TP → TR → TB → TT → Int32 → Int32 → Nat → Int32 → Option (Int64 × TL × TL × TP × TR × TB × TT × Int32 × Int32)
| 0, _, _, _, _, _, _, _, _, _, _ => none
| n + 1, letters, trial, past, rows, bags, text, latestReason, latestDetail, a1, a2 => if (strLen a1) ≤ a2 then (Option.bind (fW_run letters trial past rows bags text latestReason latestDetail) fun t2 =>
some (t2.1, t2.2.1, t2.2.2.1, t2.2.2.2.1, t2.2.2.2.2.1, t2.2.2.2.2.2.1, t2.2.2.2.2.2.2.1, t2.2.2.2.2.2.2.2.1, t2.2.2.2.2.2.2.2.2))
else (Option.bind (strAt a1 a2) fun v3 =>
Option.bind (fS_append text v3) fun t4 =>
fW_done_2 n letters trial past rows bags t4.2 latestReason latestDetail a1 (a2 + (1 : Int32)))
def fW_done (letters : TL) (trial : TL) (past : TP) (rows : TR) (bags : TB) (text : TT) (latestReason : Int32) (latestDetail : Int32) (a1 : Nat) : Option (Int64 × TL × TL × TP × TR × TB × TT × Int32 × Int32) :=
fW_done_2 FU letters trial past rows bags text latestReason latestDetail a1 (0 : Int32)
def fW_state_63 : Nat → TL → TP → TR → TB → TY → TT → Int64 → Int32 → Option (Int64 × TY)
| 0, _, _, _, _, _, _, _, _ => none
| n + 1, letters, past, rows, bags, tally, text, a1, a3 => Option.bind (fW_account letters past rows bags tally text (4 : Int32)) fun t4 =>
if 0 ≤ (lg_cmp a3.toInt64 t4.1) then (some (a1, t4.2))
else (Option.bind (fW_bagOf letters rows bags t4.2 a3 (0 : Int32)) fun t6 =>
fW_state_63 n letters past rows bags t6.2 text (((31 : Int64) * a1) + t6.1) (a3 + (1 : Int32)))
def fW_state_32 : Nat → TL → TP → TR → TB → TY → TT → Int64 → Int32 → Option (Int64 × TY)
| 0, _, _, _, _, _, _, _, _ => none
| n + 1, letters, past, rows, bags, tally, text, a1, a3 => Option.bind (fW_account letters past rows bags tally text (0 : Int32)) fun t2 =>
if 0 ≤ (lg_cmp a3.toInt64 t2.1) then (fW_state_63 FU letters past rows bags t2.2 text a1 (0 : Int32))
else (Option.bind (fW_weight letters a3) fun t7 =>
fW_state_32 n letters past rows bags t2.2 text (((31 : Int64) * a1) + t7) (a3 + (1 : Int32)))
def fW_state_6 : Nat → TL → TP → TR → TB → TY → TT → Int64 → Int32 → Option (Int64 × TY)
| 0, _, _, _, _, _, _, _, _ => none
| n + 1, letters, past, rows, bags, tally, text, a1, a3 => if (9 : Int32) ≤ a3 then (fW_state_32 FU letters past rows bags tally text a1 (0 : Int32))
else (Option.bind (fW_account letters past rows bags tally text a3) fun t8 =>
fW_state_6 n letters past rows bags t8.2 text (((31 : Int64) * a1) + t8.1) (a3 + (1 : Int32)))
def fW_state (letters : TL) (past : TP) (rows : TR) (bags : TB) (tally : TY) (text : TT) : Option (Int64 × TY) :=
fW_state_6 FU letters past rows bags tally text (17 : Int64) (0 : Int32)
def fW_acts (letters : TL) (trial : TL) (past : TP) (rows : TR) (bags : TB) (tally : TY) (text : TT) (latestReason : Int32) (latestDetail : Int32) (a1 : Int32) : Option (Int64 × TL × TL × TP × TR × TB × TY × TT × Int32 × Int32) :=
Option.bind (fW_chosen (a1 >>> ((8 : Int32) &&& 31)) (40000 : Int32)) fun t1 =>
Option.bind (fW_account letters past rows bags tally text (0 : Int32)) fun t2 =>
Option.bind (fW_chosen a1 (16 : Int32)) fun t3 =>
if t3 = (0 : Int32) then (Option.bind (fW_put letters past rows bags latestReason latestDetail (t1 - t1 / (32 : Int32) * (32 : Int32))) fun t4 =>
some (t4.1, t4.2.1, trial, t4.2.2.1, t4.2.2.2.1, t4.2.2.2.2.1, t2.2, text, t4.2.2.2.2.2.1, t4.2.2.2.2.2.2))
else (if t3 = (1 : Int32) then (Option.bind (fW_put letters past rows bags latestReason latestDetail (t1 - t1 / (32 : Int32) * (32 : Int32))) fun t5 =>
some (t5.1, t5.2.1, trial, t5.2.2.1, t5.2.2.2.1, t5.2.2.2.2.1, t2.2, text, t5.2.2.2.2.2.1, t5.2.2.2.2.2.2))
else (if t3 = (2 : Int32) then (Option.bind (fW_put letters past rows bags latestReason latestDetail (t1 - t1 / (32 : Int32) * (32 : Int32))) fun t6 =>
some (t6.1, t6.2.1, trial, t6.2.2.1, t6.2.2.2.1, t6.2.2.2.2.1, t2.2, text, t6.2.2.2.2.2.1, t6.2.2.2.2.2.2))
else (if t3 = (3 : Int32) then (Option.bind (fW_put letters past rows bags latestReason latestDetail (t1 - t1 / (32 : Int32) * (32 : Int32))) fun t7 =>
some (t7.1, t7.2.1, trial, t7.2.2.1, t7.2.2.2.1, t7.2.2.2.2.1, t2.2, text, t7.2.2.2.2.2.1, t7.2.2.2.2.2.2))
else (if t3 = (4 : Int32) then (Option.bind (rmI (t1 / (32 : Int32)) (fJ_max (1 : Int32) t2.1.toInt32)) fun v8 =>
Option.bind (fW_insert letters past rows bags latestReason latestDetail v8 (t1 - t1 / (32 : Int32) * (32 : Int32))) fun t9 =>
some (t9.1, t9.2.1, trial, t9.2.2.1, t9.2.2.2.1, t9.2.2.2.2.1, t2.2, text, t9.2.2.2.2.2.1, t9.2.2.2.2.2.2))
else (if t3 = (5 : Int32) then (Option.bind (rmI (t1 / (32 : Int32)) (fJ_max (1 : Int32) t2.1.toInt32)) fun v10 =>
Option.bind (fW_insert letters past rows bags latestReason latestDetail v10 (t1 - t1 / (32 : Int32) * (32 : Int32))) fun t11 =>
some (t11.1, t11.2.1, trial, t11.2.2.1, t11.2.2.2.1, t11.2.2.2.2.1, t2.2, text, t11.2.2.2.2.2.1, t11.2.2.2.2.2.2))
else (if t3 = (6 : Int32) then (Option.bind (rmI (t1 / (32 : Int32)) (fJ_max (1 : Int32) t2.1.toInt32)) fun v12 =>
Option.bind (fW_insert letters past rows bags latestReason latestDetail v12 (t1 - t1 / (32 : Int32) * (32 : Int32))) fun t13 =>
some (t13.1, t13.2.1, trial, t13.2.2.1, t13.2.2.2.1, t13.2.2.2.2.1, t2.2, text, t13.2.2.2.2.2.1, t13.2.2.2.2.2.2))
else (if t3 = (7 : Int32) then (Option.bind (rmI t1 (fJ_max (1 : Int32) t2.1.toInt32)) fun v14 =>
Option.bind (fW_take letters past rows bags v14) fun t15 =>
some (t15.1, t15.2.1, trial, t15.2.2.1, t15.2.2.2.1, t15.2.2.2.2, t2.2, text, latestReason, latestDetail))
else (if t3 = (8 : Int32) then (Option.bind (rmI t1 (fJ_max (1 : Int32) t2.1.toInt32)) fun v16 =>
Option.bind (fW_take letters past rows bags v16) fun t17 =>
some (t17.1, t17.2.1, trial, t17.2.2.1, t17.2.2.2.1, t17.2.2.2.2, t2.2, text, latestReason, latestDetail))
else (if t3 = (9 : Int32) then (Option.bind (rmI t1 (fJ_max (1 : Int32) t2.1.toInt32)) fun v18 =>
Option.bind (fW_swap letters past rows bags latestReason latestDetail v18) fun t19 =>
some (t19.1, t19.2.1, trial, t19.2.2.1, t19.2.2.2.1, t19.2.2.2.2.1, t2.2, text, t19.2.2.2.2.2.1, t19.2.2.2.2.2.2))
else (if t3 = (10 : Int32) then (Option.bind (rmI t1 (fJ_max (1 : Int32) t2.1.toInt32)) fun v20 =>
Option.bind (fW_swap letters past rows bags latestReason latestDetail v20) fun t21 =>
some (t21.1, t21.2.1, trial, t21.2.2.1, t21.2.2.2.1, t21.2.2.2.2.1, t2.2, text, t21.2.2.2.2.2.1, t21.2.2.2.2.2.2))
else (if t3 = (11 : Int32) then (if ((t1 / (20 : Int32)) - (t1 / (20 : Int32)) / (3 : Int32) * (3 : Int32)) ≤ 0 then (Option.bind (fW_mark letters past rows bags latestReason latestDetail ((1 : Int32) + (t1 - t1 / (20 : Int32) * (20 : Int32))) (0 : Int32)) fun t23 =>
some (t23.1, t23.2.1, trial, t23.2.2.1, t23.2.2.2.1, t23.2.2.2.2.1, t2.2, text, t23.2.2.2.2.2.1, t23.2.2.2.2.2.2))
else (Option.bind (fW_mark letters past rows bags latestReason latestDetail ((1 : Int32) + (t1 - t1 / (20 : Int32) * (20 : Int32))) (1 : Int32)) fun t24 =>
some (t24.1, t24.2.1, trial, t24.2.2.1, t24.2.2.2.1, t24.2.2.2.2.1, t2.2, text, t24.2.2.2.2.2.1, t24.2.2.2.2.2.2)))
else (Option.bind (ldA (fun j : Nat => j) 8 (t1 - t1 / (8 : Int32) * (8 : Int32))) fun k25 =>
Option.bind (fW_done letters trial past rows bags text latestReason latestDetail (7 + k25)) fun t26 =>
some (t26.1, t26.2.1, t26.2.2.1, t26.2.2.2.1, t26.2.2.2.2.1, t26.2.2.2.2.2.1, t2.2, t26.2.2.2.2.2.2.1, t26.2.2.2.2.2.2.2.1, t26.2.2.2.2.2.2.2.2)))))))))))))
def fW_rows_19 : Nat → TL → TP → TR → TB → TY → TT → Int32 → Int32 → Int64 → Int32 → Option (Int32 × TY ⊕ (Int64 × TY))
| 0, _, _, _, _, _, _, _, _, _, _ => none
| n + 1, letters, past, rows, bags, tally, text, a1, a2, a3, a5 => if a1 ≤ a5 then (some (Sum.inr (a3, tally)))
else (Option.bind (fW_rank letters rows a2 (1 : Int32) a5) fun t4 =>
if (lg_cmp t4 a3) = 0 then (Option.bind (fW_rank letters rows a2 (0 : Int32) a5) fun t6 =>
if (lg_cmp t6 (a5.toInt64 - a3)) = 0 then (Option.bind (fW_rankAgain letters rows a2 (1 : Int32) a5) fun t8 =>
if (lg_cmp t8 a3) = 0 then (Option.bind (fW_bit letters rows a2 a5) fun t10 =>
Option.bind (fW_bits rows a2) fun t11 =>
if (lg_cmp ((t11 >>> (a5.toInt64 &&& 63)) &&& (1 : Int64)) t10) = 0 then (if (lg_cmp t10 (1 : Int64)) = 0 then (if (lg_cmp t10 (1 : Int64)) = 0 then (Option.bind (fW_select rows a2 (1 : Int32) a3.toInt32) fun t22 =>
if (lg_cmp t22 a5.toInt64) = 0 then (fW_rows_19 n letters past rows bags tally text a1 a2 (a3 + t10) (a5 + (1 : Int32)))
else (some (Sum.inl ((0 : Int32), tally))))
else (Option.bind (fW_select rows a2 (1 : Int32) ((a5.toInt64 - a3).toInt32)) fun t20 =>
if (lg_cmp t20 a5.toInt64) = 0 then (fW_rows_19 n letters past rows bags tally text a1 a2 (a3 + t10) (a5 + (1 : Int32)))
else (some (Sum.inl ((0 : Int32), tally)))))
else (if (lg_cmp t10 (1 : Int64)) = 0 then (Option.bind (fW_select rows a2 (0 : Int32) a3.toInt32) fun t17 =>
if (lg_cmp t17 a5.toInt64) = 0 then (fW_rows_19 n letters past rows bags tally text a1 a2 (a3 + t10) (a5 + (1 : Int32)))
else (some (Sum.inl ((0 : Int32), tally))))
else (Option.bind (fW_select rows a2 (0 : Int32) ((a5.toInt64 - a3).toInt32)) fun t15 =>
if (lg_cmp t15 a5.toInt64) = 0 then (fW_rows_19 n letters past rows bags tally text a1 a2 (a3 + t10) (a5 + (1 : Int32)))
else (some (Sum.inl ((0 : Int32), tally))))))
else (some (Sum.inl ((0 : Int32), tally))))
else (some (Sum.inl ((0 : Int32), tally))))
else (some (Sum.inl ((0 : Int32), tally))))
else (some (Sum.inl ((0 : Int32), tally))))
def fW_rows_166 : Nat → TL → TP → TR → TB → TY → TT → Int32 → Int32 → Int32 → Option (Int32 × TY ⊕ (TY))
| 0, _, _, _, _, _, _, _, _, _ => none
| n + 1, letters, past, rows, bags, tally, text, a1, a2, a5 => if a1 ≤ a5 then (some (Sum.inr tally))
else (Option.bind (fW_placeIn letters rows a2 a5) fun t28 =>
Option.bind (fW_bit letters rows a2 t28.toInt32) fun t29 =>
Option.bind (fW_weight letters a5) fun t30 =>
if (lg_cmp t29 ((t30 >>> (((4 : Int32) - a2).toInt64 &&& 63)) &&& (1 : Int64))) = 0 then (fW_rows_166 n letters past rows bags tally text a1 a2 (a5 + (1 : Int32)))
else (some (Sum.inl ((0 : Int32), tally))))
def fW_rows_9 : Nat → TL → TP → TR → TB → TY → TT → Int32 → Int32 → Option (Int32 × TY)
| 0, _, _, _, _, _, _, _, _ => none
| n + 1, letters, past, rows, bags, tally, text, a1, a2 => if (5 : Int32) ≤ a2 then (some ((1 : Int32), tally))
else (Option.bind (fW_rows_19 FU letters past rows bags tally text a1 a2 (0 : Int64) (0 : Int32)) fun o24 => Sum.elim (fun r9 => some r9) (fun o24x =>
Option.bind (fW_rank letters rows a2 (1 : Int32) a1) fun t25 =>
if (lg_cmp t25 o24x.1) = 0 then (Option.bind (fW_rows_166 FU letters past rows bags o24x.2 text a1 a2 (0 : Int32)) fun o32 => Sum.elim (fun r9 => some r9) (fun o32x =>
fW_rows_9 n letters past rows bags o32x text a1 (a2 + (1 : Int32))) o32)
else (some ((0 : Int32), o24x.2))) o24)
def fW_rows (letters : TL) (past : TP) (rows : TR) (bags : TB) (tally : TY) (text : TT) : Option (Int32 × TY) :=
Option.bind (fW_account letters past rows bags tally text (0 : Int32)) fun t1 =>
fW_rows_9 FU letters past rows bags t1.2 text t1.1.toInt32 (0 : Int32)
def fW_part_163 : Nat → TL → TR → TY → TZ → Int32 → Int32 → Int64 → Int32 → Option (Int32 × TY × TZ)
| 0, _, _, _, _, _, _, _, _ => none
| n + 1, letters, rows, tally, sizes, a1, a2, a10, a12 => Option.bind (fW_mostCommon letters tally a1 a2 a12) fun t6 =>
if (lg_cmp t6.1 (0 : Int64)) < 0 then (if (lg_cmp a10 ((a2 - a1).toInt64)) = 0 then (some ((1 : Int32), t6.2, sizes))
else (some ((0 : Int32), t6.2, sizes)))
else (Option.bind (fW_mostCommon letters t6.2 a1 a2 a12) fun t9 =>
Option.bind (fW_count letters rows a1 a2 t9.1.toInt32) fun t10 =>
Option.bind (fW_mostCommon letters t9.2 a1 a2 (a12 + (1 : Int32))) fun t11 =>
if (lg_cmp t11.1 (0 : Int64)) < 0 then (fW_part_163 n letters rows t11.2 sizes a1 a2 (a10 + t10) (a12 + (1 : Int32)))
else (Option.bind (fW_mostCommon letters t11.2 a1 a2 (a12 + (1 : Int32))) fun t13 =>
Option.bind (fW_count letters rows a1 a2 t13.1.toInt32) fun t14 =>
if (lg_cmp t14 t10) ≤ 0 then (fW_part_163 n letters rows t13.2 sizes a1 a2 (a10 + t10) (a12 + (1 : Int32)))
else (some ((0 : Int32), t13.2, sizes))))
def fW_part_8 : Nat → TL → TR → TY → TZ → Int32 → Int32 → Int32 → Int64 → Int32 → Option (Int32 × TY × TZ)
| 0, _, _, _, _, _, _, _, _, _ => none
| n + 1, letters, rows, tally, sizes, a1, a2, a3, a4, a6 => if (a2 - a1) ≤ a6 then (Option.bind (fW_atLeast letters rows a1 a2 a3) fun t2 =>
Option.bind (fW_lighter letters rows a1 a2 a3) fun t3 =>
if (lg_cmp t2 (0 : Int64)) < 0 then (if (lg_cmp t3 ((a2 - a1).toInt64)) = 0 then (fW_part_163 FU letters rows tally sizes a1 a2 (0 : Int64) (0 : Int32))
else (some ((0 : Int32), tally, sizes)))
else (Option.bind (fW_quantile letters rows a1 a2 t3.toInt32) fun t16 =>
if (lg_cmp t16 t2) = 0 then (fW_part_163 FU letters rows tally sizes a1 a2 (0 : Int64) (0 : Int32))
else (some ((0 : Int32), tally, sizes))))
else (Option.bind (fW_quantile letters rows a1 a2 a6) fun t18 =>
Option.bind (fW_quantileAgain letters sizes a1 a2 a6) fun t19 =>
if (lg_cmp t18 t19.1) = 0 then (if (lg_cmp t18 a4) < 0 then (some ((0 : Int32), tally, t19.2))
else (Option.bind (fW_lighter letters rows a1 a2 t18.toInt32) fun t22 =>
if 0 < (lg_cmp t22 a6.toInt64) then (some ((0 : Int32), tally, t19.2))
else (Option.bind (fW_lighter letters rows a1 a2 t18.toInt32) fun t24 =>
Option.bind (fW_count letters rows a1 a2 t18.toInt32) fun t25 =>
if 0 < (lg_cmp (t24 + t25) a6.toInt64) then (fW_part_8 n letters rows tally t19.2 a1 a2 a3 t18 (a6 + (1 : Int32)))
else (some ((0 : Int32), tally, t19.2)))))
else (some ((0 : Int32), tally, t19.2)))
def fW_part (letters : TL) (rows : TR) (tally : TY) (sizes : TZ) (a1 : Int32) (a2 : Int32) (a3 : Int32) : Option (Int32 × TY × TZ) :=
fW_part_8 FU letters rows tally sizes a1 a2 a3 (-1 : Int64) (0 : Int32)
def fW_fits_314 : Nat → TL → TP → TR → TB → TY → TZ → TT → Int64 → Int32 → Option (Int32 × TY × TZ)
| 0, _, _, _, _, _, _, _, _, _ => none
| n + 1, letters, past, rows, bags, tally, sizes, text, a5, a7 => Option.bind (fW_ranked bags (a7 + (1 : Int32))) fun t17 =>
if (lg_cmp t17 (0 : Int64)) < 0 then (Option.bind (fW_account letters past rows bags tally text (1 : Int32)) fun t19 =>
if (lg_cmp a5 t19.1) = 0 then (some ((1 : Int32), t19.2, sizes))
else (some ((0 : Int32), t19.2, sizes)))
else (Option.bind (fW_ranked bags a7) fun t21 =>
Option.bind (fW_bagOf letters rows bags tally t21.toInt32 (2 : Int32)) fun t22 =>
Option.bind (fW_ranked bags (a7 + (1 : Int32))) fun t23 =>
Option.bind (fW_bagOf letters rows bags t22.2 t23.toInt32 (2 : Int32)) fun t24 =>
if 0 ≤ (lg_cmp t22.1 t24.1) then (fW_fits_314 n letters past rows bags t24.2 sizes text a5 (a7 + (1 : Int32)))
else (some ((0 : Int32), t24.2, sizes)))
def fW_fits_205 : Nat → TL → TP → TR → TB → TY → TZ → TT → Int64 → Int32 → Option (Int32 × TY × TZ)
| 0, _, _, _, _, _, _, _, _, _ => none
| n + 1, letters, past, rows, bags, tally, sizes, text, a5, a7 => Option.bind (fW_account letters past rows bags tally text (4 : Int32)) fun t15 =>
if 0 ≤ (lg_cmp a7.toInt64 t15.1) then (fW_fits_314 FU letters past rows bags t15.2 sizes text a5 (0 : Int32))
else (Option.bind (fW_bagOf letters rows bags t15.2 a7 (0 : Int32)) fun t26 =>
Option.bind (fW_bagOf letters rows bags t26.2 a7 (1 : Int32)) fun t27 =>
Option.bind (fW_bagOf letters rows bags t27.2 a7 (2 : Int32)) fun t28 =>
Option.bind (fW_bagOf letters rows bags t28.2 a7 (3 : Int32)) fun t29 =>
Option.bind (fW_quantile letters rows t26.1.toInt32 (t26.1.toInt32 + t27.1.toInt32) ((t27.1.toInt32 - (1 : Int32)) / (2 : Int32))) fun t30 =>
if (lg_cmp t29.1 t30) = 0 then (Option.bind (fW_bagOf letters rows bags t29.2 a7 (4 : Int32)) fun t32 =>
Option.bind (fW_quantile letters rows t26.1.toInt32 (t26.1.toInt32 + t27.1.toInt32) (t27.1.toInt32 - (1 : Int32))) fun t33 =>
if (lg_cmp t32.1 t33) = 0 then (fW_fits_205 n letters past rows bags t32.2 sizes text (a5 + t28.1) (a7 + (1 : Int32)))
else (some ((0 : Int32), t32.2, sizes)))
else (some ((0 : Int32), t29.2, sizes)))
def fW_fits_89 : Nat → TL → TP → TR → TB → TY → TZ → TT → Int32 → Int32 → Option (Int32 × TY × TZ)
| 0, _, _, _, _, _, _, _, _, _ => none
| n + 1, letters, past, rows, bags, tally, sizes, text, a2, a5 => if a2 ≤ a5 then (fW_fits_205 FU letters past rows bags tally sizes text (0 : Int64) (0 : Int32))
else (Option.bind (fW_weight letters a5) fun t35 =>
Option.bind (fW_weightAgain letters rows a5) fun t36 =>
if (lg_cmp t35 t36) = 0 then (Option.bind (fW_weight letters a5) fun t38 =>
Option.bind (fW_weight letters a5) fun t39 =>
Option.bind (fW_count letters rows (0 : Int32) a5 t39.toInt32) fun t40 =>
Option.bind (fW_find rows t38.toInt32 t40.toInt32) fun t41 =>
if (lg_cmp t41 a5.toInt64) = 0 then (Option.bind (fW_bagAt letters bags a5) fun t43 =>
Option.bind (fW_bagOf letters rows bags tally t43.toInt32 (0 : Int32)) fun t44 =>
if 0 < (lg_cmp t44.1 a5.toInt64) then (some ((0 : Int32), t44.2, sizes))
else (Option.bind (fW_bagOf letters rows bags t44.2 t43.toInt32 (0 : Int32)) fun t46 =>
Option.bind (fW_bagOf letters rows bags t46.2 t43.toInt32 (1 : Int32)) fun t47 =>
if 0 < (lg_cmp (t46.1 + t47.1) a5.toInt64) then (fW_fits_89 n letters past rows bags t47.2 sizes text a2 (a5 + (1 : Int32)))
else (some ((0 : Int32), t47.2, sizes))))
else (some ((0 : Int32), tally, sizes)))
else (some ((0 : Int32), tally, sizes)))
def fW_fits (letters : TL) (past : TP) (rows : TR) (bags : TB) (tally : TY) (sizes : TZ) (text : TT) (a1 : Int32) : Option (Int32 × TY × TZ) :=
Option.bind (fW_account letters past rows bags tally text (0 : Int32)) fun t1 =>
Option.bind (fW_isBalanced letters rows bags sizes) fun t2 =>
if (lg_cmp t2.1 (1 : Int64)) = 0 then (Option.bind (fW_rows letters past rows bags t1.2 text) fun t4 =>
if t4.1 = 0 then (some ((0 : Int32), t4.2, t2.2))
else (Option.bind (fW_chosen a1 (t1.1.toInt32 + (1 : Int32))) fun t6 =>
Option.bind (fW_chosen (a1 >>> ((7 : Int32) &&& 31)) ((t1.1.toInt32 - t6) + (1 : Int32))) fun t7 =>
Option.bind (fW_chosen (a1 >>> ((3 : Int32) &&& 31)) (32 : Int32)) fun t8 =>
Option.bind (fW_part letters rows t4.2 t2.2 t6 (t6 + t7) t8) fun t9 =>
if t9.1 = 0 then (some ((0 : Int32), t9.2.1, t9.2.2))
else (Option.bind (fW_chosen (a1 >>> ((5 : Int32) &&& 31)) (32 : Int32)) fun t11 =>
Option.bind (fW_part letters rows t9.2.1 t9.2.2 (0 : Int32) t1.1.toInt32 t11) fun t12 =>
if t12.1 = 0 then (some ((0 : Int32), t12.2.1, t12.2.2))
else (fW_fits_89 FU letters past rows bags t12.2.1 t12.2.2 text t1.1.toInt32 (0 : Int32)))))
else (some ((0 : Int32), t1.2, t2.2))
