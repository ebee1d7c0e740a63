/-! bits in a row as a number -/
def bin : List Bool → Nat
  | [] => 0
  | b :: t => (if b then 1 else 0) + 2 * bin t
theorem bin_lt (L : List Bool) : bin L < 2 ^ L.length := by
  induction L with
  | nil => decide
  | cons b t ih =>
    show (if b then 1 else 0) + 2 * bin t < 2 ^ (t.length + 1)
    rw [Nat.pow_succ]
    split <;> omega
theorem bin_lt64 {L : List Bool} (h : L.length ≤ 64) : bin L < 2 ^ 64 := Nat.lt_of_lt_of_le (bin_lt L) (Nat.pow_le_pow_right (by decide) h)
theorem bin_half (b : Bool) (t : List Bool) : bin (b :: t) / 2 = bin t ∧ bin (b :: t) % 2 = if b then 1 else 0 := by
  show ((if b then 1 else 0) + 2 * bin t) / 2 = bin t ∧ ((if b then 1 else 0) + 2 * bin t) % 2 = if b then 1 else 0
  split <;> omega
theorem bin_drop (L : List Bool) (k : Nat) : bin L / 2 ^ k = bin (L.drop k) := by
  induction k generalizing L with
  | zero => simp
  | succ k ih =>
    cases L with
    | nil => simp [bin]
    | cons b t =>
      rw [List.drop_succ_cons, ← ih t, Nat.pow_succ, Nat.mul_comm, ← Nat.div_div_eq_div_mul, (bin_half b t).1]
theorem bin_take (L : List Bool) (k : Nat) : bin L % 2 ^ k = bin (L.take k) := by
  induction k generalizing L with
  | zero => simp [Nat.mod_one, bin]
  | succ k ih =>
    cases L with
    | nil => simp [bin]
    | cons b t =>
      rw [List.take_succ_cons]
      show _ = (if b then 1 else 0) + 2 * bin (t.take k)
      rw [← ih t, Nat.pow_succ, Nat.mul_comm, Nat.mod_mul, (bin_half b t).1, (bin_half b t).2]
theorem popN_bin (L : List Bool) (k : Nat) (h : L.length ≤ k) : popN k (bin L) = L.countP id := by
  induction k generalizing L with
  | zero =>
    have : L = [] := List.length_eq_zero_iff.mp (by omega)
    subst this
    rfl
  | succ k ih =>
    cases L with
    | nil => exact popN_0 (k + 1)
    | cons b t =>
      show bin (b :: t) % 2 + popN k (bin (b :: t) / 2) = _
      rw [(bin_half b t).1, (bin_half b t).2, ih t (by simp at h; omega), List.countP_cons]
      cases b <;> simp [Nat.add_comm]
theorem bin_testBit (L : List Bool) (k : Nat) : (bin L).testBit k = L.getD k false := by
  rw [Nat.testBit_eq_decide_div_mod_eq, bin_drop]
  induction L generalizing k with
  | nil => simp [bin]
  | cons b t ih =>
    cases k with
    | zero => rw [List.drop_zero, (bin_half b t).2]; cases b <;> simp
    | succ k => rw [List.drop_succ_cons, ih k]; simp
theorem bin_bit (L : List Bool) (k : Nat) : bin L / 2 ^ k % 2 = if L.getD k false then 1 else 0 := by
  have h := bin_testBit L k
  rw [Nat.testBit_eq_decide_div_mod_eq] at h
  cases hc : L.getD k false
  · rw [hc] at h
    have := of_decide_eq_false h
    simp
    omega
  · rw [hc] at h
    have := of_decide_eq_true h
    simpa using this
theorem bin_append (A B : List Bool) : bin (A ++ B) = bin A + 2 ^ A.length * bin B := by
  induction A with
  | nil => simp [bin]
  | cons b t ih =>
    show (if b then 1 else 0) + 2 * bin (t ++ B) = (if b then 1 else 0) + 2 * bin t + 2 ^ (t.length + 1) * bin B
    rw [ih, Nat.pow_succ, Nat.mul_add, Nat.mul_comm (2 ^ t.length) 2, Nat.mul_assoc]
    omega
theorem bin_or (A : List Bool) : bin A ||| 2 ^ A.length = bin (A ++ [true]) := by
  rw [bin_append]
  have h := Nat.two_pow_add_eq_or_of_lt (bin_lt A) 1
  rw [Nat.mul_one] at h
  rw [Nat.or_comm, ← h]
  simp [bin, Nat.add_comm]
theorem bin_no (A : List Bool) : bin (A ++ [false]) = bin A := by
  rw [bin_append]; simp [bin]
/-! as Java says it -/
theorem jb_bit {L : List Bool} (hL : L.length ≤ 64) {k : Nat} (hk : k < 64) : ((lN (bin L)).toUInt64 >>> ((nI k).toInt64.toUInt64 &&& Int64.toUInt64 63)).toInt64 &&& (1 : Int64) = lN (if L.getD k false then 1 else 0) := by
  rw [wb_bit (bin_lt64 hL) hk, bin_bit]
theorem jb_or {A : List Bool} (hA : A.length < 64) : lN (bin A) ||| ((1 : Int64) <<< ((nI A.length).toInt64 &&& 63)) = lN (bin (A ++ [true])) := by
  have h := wb_shl 1 hA
  rw [Nat.one_mul] at h
  have h1 : (1 : Int64) = lN 1 := rfl
  rw [h1, h, fb_orL, bin_or]
/-- of a whole: some bits from a place on, counted -/
theorem jb_cnt {L : List Bool} (hL : L.length ≤ 64) {i j : Nat} (hi : i < 64) (hj : j < 64) : fJ_bitCount ((((lN (bin L)).toUInt64 >>> ((nI i).toInt64.toUInt64 &&& Int64.toUInt64 63)).toInt64) &&& (((1 : Int64) <<< ((nI j).toInt64 &&& 63)) - (1 : Int64))) = nI (((L.drop i).take j).countP id) := by
  have h := wb_shl 1 hj
  rw [Nat.one_mul] at h
  have h1 : (1 : Int64) = lN 1 := rfl
  rw [h1, h, wb_shr (bin_lt64 hL) hi, lN_sub (Nat.one_le_two_pow), fb_maskL, bin_drop, bin_take]
  have hl : ((L.drop i).take j).length ≤ 64 := by
    rw [List.length_take, List.length_drop]; omega
  rw [bitCount_sp (bin_lt64 hl), popN_bin _ _ hl]
theorem jb_all {L : List Bool} (hL : L.length ≤ 64) : fJ_bitCount (lN (bin L)) = nI (L.countP id) := by
  rw [bitCount_sp (bin_lt64 hL), popN_bin _ _ hL]
