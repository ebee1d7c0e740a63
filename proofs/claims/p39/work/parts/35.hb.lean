/-! a bit of a weight in a row -/
def hb (r v : Nat) : Bool := v / 2 ^ (4 - r) % 2 == 1
def bI (b : Bool) : Int32 := nI (if b then 1 else 0)
theorem bI_t : bI true = nI 1 := rfl
theorem bI_f : bI false = nI 0 := rfl
theorem hasBit_all : ∀ r, r < 5 → ∀ v, v < 32 → fS_hasBit (nI v) (nI r) = bI (hb r v) := by decide +kernel
theorem hasBit_sp {r v : Nat} (hr : r < 5) (hv : v < 32) : fS_hasBit (nI v) (nI r) = bI (hb r v) := hasBit_all r hr v hv
theorem bitOf_all : ∀ r, r < 5 → ∀ v, v < 32 → fM_bitOf (nI v) (nI r) = bI (hb r v) := by decide +kernel
theorem bitOf_sp {r v : Nat} (hr : r < 5) (hv : v < 32) : fM_bitOf (nI v) (nI r) = bI (hb r v) := bitOf_all r hr v hv
theorem bits5_all : ∀ v, v < 32 → ∀ w, w < 32 → (((((hb 0 v == hb 0 w) && (hb 1 v == hb 1 w)) && (hb 2 v == hb 2 w)) && (hb 3 v == hb 3 w)) && (hb 4 v == hb 4 w)) = (v == w) := by decide +kernel
theorem hb_step {r v : Nat} (hr : r < 5) : v / 2 ^ (4 - r) = v / 2 ^ (5 - r) * 2 + (if hb r v then 1 else 0) := by
  have h : 2 ^ (5 - r) = 2 ^ (4 - r) * 2 := by rw [← Nat.pow_succ]; congr 1; omega
  rw [h, ← Nat.div_div_eq_div_mul]
  unfold hb
  generalize v / 2 ^ (4 - r) = y
  by_cases hy : y % 2 = 1
  · simp [hy]; omega
  · have : (y % 2 == 1) = false := by simp [hy]
    rw [this]
    simp
    omega
theorem isRow_t {r : Nat} (h : r < 5) : fS_isRow (nI r) = nI 1 := by
  unfold fS_isRow
  simp (disch := omega) only [jl_, nI_add, pk_sub, pk_mul, j_neg, jlt_t, jlt_f, jle_t, jle_f, jeq_t, jeq_f, jld, jst, obs, j_div, ↓reduceIte, if_true, if_false, Nat.add_zero, Nat.sub_zero, Nat.add_sub_cancel_left]
theorem isRow_f {r : Nat} (h : 5 ≤ r) (h2 : r < 2147483648) : fS_isRow (nI r) = nI 0 := by
  unfold fS_isRow
  simp (disch := omega) only [jl_, nI_add, pk_sub, pk_mul, j_neg, jlt_t, jlt_f, jle_t, jle_f, jeq_t, jeq_f, jld, jst, obs, j_div, ↓reduceIte, if_true, if_false, Nat.add_zero, Nat.sub_zero, Nat.add_sub_cancel_left]
theorem isRow_n {x : Int32} (h : x < 0) : fS_isRow x = nI 0 := by
  unfold fS_isRow
  rw [if_pos h]
  rfl
theorem isWeight_t {r : Nat} (h : r < 32) : fS_isWeight (nI r) = nI 1 := by
  unfold fS_isWeight
  simp (disch := omega) only [jl_, nI_add, pk_sub, pk_mul, j_neg, jlt_t, jlt_f, jle_t, jle_f, jeq_t, jeq_f, jld, jst, obs, j_div, ↓reduceIte, if_true, if_false, Nat.add_zero, Nat.sub_zero, Nat.add_sub_cancel_left]
theorem isWeight_f {r : Nat} (h : 32 ≤ r) (h2 : r < 2147483648) : fS_isWeight (nI r) = nI 0 := by
  unfold fS_isWeight
  simp (disch := omega) only [jl_, nI_add, pk_sub, pk_mul, j_neg, jlt_t, jlt_f, jle_t, jle_f, jeq_t, jeq_f, jld, jst, obs, j_div, ↓reduceIte, if_true, if_false, Nat.add_zero, Nat.sub_zero, Nat.add_sub_cancel_left]
theorem isWeight_n {x : Int32} (h : x < 0) : fS_isWeight x = nI 0 := by
  unfold fS_isWeight
  rw [if_pos h]
  rfl
/-- the bits of letters in the rows -/
def qb (a : Nat → Nat) (r p : Nat) : Bool := hb r (a p)
