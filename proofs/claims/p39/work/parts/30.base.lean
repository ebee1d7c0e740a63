/-! small numbers -/
theorem jl_ (n : Nat) : (OfNat.ofNat n : Int32) = nI n := Eq.mpr (congrArg (fun z => z = nI n) (Eq.symm (Eq.refl (nI n)))) (Eq.refl (nI n))
theorem obs {α β : Type} (a : α) (f : α → Option β) : Option.bind (some a) f = f a := Eq.mpr (congrArg (fun z => z = f a) (Eq.symm (Option.bind_some a f))) (Eq.refl (f a))
theorem j_neg {a b : Nat} (h : b ≤ a) : nI a + -nI b = nI (a - b) := by
  rw [← pk_sub h, Int32.sub_eq_add_neg]
theorem jlt_t {α : Type} {a b : Nat} {x y : α} (h : a < b) (hb : b < 2147483648) : (if nI a < nI b then x else y) = x := if_pos (nI_lt h hb)
theorem jlt_f {α : Type} {a b : Nat} {x y : α} (h : b ≤ a) (ha : a < 2147483648) : (if nI a < nI b then x else y) = y := if_neg (nI_nlt h ha)
theorem jle_t {α : Type} {a b : Nat} {x y : α} (h : a ≤ b) (hb : b < 2147483648) : (if nI a ≤ nI b then x else y) = x := if_pos (nI_le h hb)
theorem jle_f {α : Type} {a b : Nat} {x y : α} (h : b < a) (ha : a < 2147483648) : (if nI a ≤ nI b then x else y) = y := if_neg (nI_ge h ha)
theorem jeq_t {α : Type} {a b : Nat} {x y : α} (h : a = b) : (if nI a = nI b then x else y) = x := if_pos (by rw [h])
theorem jeq_f {α : Type} {a b : Nat} {x y : α} (h : a ≠ b) (ha : a < 2147483648) (hb : b < 2147483648) : (if nI a = nI b then x else y) = y := if_neg (fun e => h ((nI_eq ha hb).mp e))
theorem jld {α : Type} {f : Nat → α} {k n : Nat} (h : k < n) (hn : n < 2147483648) : ldA f n (nI k) = some (f k) := by
  unfold ldA
  rw [if_neg (nI_in h hn), nI_clamp (by omega)]
def up {α : Type} (f : Nat → α) (k : Nat) (x : α) : Nat → α := fun j => if j = k then x else f j
theorem up_eq {α : Type} {f : Nat → α} {k j : Nat} {x : α} (h : j = k) : up f k x j = x := if_pos h
theorem up_ne {α : Type} {f : Nat → α} {k j : Nat} {x : α} (h : j ≠ k) : up f k x j = f j := if_neg h
theorem jst {α : Type} {f : Nat → α} {k n : Nat} {x : α} (h : k < n) (hn : n < 2147483648) : stA f n (nI k) x = some (up f k x) := by
  unfold stA
  rw [if_neg (nI_in h hn), nI_clamp (by omega)]
  rfl
theorem j_div {a d : Nat} (ha : a < 2147483648) (h0 : 0 < d) (hd : d < 2147483648) : nI a / nI d = nI (a / d) := pk_div ha h0 hd
theorem j_cases (x : Int32) : x < 0 ∨ ∃ k, k < 2147483648 ∧ x = nI k := by
  by_cases h : x < 0
  · exact Or.inl h
  · exact Or.inr (nI_of h)
/-! comparing with what is below 0 -/
theorem jnn_lt {x : Int32} {a : Nat} (h : x < nI 0) (ha : a < 2147483648) : x < nI a := by
  have h1 : (nI 0).toInt = 0 := nI_toInt (by omega)
  have h2 : (nI a).toInt = (a : Int) := nI_toInt ha
  rw [Int32.lt_iff_toInt_lt] at h ⊢
  omega
theorem jnn_ne {x : Int32} {a : Nat} (h : x < nI 0) (ha : a < 2147483648) : x ≠ nI a := fun e => by
  subst e; exact absurd h (nI_nlt (Nat.zero_le _) ha)
theorem jng {b : Nat} (h0 : 0 < b) (hb : b < 2147483648) : -nI b < nI 0 := by
  rw [Int32.lt_iff_toInt_lt, sb_negT hb, nI_toInt (by omega)]
  omega
theorem jnlt_t {α : Type} {a b : Nat} {x y : α} (h0 : 0 < b) (hb : b < 2147483648) (ha : a < 2147483648) : (if -nI b < nI a then x else y) = x := if_pos (jnn_lt (jng h0 hb) ha)
theorem jnle_t {α : Type} {a b : Nat} {x y : α} (h0 : 0 < b) (hb : b < 2147483648) (ha : a < 2147483648) : (if -nI b ≤ nI a then x else y) = x := if_pos (by
  rw [Int32.le_iff_toInt_le, sb_negT hb, nI_toInt ha]; omega)
theorem jngt_f {α : Type} {a b : Nat} {x y : α} (h0 : 0 < b) (hb : b < 2147483648) (ha : a < 2147483648) : (if nI a < -nI b then x else y) = y := if_neg (by
  rw [Int32.lt_iff_toInt_lt, sb_negT hb, nI_toInt ha]; omega)
theorem jnge_f {α : Type} {a b : Nat} {x y : α} (h0 : 0 < b) (hb : b < 2147483648) (ha : a < 2147483648) : (if nI a ≤ -nI b then x else y) = y := if_neg (by
  rw [Int32.le_iff_toInt_le, sb_negT hb, nI_toInt ha]; omega)
theorem jneq_f {α : Type} {a b : Nat} {x y : α} (h0 : 0 < b) (hb : b < 2147483648) (ha : a < 2147483648) : (if -nI b = nI a then x else y) = y := if_neg (jnn_ne (jng h0 hb) ha)
theorem jnqe_f {α : Type} {a b : Nat} {x y : α} (h0 : 0 < b) (hb : b < 2147483648) (ha : a < 2147483648) : (if nI a = -nI b then x else y) = y := if_neg (fun e => jnn_ne (jng h0 hb) ha e.symm)
theorem fu_lt {d : Nat} (h : d < 4000) : d < FU := h
example (n k s : Nat) (w : Nat → Int32) (a : Nat → Nat) (hn : n ≤ 64) (hk : k < n) (hw : ∀ k, k < n → w k = nI (a k)) (m : Nat) : fL_total_4 (m+1) w (nI n) (nI s) (nI k) = fL_total_4 m w (nI n) (nI (s + a k)) (nI (k + 1)) := by
  rw [fL_total_4]
  unfold fL_at
  simp (disch := omega) only [jl_, nI_add, pk_sub, pk_mul, j_neg, jlt_t, jlt_f, jle_t, jle_f, jeq_t, jeq_f, jld, jst, obs, j_div, ↓reduceIte, if_true, if_false, Nat.add_zero, Nat.sub_zero, Nat.add_sub_cancel_left]
  rw [hw k hk, nI_add]
