/-! the reference over its letters -/
def MW (w : Nat → Int32) (n : Nat) (a : Nat → Nat) : Prop := n ≤ 64 ∧ (∀ p, p < n → a p < 32) ∧ w 0 = nI n ∧ ∀ k, k < n → w (4 + k) = nI (a k)
def cn (f : Nat → Bool) (k d : Nat) : Nat := (List.range' k d).countP f
theorem cn_0 (f : Nat → Bool) (k : Nat) : cn f k 0 = 0 := rfl
theorem cn_s (f : Nat → Bool) (k d : Nat) : cn f k (d + 1) = (if f k then 1 else 0) + cn f (k + 1) d := by
  unfold cn
  rw [List.range'_succ, List.countP_cons, Nat.add_comm]
theorem cn_le (f : Nat → Bool) (k d : Nat) : cn f k d ≤ d := Nat.le_trans List.countP_le_length (by rw [List.length_range']; omega)
def sm (f : Nat → Nat) (k d : Nat) : Nat := ((List.range' k d).map f).sum
theorem sm_s (f : Nat → Nat) (k d : Nat) : sm f k (d + 1) = f k + sm f (k + 1) d := by
  unfold sm
  rw [List.range'_succ, List.map_cons, List.sum_cons]
theorem sm_le {f : Nat → Nat} {c k d : Nat} (h : ∀ p, k ≤ p → p < k + d → f p ≤ c) : sm f k d ≤ d * c := by
  induction d generalizing k with
  | zero => simp [sm]
  | succ d ih =>
    rw [sm_s, Nat.succ_mul]
    have := ih (k := k + 1) (fun p h1 h2 => h p (by omega) (by omega))
    have := h k (by omega) (by omega)
    omega
section MW
variable {w : Nat → Int32} {n : Nat} {a : Nat → Nat}
theorem is_sp (h : MW w n a) {k : Nat} (hk : k < n) : fM_is w (nI k) = some (nI (a k)) := by
  have hn := h.1
  unfold fM_is
  simp (disch := omega) only [jl_, nI_add, pk_sub, pk_mul, j_neg, jlt_t, jlt_f, jle_t, jle_f, jeq_t, jeq_f, jld, jst, obs, j_div, ↓reduceIte, if_true, if_false, Nat.add_zero, Nat.sub_zero, Nat.add_sub_cancel_left]
  rw [h.2.2.2 k hk]
theorem isB_sp (k lo hi : Nat) (h1 : k < 2147483648) (h2 : lo < 2147483648) (h3 : hi < 2147483648) : fM_isBetween (nI k) (nI lo) (nI hi) = bI (decide (lo ≤ k ∧ k ≤ hi)) := by
  unfold fM_isBetween
  by_cases c : lo ≤ k ∧ k ≤ hi
  · rw [decide_eq_true c]
    simp (disch := omega) only [jl_, nI_add, pk_sub, pk_mul, j_neg, jlt_t, jlt_f, jle_t, jle_f, jeq_t, jeq_f, jld, jst, obs, j_div, ↓reduceIte, if_true, if_false, Nat.add_zero, Nat.sub_zero, Nat.add_sub_cancel_left]
    rfl
  · rw [decide_eq_false c]
    by_cases c1 : k < lo
    · simp (disch := omega) only [jl_, nI_add, pk_sub, pk_mul, j_neg, jlt_t, jlt_f, jle_t, jle_f, jeq_t, jeq_f, jld, jst, obs, j_div, ↓reduceIte, if_true, if_false, Nat.add_zero, Nat.sub_zero, Nat.add_sub_cancel_left]
      rfl
    · simp (disch := omega) only [jl_, nI_add, pk_sub, pk_mul, j_neg, jlt_t, jlt_f, jle_t, jle_f, jeq_t, jeq_f, jld, jst, obs, j_div, ↓reduceIte, if_true, if_false, Nat.add_zero, Nat.sub_zero, Nat.add_sub_cancel_left]
      rfl
theorem isB_n {x y : Int32} {lo : Nat} (h : x < 0) (h2 : lo < 2147483648) : fM_isBetween x (nI lo) y = nI 0 := by
  unfold fM_isBetween
  rw [if_pos (jnn_lt h h2)]
  rfl
theorem mRow_sp (k : Nat) (h : k < 2147483648) : fM_isRow (nI k) = bI (decide (k < 5)) := by
  unfold fM_isRow
  simp only [jl_]
  rw [isB_sp k 0 4 h (by omega) (by omega)]
  exact congrArg bI (decide_eq_decide.mpr (by omega))
theorem mRow_n {x : Int32} (h : x < 0) : fM_isRow x = nI 0 := by
  unfold fM_isRow
  simp only [jl_]
  exact isB_n h (by omega)
theorem mWeight_sp (k : Nat) (h : k < 2147483648) : fM_isWeight (nI k) = bI (decide (k < 32)) := by
  unfold fM_isWeight
  simp only [jl_]
  rw [isB_sp k 0 31 h (by omega) (by omega)]
  exact congrArg bI (decide_eq_decide.mpr (by omega))
theorem mWeight_n {x : Int32} (h : x < 0) : fM_isWeight x = nI 0 := by
  unfold fM_isWeight
  simp only [jl_]
  exact isB_n h (by omega)
theorem mLetter_sp (h : MW w n a) (k : Nat) (hk : k < 2147483648) : fM_isLetter w (nI k) = some (bI (decide (k < n))) := by
  have hn := h.1
  unfold fM_isLetter
  simp (disch := omega) only [jl_, nI_add, pk_sub, pk_mul, j_neg, jlt_t, jlt_f, jle_t, jle_f, jeq_t, jeq_f, jld, jst, obs, j_div, ↓reduceIte, if_true, if_false, Nat.add_zero, Nat.sub_zero, Nat.add_sub_cancel_left]
  rw [h.2.2.1]
  cases n with
  | zero =>
    rw [show nI 0 - nI 1 = -nI 1 from by decide]
    unfold fM_isBetween
    rw [decide_eq_false (by omega)]
    simp (disch := omega) only [jl_, nI_add, pk_sub, pk_mul, j_neg, jlt_t, jlt_f, jle_t, jle_f, jeq_t, jeq_f, jnlt_t, jnle_t, jngt_f, jnge_f, jneq_f, jnqe_f, jld, jst, obs, j_div, ↓reduceIte, if_true, if_false, Nat.add_zero, Nat.sub_zero, Nat.add_sub_cancel_left]
    rfl
  | succ n =>
    simp (disch := omega) only [jl_, nI_add, pk_sub, pk_mul, j_neg, jlt_t, jlt_f, jle_t, jle_f, jeq_t, jeq_f, jld, jst, obs, j_div, ↓reduceIte, if_true, if_false, Nat.add_zero, Nat.sub_zero, Nat.add_sub_cancel_left]
    rw [isB_sp k 0 _ hk (by omega) (by omega)]
    exact congrArg (fun z => some (bI z)) (decide_eq_decide.mpr (by omega))
theorem mLetter_n {x : Int32} (h : x < 0) : fM_isLetter w x = some (nI 0) := by
  unfold fM_isLetter
  simp (disch := omega) only [jl_, nI_add, pk_sub, pk_mul, j_neg, jlt_t, jlt_f, jle_t, jle_f, jeq_t, jeq_f, jld, jst, obs, j_div, ↓reduceIte, if_true, if_false, Nat.add_zero, Nat.sub_zero, Nat.add_sub_cancel_left]
  rw [isB_n h (by omega)]
/-- a part of the letters, told by two ints -/
def PT (n : Nat) (x y : Int32) (f t : Nat) : Prop := x = nI f ∧ y = nI t ∧ f ≤ t ∧ t ≤ n
theorem mPart (h : MW w n a) (x y : Int32) : (fM_isPart w x y = some (nI 1) ∧ ∃ f t, PT n x y f t) ∨ fM_isPart w x y = some (nI 0) := by
  have hn := h.1
  unfold fM_isPart
  rcases j_cases x with hx | ⟨f, hf, rfl⟩
  · right; rw [if_pos hx]; rfl
  · by_cases c : y < nI f
    · right
      simp only [jl_]
      rw [jlt_f (by omega) (by omega), if_pos c]
    · rcases j_cases y with hy | ⟨t, ht, rfl⟩
      · exact absurd (jnn_lt hy hf) c
      · have hft : f ≤ t := by
          rcases Nat.lt_or_ge t f with z | z
          · exact absurd (nI_lt z hf) c
          · exact z
        by_cases ct : t ≤ n
        · left
          refine ⟨?_, f, t, rfl, rfl, hft, ct⟩
          simp (disch := omega) only [jl_, nI_add, pk_sub, pk_mul, j_neg, jlt_t, jlt_f, jle_t, jle_f, jeq_t, jeq_f, jld, jst, obs, j_div, ↓reduceIte, if_true, if_false, Nat.add_zero, Nat.sub_zero, Nat.add_sub_cancel_left]
          rw [h.2.2.1]
          simp (disch := omega) only [jl_, nI_add, pk_sub, pk_mul, j_neg, jlt_t, jlt_f, jle_t, jle_f, jeq_t, jeq_f, jld, jst, obs, j_div, ↓reduceIte, if_true, if_false, Nat.add_zero, Nat.sub_zero, Nat.add_sub_cancel_left]
        · right
          simp (disch := omega) only [jl_, nI_add, pk_sub, pk_mul, j_neg, jlt_t, jlt_f, jle_t, jle_f, jeq_t, jeq_f, jld, jst, obs, j_div, ↓reduceIte, if_true, if_false, Nat.add_zero, Nat.sub_zero, Nat.add_sub_cancel_left]
          rw [h.2.2.1]
          simp (disch := omega) only [jl_, nI_add, pk_sub, pk_mul, j_neg, jlt_t, jlt_f, jle_t, jle_f, jeq_t, jeq_f, jld, jst, obs, j_div, ↓reduceIte, if_true, if_false, Nat.add_zero, Nat.sub_zero, Nat.add_sub_cancel_left]
theorem having_6 (h : MW w n a) {t v : Nat} (ht : t ≤ n) (hv : v < 2147483648) : ∀ d k s m, k + d = t → d < m → s ≤ k → fM_having_6 m w (nI t) (nI v) (nI s) (nI k) = some (nI (s + cn (fun p => a p == v) k d)) := by
  have hn := h.1
  intro d
  induction d with
  | zero =>
    intro k s m h1 h2 h3
    obtain ⟨m, rfl⟩ : ∃ q, m = q + 1 := ⟨m - 1, by omega⟩
    rw [fM_having_6, cn_0]
    simp (disch := omega) only [jl_, nI_add, pk_sub, pk_mul, j_neg, jlt_t, jlt_f, jle_t, jle_f, jeq_t, jeq_f, jld, jst, obs, j_div, ↓reduceIte, if_true, if_false, Nat.add_zero, Nat.sub_zero, Nat.add_sub_cancel_left]
  | succ d ih =>
    intro k s m h1 h2 h3
    obtain ⟨m, rfl⟩ : ∃ q, m = q + 1 := ⟨m - 1, by omega⟩
    have hak := h.2.1 k (by omega)
    rw [fM_having_6, is_sp h (by omega), cn_s]
    by_cases c : a k = v
    · simp (disch := omega) only [jl_, nI_add, pk_sub, pk_mul, j_neg, jlt_t, jlt_f, jle_t, jle_f, jeq_t, jeq_f, jld, jst, obs, j_div, ↓reduceIte, if_true, if_false, Nat.add_zero, Nat.sub_zero, Nat.add_sub_cancel_left]
      rw [ih (k + 1) (s + 1) m (by omega) (by omega) (by omega)]
      simp [c]
      exact congrArg nI (by omega)
    · simp (disch := omega) only [jl_, nI_add, pk_sub, pk_mul, j_neg, jlt_t, jlt_f, jle_t, jle_f, jeq_t, jeq_f, jld, jst, obs, j_div, ↓reduceIte, if_true, if_false, Nat.add_zero, Nat.sub_zero, Nat.add_sub_cancel_left]
      rw [ih (k + 1) s m (by omega) (by omega) (by omega)]
      simp [c]
theorem having_sp (h : MW w n a) {f t v : Nat} (hf : f ≤ t) (ht : t ≤ n) (hv : v < 2147483648) : fM_having w (nI f) (nI t) (nI v) = some (nI (cn (fun p => a p == v) f (t - f))) := by
  have hn := h.1
  have e := having_6 h ht hv (t - f) f 0 FU (by omega) (fu_lt (by omega)) (by omega)
  rw [Nat.zero_add] at e
  exact e
theorem below_6 (h : MW w n a) {t v : Nat} (ht : t ≤ n) (hv : v < 2147483648) : ∀ d k s m, k + d = t → d < m → s ≤ k → fM_below_6 m w (nI t) (nI v) (nI s) (nI k) = some (nI (s + cn (fun p => decide (a p < v)) k d)) := by
  have hn := h.1
  intro d
  induction d with
  | zero =>
    intro k s m h1 h2 h3
    obtain ⟨m, rfl⟩ : ∃ q, m = q + 1 := ⟨m - 1, by omega⟩
    rw [fM_below_6, cn_0]
    simp (disch := omega) only [jl_, nI_add, pk_sub, pk_mul, j_neg, jlt_t, jlt_f, jle_t, jle_f, jeq_t, jeq_f, jld, jst, obs, j_div, ↓reduceIte, if_true, if_false, Nat.add_zero, Nat.sub_zero, Nat.add_sub_cancel_left]
  | succ d ih =>
    intro k s m h1 h2 h3
    obtain ⟨m, rfl⟩ : ∃ q, m = q + 1 := ⟨m - 1, by omega⟩
    have hak := h.2.1 k (by omega)
    rw [fM_below_6, is_sp h (by omega), cn_s]
    by_cases c : a k < v
    · simp (disch := omega) only [jl_, nI_add, pk_sub, pk_mul, j_neg, jlt_t, jlt_f, jle_t, jle_f, jeq_t, jeq_f, jld, jst, obs, j_div, ↓reduceIte, if_true, if_false, Nat.add_zero, Nat.sub_zero, Nat.add_sub_cancel_left]
      rw [ih (k + 1) (s + 1) m (by omega) (by omega) (by omega)]
      simp [c]
      exact congrArg nI (by omega)
    · simp (disch := omega) only [jl_, nI_add, pk_sub, pk_mul, j_neg, jlt_t, jlt_f, jle_t, jle_f, jeq_t, jeq_f, jld, jst, obs, j_div, ↓reduceIte, if_true, if_false, Nat.add_zero, Nat.sub_zero, Nat.add_sub_cancel_left]
      rw [ih (k + 1) s m (by omega) (by omega) (by omega)]
      simp [c]
theorem mbelow_sp (h : MW w n a) {f t v : Nat} (hf : f ≤ t) (ht : t ≤ n) (hv : v < 2147483648) : fM_below w (nI f) (nI t) (nI v) = some (nI (cn (fun p => decide (a p < v)) f (t - f))) := by
  have hn := h.1
  have e := below_6 h ht hv (t - f) f 0 FU (by omega) (fu_lt (by omega)) (by omega)
  rw [Nat.zero_add] at e
  exact e
theorem sum_5 (h : MW w n a) {t : Nat} (ht : t ≤ n) : ∀ d k s m, k + d = t → d < m → fM_sum_5 m w (nI t) (nI s) (nI k) = some (nI (s + sm a k d)) := by
  have hn := h.1
  intro d
  induction d with
  | zero =>
    intro k s m h1 h2
    obtain ⟨m, rfl⟩ : ∃ q, m = q + 1 := ⟨m - 1, by omega⟩
    rw [fM_sum_5]
    simp (disch := omega) only [jl_, nI_add, pk_sub, pk_mul, j_neg, jlt_t, jlt_f, jle_t, jle_f, jeq_t, jeq_f, jld, jst, obs, j_div, ↓reduceIte, if_true, if_false, Nat.add_zero, Nat.sub_zero, Nat.add_sub_cancel_left]
    rfl
  | succ d ih =>
    intro k s m h1 h2
    obtain ⟨m, rfl⟩ : ∃ q, m = q + 1 := ⟨m - 1, by omega⟩
    rw [fM_sum_5, is_sp h (by omega), sm_s]
    simp (disch := omega) only [jl_, nI_add, pk_sub, pk_mul, j_neg, jlt_t, jlt_f, jle_t, jle_f, jeq_t, jeq_f, jld, jst, obs, j_div, ↓reduceIte, if_true, if_false, Nat.add_zero, Nat.sub_zero, Nat.add_sub_cancel_left]
    rw [ih (k + 1) (s + a k) m (by omega) (by omega), Nat.add_assoc]
theorem sum_sp (h : MW w n a) {f t : Nat} (hf : f ≤ t) (ht : t ≤ n) : fM_sum w (nI f) (nI t) = some (nI (sm a f (t - f))) := by
  have hn := h.1
  have e := sum_5 h ht (t - f) f 0 FU (by omega) (fu_lt (by omega))
  rw [Nat.zero_add] at e
  exact e
theorem bySize_3 (h : MW w n a) {f t j v : Nat} (hf : f ≤ t) (ht : t ≤ n) (hq : IsQ a (List.range' f (t - f)) j v) (hj : j < 2147483648) (hv : v < 32) : ∀ d k m, k + d = v → d < m → fM_bySize_3 m w (nI f) (nI t) (nI j) (nI k) = some (nI v) := by
  have hn := h.1
  intro d
  induction d with
  | zero =>
    intro k m h1 h2
    obtain ⟨m, rfl⟩ : ∃ q, m = q + 1 := ⟨m - 1, by omega⟩
    have e : k = v := by omega
    subst e
    have := cn_le (fun p => decide (a p < k + 1)) f (t - f)
    have hq2 : j < cn (fun p => decide (a p < k + 1)) f (t - f) := hq.2
    rw [fM_bySize_3]
    simp only [jl_, nI_add]
    rw [mbelow_sp h hf ht (by omega)]
    simp (disch := omega) only [jl_, nI_add, pk_sub, pk_mul, j_neg, jlt_t, jlt_f, jle_t, jle_f, jeq_t, jeq_f, jld, jst, obs, j_div, ↓reduceIte, if_true, if_false, Nat.add_zero, Nat.sub_zero, Nat.add_sub_cancel_left]
  | succ d ih =>
    intro k m h1 h2
    obtain ⟨m, rfl⟩ : ∃ q, m = q + 1 := ⟨m - 1, by omega⟩
    have := cn_le (fun p => decide (a p < k + 1)) f (t - f)
    have hq2 : cn (fun p => decide (a p < k + 1)) f (t - f) ≤ j := Nat.le_trans (cnt_lt_mono a _ (by omega)) hq.1
    rw [fM_bySize_3]
    simp only [jl_, nI_add]
    rw [mbelow_sp h hf ht (by omega)]
    simp (disch := omega) only [jl_, nI_add, pk_sub, pk_mul, j_neg, jlt_t, jlt_f, jle_t, jle_f, jeq_t, jeq_f, jld, jst, obs, j_div, ↓reduceIte, if_true, if_false, Nat.add_zero, Nat.sub_zero, Nat.add_sub_cancel_left]
    exact ih (k + 1) m (by omega) (by omega)
theorem mbySize_sp (h : MW w n a) {f t j v : Nat} (hf : f ≤ t) (ht : t ≤ n) (hq : IsQ a (List.range' f (t - f)) j v) (hj : j < 2147483648) (hv : v < 32) : fM_bySize w (nI f) (nI t) (nI j) = some (nI v) := bySize_3 h hf ht hq hj hv v 0 FU (by omega) (fu_lt (by omega))
end MW
