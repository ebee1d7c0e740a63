/-! parts: how often, unlike ones, common ones -/
theorem fY_3 {w2 : Nat → Int32} {x y : Int32} : ∀ d v m (g : Nat → Int32), v + d = 32 → d < m → (∀ j, j < v → g j = nI 0) → ∃ g', fY_fill_3 m g w2 x y (nI v) = fY_fill_30 FU g' w2 y x ∧ ∀ j, j < 32 → g' j = nI 0 := by
  intro d
  induction d with
  | zero =>
    intro v m g h1 h2 h3
    obtain ⟨m, rfl⟩ : ∃ q, m = q + 1 := ⟨m - 1, by omega⟩
    refine ⟨g, ?_, fun j hj => h3 j (by omega)⟩
    rw [fY_fill_3]
    simp (disch := omega) only [jl_, nI_add, pk_sub, pk_mul, j_neg, jlt_t, jlt_f, jle_t, jle_f, jeq_t, jeq_f, jld, jst, obs, j_div, ↓reduceIte, if_true, if_false, Nat.add_zero, Nat.sub_zero, Nat.add_sub_cancel_left]
  | succ d ih =>
    intro v m g h1 h2 h3
    obtain ⟨m, rfl⟩ : ∃ q, m = q + 1 := ⟨m - 1, by omega⟩
    obtain ⟨g', e, h4⟩ := ih (v + 1) m (up g v (nI 0)) (by omega) (by omega) (fun j hj => by
      by_cases c : j = v
      · rw [up_eq c]
      · rw [up_ne c]; exact h3 j (by omega))
    refine ⟨g', ?_, h4⟩
    rw [fY_fill_3]
    simp (disch := omega) only [jl_, nI_add, pk_sub, pk_mul, j_neg, jlt_t, jlt_f, jle_t, jle_f, jeq_t, jeq_f, jld, jst, obs, j_div, ↓reduceIte, if_true, if_false, Nat.add_zero, Nat.sub_zero, Nat.add_sub_cancel_left]
    exact e
theorem fY_30 {w2 : Nat → Int32} {n f t : Nat} {a : Nat → Nat} (hn : n ≤ 64) (hw : ∀ k, k < n → w2 k = nI (a k)) (ha : ∀ k, k < n → a k < 32) (ht : t ≤ n) : ∀ d p m (g : Nat → Int32), p + d = t → d < m → f ≤ p → (∀ v, v < 32 → g v = nI (cn (fun k => a k == v) f (p - f))) → ∃ g', fY_fill_30 m g w2 (nI t) (nI p) = some g' ∧ ∀ v, v < 32 → g' v = nI (cn (fun k => a k == v) f (t - f)) := by
  intro d
  induction d with
  | zero =>
    intro p m g h1 h2 h3 h4
    obtain ⟨m, rfl⟩ : ∃ q, m = q + 1 := ⟨m - 1, by omega⟩
    have e : p = t := by omega
    subst e
    refine ⟨g, ?_, h4⟩
    rw [fY_fill_30]
    simp (disch := omega) only [jl_, nI_add, pk_sub, pk_mul, j_neg, jlt_t, jlt_f, jle_t, jle_f, jeq_t, jeq_f, jld, jst, obs, j_div, ↓reduceIte, if_true, if_false, Nat.add_zero, Nat.sub_zero, Nat.add_sub_cancel_left]
  | succ d ih =>
    intro p m g h1 h2 h3 h4
    obtain ⟨m, rfl⟩ : ∃ q, m = q + 1 := ⟨m - 1, by omega⟩
    have hap := ha p (by omega)
    obtain ⟨g', e, h5⟩ := ih (p + 1) m (up g (a p) (g (a p) + nI 1)) (by omega) (by omega) (by omega) (fun v hv => by
      rw [show p + 1 - f = (p - f) + 1 by omega, cn_r, show f + (p - f) = p by omega]
      by_cases c : v = a p
      · rw [up_eq c, ← c, h4 v hv, nI_add]
        simp [c]
      · rw [up_ne c, h4 v hv]
        simp [show ¬ a p = v by omega])
    refine ⟨g', ?_, h5⟩
    rw [fY_fill_30]
    simp (disch := omega) only [jl_, jle_f, nI_add]
    rw [at_sp (by omega), hw p (by omega)]
    simp (disch := omega) only [jl_, nI_add, pk_sub, pk_mul, j_neg, jlt_t, jlt_f, jle_t, jle_f, jeq_t, jeq_f, jld, jst, obs, j_div, ↓reduceIte, if_true, if_false, Nat.add_zero, Nat.sub_zero, Nat.add_sub_cancel_left]
    exact e
theorem yfill_sp {w2 : Nat → Int32} {n f t : Nat} {a : Nat → Nat} (hn : n ≤ 64) (hw : ∀ k, k < n → w2 k = nI (a k)) (ha : ∀ k, k < n → a k < 32) (hf : f ≤ t) (ht : t ≤ n) (g : Nat → Int32) : ∃ g', fY_fill g w2 (nI f) (nI t) = some g' ∧ ∀ v, v < 32 → g' v = nI (cn (fun k => a k == v) f (t - f)) := by
  obtain ⟨g1, e1, h1⟩ := fY_3 (w2 := w2) (x := nI f) (y := nI t) 32 0 FU g (by omega) (fu_lt (by omega)) (fun j hj => by omega)
  obtain ⟨g2, e2, h2⟩ := fY_30 (f := f) hn hw ha ht (t - f) f FU g1 (by omega) (fu_lt (by omega)) (Nat.le_refl _) (fun v hv => by rw [Nat.sub_self, cn_0]; exact h1 v hv)
  refine ⟨g2, ?_, h2⟩
  unfold fY_fill
  simp only [jl_]
  rw [e1]
  exact e2
section P
variable {w : Nat → Int32} {n f t : Nat} {a : Nat → Nat} {g : Nat → Int32}
theorem unlike_both (h : MW w n a) (hf : f ≤ t) (ht : t ≤ n) (hg : ∀ v, v < 32 → g v = nI (cn (fun k => a k == v) f (t - f))) : ∀ d v m m' (s : Int32), v + d = 32 → d < m → d < m' → ∃ z, fY_unlike_4 m g s (nI v) = some z ∧ fM_unlike_5 m' w (nI f) (nI t) s (nI v) = some z := by
  have hn := h.1
  intro d
  induction d with
  | zero =>
    intro v m m' s h1 h2 h3
    obtain ⟨m, rfl⟩ : ∃ q, m = q + 1 := ⟨m - 1, by omega⟩
    obtain ⟨m', rfl⟩ : ∃ q, m' = q + 1 := ⟨m' - 1, by omega⟩
    refine ⟨s, ?_, ?_⟩
    · rw [fY_unlike_4]
      simp (disch := omega) only [jl_, nI_add, pk_sub, pk_mul, j_neg, jlt_t, jlt_f, jle_t, jle_f, jeq_t, jeq_f, jld, jst, obs, j_div, ↓reduceIte, if_true, if_false, Nat.add_zero, Nat.sub_zero, Nat.add_sub_cancel_left]
    · rw [fM_unlike_5]
      simp (disch := omega) only [jl_, nI_add, pk_sub, pk_mul, j_neg, jlt_t, jlt_f, jle_t, jle_f, jeq_t, jeq_f, jld, jst, obs, j_div, ↓reduceIte, if_true, if_false, Nat.add_zero, Nat.sub_zero, Nat.add_sub_cancel_left]
  | succ d ih =>
    intro v m m' s h1 h2 h3
    obtain ⟨m, rfl⟩ : ∃ q, m = q + 1 := ⟨m - 1, by omega⟩
    obtain ⟨m', rfl⟩ : ∃ q, m' = q + 1 := ⟨m' - 1, by omega⟩
    have hc := cn_le (fun k => a k == v) f (t - f)
    rw [fY_unlike_4, fM_unlike_5, having_sp h hf ht (by omega)]
    by_cases c : cn (fun k => a k == v) f (t - f) ≤ 0
    · obtain ⟨z, f1, f2⟩ := ih (v + 1) m m' s (by omega) (by omega) (by omega)
      refine ⟨z, ?_, ?_⟩
      · simp (disch := omega) only [jl_, nI_add, pk_sub, pk_mul, j_neg, jlt_t, jlt_f, jle_t, jle_f, jeq_t, jeq_f, jld, jst, obs, j_div, ↓reduceIte, if_true, if_false, Nat.add_zero, Nat.sub_zero, Nat.add_sub_cancel_left]
        rw [hg v (by omega)]
        simp (disch := omega) only [jl_, nI_add, pk_sub, pk_mul, j_neg, jlt_t, jlt_f, jle_t, jle_f, jeq_t, jeq_f, jld, jst, obs, j_div, ↓reduceIte, if_true, if_false, Nat.add_zero, Nat.sub_zero, Nat.add_sub_cancel_left]
        exact f1
      · simp (disch := omega) only [jl_, nI_add, pk_sub, pk_mul, j_neg, jlt_t, jlt_f, jle_t, jle_f, jeq_t, jeq_f, jld, jst, obs, j_div, ↓reduceIte, if_true, if_false, Nat.add_zero, Nat.sub_zero, Nat.add_sub_cancel_left]
        rw [j_z]
        exact f2
    · obtain ⟨z, f1, f2⟩ := ih (v + 1) m m' (s + nI 1) (by omega) (by omega) (by omega)
      refine ⟨z, ?_, ?_⟩
      · simp (disch := omega) only [jl_, nI_add, pk_sub, pk_mul, j_neg, jlt_t, jlt_f, jle_t, jle_f, jeq_t, jeq_f, jld, jst, obs, j_div, ↓reduceIte, if_true, if_false, Nat.add_zero, Nat.sub_zero, Nat.add_sub_cancel_left]
        rw [hg v (by omega)]
        simp (disch := omega) only [jl_, nI_add, pk_sub, pk_mul, j_neg, jlt_t, jlt_f, jle_t, jle_f, jeq_t, jeq_f, jld, jst, obs, j_div, ↓reduceIte, if_true, if_false, Nat.add_zero, Nat.sub_zero, Nat.add_sub_cancel_left]
        exact f1
      · simp (disch := omega) only [jl_, nI_add, pk_sub, pk_mul, j_neg, jlt_t, jlt_f, jle_t, jle_f, jeq_t, jeq_f, jld, jst, obs, j_div, ↓reduceIte, if_true, if_false, Nat.add_zero, Nat.sub_zero, Nat.add_sub_cancel_left]
        exact f2
theorem unlike_sp (h : MW w n a) (hf : f ≤ t) (ht : t ≤ n) (hg : ∀ v, v < 32 → g v = nI (cn (fun k => a k == v) f (t - f))) : ∃ z, fY_unlike g = some z ∧ fM_unlike w (nI f) (nI t) = some z := by
  obtain ⟨z, e1, e2⟩ := unlike_both h hf ht hg 32 0 FU FU (nI 0) (by omega) (fu_lt (by omega)) (fu_lt (by omega))
  exact ⟨z, e1, e2⟩
theorem common_46 (h : MW w n a) (hf : f ≤ t) (ht : t ≤ n) (hg : ∀ v, v < 32 → g v = nI (cn (fun k => a k == v) f (t - f))) {q : Nat} (hq : q < 32) {pl : Int32} : ∀ d v m m' (s : Int32), v + d = 32 → d < m → d < m' → ∃ z, fY_numberAheadOf_29 m g (nI q) (nI (cn (fun k => a k == q) f (t - f))) s (nI v) = some z ∧ fM_common_46 m' w (nI f) (nI t) pl (nI q) (nI (cn (fun k => a k == q) f (t - f))) s (nI v) = some z := by
  have hn := h.1
  have hcq := cn_le (fun k => a k == q) f (t - f)
  intro d
  induction d with
  | zero =>
    intro v m m' s h1 h2 h3
    obtain ⟨m, rfl⟩ : ∃ q, m = q + 1 := ⟨m - 1, by omega⟩
    obtain ⟨m', rfl⟩ : ∃ q, m' = q + 1 := ⟨m' - 1, by omega⟩
    refine ⟨s, ?_, ?_⟩
    · rw [fY_numberAheadOf_29]
      simp (disch := omega) only [jl_, nI_add, pk_sub, pk_mul, j_neg, jlt_t, jlt_f, jle_t, jle_f, jeq_t, jeq_f, jld, jst, obs, j_div, ↓reduceIte, if_true, if_false, Nat.add_zero, Nat.sub_zero, Nat.add_sub_cancel_left]
    · rw [fM_common_46]
      simp (disch := omega) only [jl_, nI_add, pk_sub, pk_mul, j_neg, jlt_t, jlt_f, jle_t, jle_f, jeq_t, jeq_f, jld, jst, obs, j_div, ↓reduceIte, if_true, if_false, Nat.add_zero, Nat.sub_zero, Nat.add_sub_cancel_left]
  | succ d ih =>
    intro v m m' s h1 h2 h3
    obtain ⟨m, rfl⟩ : ∃ q, m = q + 1 := ⟨m - 1, by omega⟩
    obtain ⟨m', rfl⟩ : ∃ q, m' = q + 1 := ⟨m' - 1, by omega⟩
    have hc := cn_le (fun k => a k == v) f (t - f)
    rw [fY_numberAheadOf_29, fM_common_46, having_sp h hf ht (by omega)]
    by_cases c : cn (fun k => a k == q) f (t - f) < cn (fun k => a k == v) f (t - f)
    · obtain ⟨z, f1, f2⟩ := ih (v + 1) m m' (s + nI 1) (by omega) (by omega) (by omega)
      refine ⟨z, ?_, ?_⟩
      · simp (disch := omega) only [jl_, nI_add, pk_sub, pk_mul, j_neg, jlt_t, jlt_f, jle_t, jle_f, jeq_t, jeq_f, jld, jst, obs, j_div, ↓reduceIte, if_true, if_false, Nat.add_zero, Nat.sub_zero, Nat.add_sub_cancel_left]
        rw [hg v (by omega)]
        simp (disch := omega) only [jl_, nI_add, pk_sub, pk_mul, j_neg, jlt_t, jlt_f, jle_t, jle_f, jeq_t, jeq_f, jld, jst, obs, j_div, ↓reduceIte, if_true, if_false, Nat.add_zero, Nat.sub_zero, Nat.add_sub_cancel_left]
        exact f1
      · simp (disch := omega) only [jl_, nI_add, pk_sub, pk_mul, j_neg, jlt_t, jlt_f, jle_t, jle_f, jeq_t, jeq_f, jld, jst, obs, j_div, ↓reduceIte, if_true, if_false, Nat.add_zero, Nat.sub_zero, Nat.add_sub_cancel_left]
        exact f2
    · by_cases c2 : cn (fun k => a k == v) f (t - f) = cn (fun k => a k == q) f (t - f)
      · by_cases c3 : q ≤ v
        · obtain ⟨z, f1, f2⟩ := ih (v + 1) m m' s (by omega) (by omega) (by omega)
          refine ⟨z, ?_, ?_⟩
          · simp (disch := omega) only [jl_, nI_add, pk_sub, pk_mul, j_neg, jlt_t, jlt_f, jle_t, jle_f, jeq_t, jeq_f, jld, jst, obs, j_div, ↓reduceIte, if_true, if_false, Nat.add_zero, Nat.sub_zero, Nat.add_sub_cancel_left]
            rw [hg v (by omega)]
            simp (disch := omega) only [jl_, nI_add, pk_sub, pk_mul, j_neg, jlt_t, jlt_f, jle_t, jle_f, jeq_t, jeq_f, jld, jst, obs, j_div, ↓reduceIte, if_true, if_false, Nat.add_zero, Nat.sub_zero, Nat.add_sub_cancel_left]
            exact f1
          · simp (disch := omega) only [jl_, nI_add, pk_sub, pk_mul, j_neg, jlt_t, jlt_f, jle_t, jle_f, jeq_t, jeq_f, jld, jst, obs, j_div, ↓reduceIte, if_true, if_false, Nat.add_zero, Nat.sub_zero, Nat.add_sub_cancel_left]
            rw [j_z]
            exact f2
        · obtain ⟨z, f1, f2⟩ := ih (v + 1) m m' (s + nI 1) (by omega) (by omega) (by omega)
          refine ⟨z, ?_, ?_⟩
          · simp (disch := omega) only [jl_, nI_add, pk_sub, pk_mul, j_neg, jlt_t, jlt_f, jle_t, jle_f, jeq_t, jeq_f, jld, jst, obs, j_div, ↓reduceIte, if_true, if_false, Nat.add_zero, Nat.sub_zero, Nat.add_sub_cancel_left]
            rw [hg v (by omega)]
            simp (disch := omega) only [jl_, nI_add, pk_sub, pk_mul, j_neg, jlt_t, jlt_f, jle_t, jle_f, jeq_t, jeq_f, jld, jst, obs, j_div, ↓reduceIte, if_true, if_false, Nat.add_zero, Nat.sub_zero, Nat.add_sub_cancel_left]
            exact f1
          · simp (disch := omega) only [jl_, nI_add, pk_sub, pk_mul, j_neg, jlt_t, jlt_f, jle_t, jle_f, jeq_t, jeq_f, jld, jst, obs, j_div, ↓reduceIte, if_true, if_false, Nat.add_zero, Nat.sub_zero, Nat.add_sub_cancel_left]
            exact f2
      · obtain ⟨z, f1, f2⟩ := ih (v + 1) m m' s (by omega) (by omega) (by omega)
        refine ⟨z, ?_, ?_⟩
        · simp (disch := omega) only [jl_, nI_add, pk_sub, pk_mul, j_neg, jlt_t, jlt_f, jle_t, jle_f, jeq_t, jeq_f, jld, jst, obs, j_div, ↓reduceIte, if_true, if_false, Nat.add_zero, Nat.sub_zero, Nat.add_sub_cancel_left]
          rw [hg v (by omega)]
          simp (disch := omega) only [jl_, nI_add, pk_sub, pk_mul, j_neg, jlt_t, jlt_f, jle_t, jle_f, jeq_t, jeq_f, jld, jst, obs, j_div, ↓reduceIte, if_true, if_false, Nat.add_zero, Nat.sub_zero, Nat.add_sub_cancel_left]
          exact f1
        · simp (disch := omega) only [jl_, nI_add, pk_sub, pk_mul, j_neg, jlt_t, jlt_f, jle_t, jle_f, jeq_t, jeq_f, jld, jst, obs, j_div, ↓reduceIte, if_true, if_false, Nat.add_zero, Nat.sub_zero, Nat.add_sub_cancel_left]
          rw [j_z]
          exact f2
theorem common_15 (h : MW w n a) (hf : f ≤ t) (ht : t ≤ n) (hg : ∀ v, v < 32 → g v = nI (cn (fun k => a k == v) f (t - f))) {pl : Int32} : ∀ d v m m', v + d = 32 → d < m → d < m' → ∃ r r', fY_byNumber_2 m g pl (nI v) = some r ∧ fM_common_15 m' w (nI f) (nI t) pl (nI v) = some r' ∧ ((∃ q, q < 64 ∧ r = nI q ∧ r' = nI q) ∨ (r = -nI 1 ∧ r' = -nI 11)) := by
  have hn := h.1
  intro d
  induction d with
  | zero =>
    intro v m m' h1 h2 h3
    obtain ⟨m, rfl⟩ : ∃ q, m = q + 1 := ⟨m - 1, by omega⟩
    obtain ⟨m', rfl⟩ : ∃ q, m' = q + 1 := ⟨m' - 1, by omega⟩
    refine ⟨-nI 1, -nI 11, ?_, ?_, Or.inr ⟨rfl, rfl⟩⟩
    · rw [fY_byNumber_2]
      simp (disch := omega) only [jl_, nI_add, pk_sub, pk_mul, j_neg, jlt_t, jlt_f, jle_t, jle_f, jeq_t, jeq_f, jld, jst, obs, j_div, ↓reduceIte, if_true, if_false, Nat.add_zero, Nat.sub_zero, Nat.add_sub_cancel_left]
    · rw [fM_common_15]
      simp (disch := omega) only [jl_, nI_add, pk_sub, pk_mul, j_neg, jlt_t, jlt_f, jle_t, jle_f, jeq_t, jeq_f, jld, jst, obs, j_div, ↓reduceIte, if_true, if_false, Nat.add_zero, Nat.sub_zero, Nat.add_sub_cancel_left]
  | succ d ih =>
    intro v m m' h1 h2 h3
    obtain ⟨m, rfl⟩ : ∃ q, m = q + 1 := ⟨m - 1, by omega⟩
    obtain ⟨m', rfl⟩ : ∃ q, m' = q + 1 := ⟨m' - 1, by omega⟩
    have hc := cn_le (fun k => a k == v) f (t - f)
    obtain ⟨r, r', f1, f2, f3⟩ := ih (v + 1) m m' (by omega) (by omega) (by omega)
    obtain ⟨z, e1, e2⟩ := common_46 h hf ht hg (show v < 32 by omega) (pl := pl) 32 0 FU FU (nI 0) (by omega) (fu_lt (by omega)) (fu_lt (by omega))
    have e3 : fY_numberAheadOf g (nI v) = some z := by
      unfold fY_numberAheadOf
      simp (disch := omega) only [jl_, nI_add, pk_sub, pk_mul, j_neg, jlt_t, jlt_f, jle_t, jle_f, jeq_t, jeq_f, jld, jst, obs, j_div, ↓reduceIte, if_true, if_false, Nat.add_zero, Nat.sub_zero, Nat.add_sub_cancel_left]
      rw [hg v (by omega)]
      exact e1
    rw [fY_byNumber_2, fM_common_15, having_sp h hf ht (by omega), e3]
    by_cases c0 : cn (fun k => a k == v) f (t - f) = 0
    · refine ⟨r, r', ?_, ?_, f3⟩
      · simp (disch := omega) only [jl_, nI_add, pk_sub, pk_mul, j_neg, jlt_t, jlt_f, jle_t, jle_f, jeq_t, jeq_f, jld, jst, obs, j_div, ↓reduceIte, if_true, if_false, Nat.add_zero, Nat.sub_zero, Nat.add_sub_cancel_left]
        rw [hg v (by omega)]
        simp (disch := omega) only [jl_, nI_add, pk_sub, pk_mul, j_neg, jlt_t, jlt_f, jle_t, jle_f, jeq_t, jeq_f, jld, jst, obs, j_div, ↓reduceIte, if_true, if_false, Nat.add_zero, Nat.sub_zero, Nat.add_sub_cancel_left]
        exact f1
      · simp (disch := omega) only [jl_, nI_add, pk_sub, pk_mul, j_neg, jlt_t, jlt_f, jle_t, jle_f, jeq_t, jeq_f, jld, jst, obs, j_div, ↓reduceIte, if_true, if_false, Nat.add_zero, Nat.sub_zero, Nat.add_sub_cancel_left]
        exact f2
    · by_cases c : z = pl
      · refine ⟨nI v, nI v, ?_, ?_, Or.inl ⟨v, by omega, rfl, rfl⟩⟩
        · simp (disch := omega) only [jl_, nI_add, pk_sub, pk_mul, j_neg, jlt_t, jlt_f, jle_t, jle_f, jeq_t, jeq_f, jld, jst, obs, j_div, ↓reduceIte, if_true, if_false, Nat.add_zero, Nat.sub_zero, Nat.add_sub_cancel_left]
          rw [hg v (by omega)]
          simp (disch := omega) only [jl_, nI_add, pk_sub, pk_mul, j_neg, jlt_t, jlt_f, jle_t, jle_f, jeq_t, jeq_f, jld, jst, obs, j_div, ↓reduceIte, if_true, if_false, Nat.add_zero, Nat.sub_zero, Nat.add_sub_cancel_left]
          rw [if_pos c]
        · simp (disch := omega) only [jl_, jlt_f, jeq_f, obs]
          rw [e2]
          simp only [obs]
          rw [if_pos c]
      · refine ⟨r, r', ?_, ?_, f3⟩
        · simp (disch := omega) only [jl_, nI_add, pk_sub, pk_mul, j_neg, jlt_t, jlt_f, jle_t, jle_f, jeq_t, jeq_f, jld, jst, obs, j_div, ↓reduceIte, if_true, if_false, Nat.add_zero, Nat.sub_zero, Nat.add_sub_cancel_left]
          rw [hg v (by omega)]
          simp (disch := omega) only [jl_, nI_add, pk_sub, pk_mul, j_neg, jlt_t, jlt_f, jle_t, jle_f, jeq_t, jeq_f, jld, jst, obs, j_div, ↓reduceIte, if_true, if_false, Nat.add_zero, Nat.sub_zero, Nat.add_sub_cancel_left]
          rw [if_neg c]
          exact f1
        · simp (disch := omega) only [jl_, jlt_f, jeq_f, obs, nI_add]
          rw [e2]
          simp only [obs]
          rw [if_neg c]
          exact f2
end P
/-! weights put in order -/
def ZA (s : Nat → Int32) (A B : List Nat) (o : Nat) : Prop := (∀ k x, A[k]? = some x → s k = nI x) ∧ (∀ k x, B[k]? = some x → s (A.length + o + k) = nI x)
theorem zlay_5 {v : Nat} {n : Nat} (hv : v < 32) (hn : n < 64) : ∀ (d : Nat) (A B : List Nat) (m : Nat) (s : Nat → Int32), A.length = d → d < m → A.length + B.length = n → (∀ x ∈ A ++ B, x < 32) → (A ++ B).Pairwise (· ≤ ·) → (∀ x ∈ B, v < x) → ZA s A B 1 →
    ∃ (s' : Nat → Int32) (L : List Nat), fZ_lay_5 m s (nI n) (nI v) (nI A.length) = some (s', nI (n + 1)) ∧ L.Perm (v :: (A ++ B)) ∧ L.Pairwise (· ≤ ·) ∧ ∀ k x, L[k]? = some x → s' k = nI x := by
  intro d
  induction d with
  | zero =>
    intro A B m s h1 h2 h3 h4 h5 h6 h7
    obtain ⟨m, rfl⟩ : ∃ q, m = q + 1 := ⟨m - 1, by omega⟩
    have eA : A = [] := List.length_eq_zero_iff.mp h1
    subst eA
    refine ⟨up s 0 (nI v), v :: B, ?_, by simp, ?_, ?_⟩
    · rw [fZ_lay_5, List.length_nil]
      simp (disch := omega) only [jl_, nI_add, pk_sub, pk_mul, j_neg, jlt_t, jlt_f, jle_t, jle_f, jeq_t, jeq_f, jld, jst, obs, j_div, ↓reduceIte, if_true, if_false, Nat.add_zero, Nat.sub_zero, Nat.add_sub_cancel_left]
    · exact List.pairwise_cons.mpr ⟨fun x hx => Nat.le_of_lt (h6 x hx), h5⟩
    · intro k x hk
      cases k with
      | zero =>
        rw [List.getElem?_cons_zero] at hk
        cases hk
        exact up_eq rfl
      | succ k =>
        rw [List.getElem?_cons_succ] at hk
        rw [up_ne (by omega)]
        have := h7.2 k x hk
        rw [List.length_nil, show 0 + 1 + k = k + 1 by omega] at this
        exact this
  | succ d ih =>
    intro A B m s h1 h2 h3 h4 h5 h6 h7
    obtain ⟨m, rfl⟩ : ∃ q, m = q + 1 := ⟨m - 1, by omega⟩
    obtain ⟨A', x, rfl⟩ : ∃ A' x, A = A' ++ [x] := by
      have hne : A ≠ [] := by intro e; rw [e] at h1; simp at h1
      exact ⟨A.dropLast, A.getLast hne, (List.dropLast_concat_getLast hne).symm⟩
    rw [List.length_append, List.length_singleton] at h1 h3
    have hx : s A'.length = nI x := h7.1 A'.length x (by simp)
    have hx32 : x < 32 := h4 x (by simp)
    have hs5 := List.pairwise_append.mp h5
    by_cases c : x ≤ v
    · refine ⟨up s (A'.length + 1) (nI v), (A' ++ [x]) ++ v :: B, ?_, List.perm_middle, ?_, ?_⟩
      · rw [fZ_lay_5, List.length_append, List.length_singleton]
        simp (disch := omega) only [jl_, jle_f, pk_sub, Nat.add_sub_cancel, jld, obs]
        rw [hx]
        simp (disch := omega) only [jl_, nI_add, pk_sub, pk_mul, j_neg, jlt_t, jlt_f, jle_t, jle_f, jeq_t, jeq_f, jld, jst, obs, j_div, ↓reduceIte, if_true, if_false, Nat.add_zero, Nat.sub_zero, Nat.add_sub_cancel_left]
      · refine List.pairwise_append.mpr ⟨hs5.1, List.pairwise_cons.mpr ⟨fun y hy => Nat.le_of_lt (h6 y hy), hs5.2.1⟩, fun y hy z hz => ?_⟩
        rcases List.mem_cons.mp hz with rfl | hz
        · rcases List.mem_append.mp hy with hy | hy
          · have := (List.pairwise_append.mp hs5.1).2.2 y hy x (by simp)
            omega
          · rw [List.mem_singleton] at hy
            omega
        · exact hs5.2.2 y hy z hz
      · intro k y hk
        rcases Nat.lt_trichotomy k (A'.length + 1) with q | q | q
        · rw [List.getElem?_append_left (by simpa using q)] at hk
          rw [up_ne (by omega)]
          exact h7.1 k y hk
        · subst q
          rw [List.getElem?_append_right (by simp)] at hk
          simp at hk
          rw [up_eq rfl, hk]
        · rw [List.getElem?_append_right (by simp; omega)] at hk
          obtain ⟨j, rfl⟩ : ∃ j, k = A'.length + 1 + (j + 1) := ⟨k - (A'.length + 1) - 1, by omega⟩
          rw [List.length_append, List.length_singleton, Nat.add_sub_cancel_left, List.getElem?_cons_succ] at hk
          have := h7.2 j y hk
          rw [List.length_append, List.length_singleton] at this
          rw [up_ne (by omega), show A'.length + 1 + (j + 1) = A'.length + 1 + 1 + j by omega]
          exact this
    · have hp : (A' ++ [x]) ++ B = A' ++ (x :: B) := by simp
      rw [hp] at h4 h5
      obtain ⟨s', L, e, h8, h9, h10⟩ := ih A' (x :: B) m (up s (A'.length + 1) (nI x)) (by omega) (by omega) (by rw [List.length_cons]; omega) h4 h5 (fun y hy => by
        rcases List.mem_cons.mp hy with rfl | hy
        · omega
        · exact h6 y hy) ⟨fun k y hk => by
        have hk2 := (List.getElem?_eq_some_iff.mp hk).1
        rw [up_ne (by omega)]
        exact h7.1 k y (by rw [List.getElem?_append_left hk2]; exact hk), fun k y hk => by
        cases k with
        | zero =>
          rw [List.getElem?_cons_zero] at hk
          cases hk
          exact up_eq (by omega)
        | succ k =>
          rw [List.getElem?_cons_succ] at hk
          have := h7.2 k y hk
          rw [List.length_append, List.length_singleton] at this
          rw [up_ne (by omega), show A'.length + 1 + (k + 1) = A'.length + 1 + 1 + k by omega]
          exact this⟩
      refine ⟨s', L, ?_, by rw [hp]; exact h8, h9, h10⟩
      rw [fZ_lay_5, List.length_append, List.length_singleton]
      simp (disch := omega) only [jl_, jle_f, pk_sub, Nat.add_sub_cancel, jld, obs]
      rw [hx]
      simp (disch := omega) only [jl_, nI_add, pk_sub, pk_mul, j_neg, jlt_t, jlt_f, jle_t, jle_f, jeq_t, jeq_f, jld, jst, obs, j_div, ↓reduceIte, if_true, if_false, Nat.add_zero, Nat.sub_zero, Nat.add_sub_cancel_left]
      exact e
theorem zlay_sp {L : List Nat} {v : Nat} {s : Nat → Int32} (hv : v < 32) (hn : L.length < 64) (h4 : ∀ x ∈ L, x < 32) (h5 : L.Pairwise (· ≤ ·)) (h6 : ∀ k x, L[k]? = some x → s k = nI x) :
    ∃ (s' : Nat → Int32) (L' : List Nat), fZ_lay s (nI L.length) (nI v) = some (s', nI (L.length + 1)) ∧ L'.Perm (v :: L) ∧ L'.Pairwise (· ≤ ·) ∧ ∀ k x, L'[k]? = some x → s' k = nI x := by
  obtain ⟨s', L', e, a1, a2, a3⟩ := zlay_5 hv hn L.length L [] FU s rfl (fu_lt (by omega)) (by simp) (by simpa using h4) (by simpa using h5) (fun x hx => by simp at hx) ⟨h6, fun k x hk => by simp at hk⟩
  rw [List.append_nil] at a1
  exact ⟨s', L', e, a1, a2, a3⟩
theorem zfill_8 {w2 : Nat → Int32} {n f t : Nat} {a : Nat → Nat} (hn : n ≤ 64) (hw : ∀ k, k < n → w2 k = nI (a k)) (ha : ∀ k, k < n → a k < 32) (ht : t ≤ n) : ∀ d p m (s : Nat → Int32) (L : List Nat), p + d = t → d < m → f ≤ p → L.Perm ((List.range' f (p - f)).map a) → L.Pairwise (· ≤ ·) → (∀ k x, L[k]? = some x → s k = nI x) →
    ∃ (s' : Nat → Int32) (L' : List Nat), fZ_fill_8 m s (nI (p - f)) w2 (nI t) (nI p) = some (s', nI (t - f)) ∧ L'.Perm ((List.range' f (t - f)).map a) ∧ L'.Pairwise (· ≤ ·) ∧ ∀ k x, L'[k]? = some x → s' k = nI x := by
  intro d
  induction d with
  | zero =>
    intro p m s L h1 h2 h3 h4 h5 h6
    obtain ⟨m, rfl⟩ : ∃ q, m = q + 1 := ⟨m - 1, by omega⟩
    have e : p = t := by omega
    subst e
    refine ⟨s, L, ?_, h4, h5, h6⟩
    rw [fZ_fill_8]
    simp (disch := omega) only [jl_, nI_add, pk_sub, pk_mul, j_neg, jlt_t, jlt_f, jle_t, jle_f, jeq_t, jeq_f, jld, jst, obs, j_div, ↓reduceIte, if_true, if_false, Nat.add_zero, Nat.sub_zero, Nat.add_sub_cancel_left]
  | succ d ih =>
    intro p m s L h1 h2 h3 h4 h5 h6
    obtain ⟨m, rfl⟩ : ∃ q, m = q + 1 := ⟨m - 1, by omega⟩
    have hl : L.length = p - f := by rw [h4.length_eq, List.length_map, List.length_range']
    obtain ⟨s1, L1, e1, a1, a2, a3⟩ := zlay_sp (v := a p) (ha p (by omega)) (by omega) (fun x hx => by
      obtain ⟨q, hq, rfl⟩ := List.mem_map.mp (h4.mem_iff.mp hx)
      rw [List.mem_range'_1] at hq
      exact ha q (by omega)) h5 h6
    obtain ⟨s', L', e2, b1, b2, b3⟩ := ih (p + 1) m s1 L1 (by omega) (by omega) (by omega) (by
      rw [show p + 1 - f = (p - f) + 1 by omega, List.range'_concat, List.map_append]
      refine a1.trans ?_
      have : List.map a [f + 1 * (p - f)] = [a p] := by rw [show f + 1 * (p - f) = p by omega]; rfl
      rw [this]
      exact (List.Perm.cons _ h4).trans (List.perm_append_singleton _ _).symm) a2 a3
    refine ⟨s', L', ?_, b1, b2, b3⟩
    rw [hl] at e1
    rw [fZ_fill_8]
    simp (disch := omega) only [jl_, jle_f, nI_add]
    rw [at_sp (by omega), hw p (by omega)]
    simp only [obs]
    rw [e1]
    simp only [obs]
    rw [show p - f + 1 = p + 1 - f by omega]
    exact e2
/-- a place in an order -/
theorem isQ_of {L : List Nat} {j x : Nat} (h : L.Pairwise (· ≤ ·)) (hj : L[j]? = some x) : L.countP (fun y => decide (y < x)) ≤ j ∧ j < L.countP (fun y => decide (y < x + 1)) := by
  obtain ⟨hl, he⟩ := List.getElem?_eq_some_iff.mp hj
  have hs : L = L.take j ++ x :: L.drop (j + 1) := by
    rw [← he, ← List.drop_eq_getElem_cons hl, List.take_append_drop]
  have ht : (L.take j).length = j := by rw [List.length_take]; omega
  rw [hs] at h
  have hp := List.pairwise_append.mp h
  have hp2 := List.pairwise_cons.mp hp.2.1
  rw [hs, List.countP_append, List.countP_append]
  constructor
  · have h1 : (x :: L.drop (j + 1)).countP (fun y => decide (y < x)) = 0 := List.countP_eq_zero.mpr (fun y hy => by
      rcases List.mem_cons.mp hy with rfl | hy
      · simp
      · have := hp2.1 y hy
        simp
        omega)
    have h2 := List.countP_le_length (p := fun y => decide (y < x)) (l := L.take j)
    omega
  · have h1 : (L.take j).countP (fun y => decide (y < x + 1)) = (L.take j).length := List.countP_eq_length.mpr (fun y hy => by
      have := hp.2.2 y hy x List.mem_cons_self
      simp
      omega)
    rw [List.countP_cons, h1, ht]
    simp
/-- the class' rows in order -/
theorem zfill_sp {w2 : Nat → Int32} {n f t : Nat} {a : Nat → Nat} (hn : n ≤ 64) (hw : ∀ k, k < n → w2 k = nI (a k)) (ha : ∀ k, k < n → a k < 32) (hf : f ≤ t) (ht : t ≤ n) (s : Nat → Int32) (z : Int32) :
    ∃ s', fZ_fill s z w2 (nI f) (nI t) = some (s', nI (t - f)) ∧ ∀ j, j < t - f → ∃ v, v < 32 ∧ fZ_at s' (nI (t - f)) (nI j) = some (nI v) ∧ IsQ a (List.range' f (t - f)) j v := by
  obtain ⟨s', L, e, a1, a2, a3⟩ := zfill_8 (f := f) hn hw ha ht (t - f) f FU s [] (by omega) (fu_lt (by omega)) (Nat.le_refl _) (by simp) (by simp) (fun k x hk => by simp at hk)
  have hl : L.length = t - f := by rw [a1.length_eq, List.length_map, List.length_range']
  refine ⟨s', ?_, fun j hj => ?_⟩
  · unfold fZ_fill
    rw [Nat.sub_self] at e
    exact e
  · have hj2 : L[j]? = some (L[j]'(by omega)) := List.getElem?_eq_getElem (by omega)
    generalize L[j]'(by omega) = v at hj2
    have hm := a1.mem_iff.mp (List.mem_of_getElem? hj2)
    obtain ⟨q, hq, rfl⟩ := List.mem_map.mp hm
    rw [List.mem_range'_1] at hq
    have hv := ha q (by omega)
    refine ⟨a q, hv, ?_, ?_⟩
    · unfold fZ_at
      simp (disch := omega) only [jl_, nI_add, pk_sub, pk_mul, j_neg, jlt_t, jlt_f, jle_t, jle_f, jeq_t, jeq_f, jld, jst, obs, j_div, ↓reduceIte, if_true, if_false, Nat.add_zero, Nat.sub_zero, Nat.add_sub_cancel_left]
      rw [a3 j _ hj2]
    · have := isQ_of a2 hj2
      rw [a1.countP_eq, a1.countP_eq, List.countP_map, List.countP_map] at this
      exact this
/-! the reference's second way -/
section Q
variable {w : Nat → Int32} {n f t : Nat} {a : Nat → Nat}
theorem sizeAgain_3 (h : MW w n a) (hf : f ≤ t) (ht : t ≤ n) {j v k0 : Nat} (hj : j < 2147483648) (hq : IsQ a (List.range' f (t - f)) j v) (hk0 : k0 < t) (hv : a k0 = v) (he : cn (fun p => decide (a p < v)) f (t - f) + cn (fun p => a p == v) f (k0 - f) = j) : ∀ d k m, k + d = k0 → d < m → f ≤ k → fM_bySizeAgain_3 m w (nI f) (nI t) (nI j) (nI k) = some (nI v) := by
  have hn := h.1
  have key : ∀ k, f ≤ k → k < t → cn (fun p => decide (a p < a k)) f (t - f) + cn (fun p => a p == a k) f (k - f) = j → a k = v := by
    intro k h1 h2 h3
    refine IsQ.one ⟨?_, ?_⟩ hq
    · show cn (fun p => decide (a p < a k)) f (t - f) ≤ j
      omega
    · have e := cnt_lt_succ a (List.range' f (t - f)) (a k)
      rw [e]
      show j < cn (fun p => decide (a p < a k)) f (t - f) + cn (fun p => a p == a k) f (t - f)
      have h4 := cn_mono (fun p => a p == a k) f (show (k - f) + 1 ≤ t - f by omega)
      rw [cn_r, show f + (k - f) = k by omega] at h4
      simp at h4
      omega
  intro d
  induction d with
  | zero =>
    intro k m h1 h2 h3
    obtain ⟨m, rfl⟩ : ∃ q, m = q + 1 := ⟨m - 1, by omega⟩
    have e : k = k0 := by omega
    subst e
    have h32 := h.2.1 k (by omega)
    rw [fM_bySizeAgain_3, is_sp h (by omega)]
    simp (disch := omega) only [jl_, jle_f, obs]
    rw [mbelow_sp h hf ht (by omega), having_sp h h3 (by omega) (by omega)]
    simp (disch := omega) only [obs, nI_add]
    rw [hv, he, if_pos rfl]
  | succ d ih =>
    intro k m h1 h2 h3
    obtain ⟨m, rfl⟩ : ∃ q, m = q + 1 := ⟨m - 1, by omega⟩
    have h32 := h.2.1 k (by omega)
    have c1 := cn_le (fun p => decide (a p < a k)) f (t - f)
    have c2 := cn_le (fun p => a p == a k) f (k - f)
    have e := ih (k + 1) m (by omega) (by omega) (by omega)
    rw [fM_bySizeAgain_3, is_sp h (by omega)]
    simp (disch := omega) only [jl_, jle_f, obs]
    rw [mbelow_sp h hf ht (by omega), having_sp h h3 (by omega) (by omega)]
    simp (disch := omega) only [obs, nI_add]
    by_cases c : cn (fun p => decide (a p < a k)) f (t - f) + cn (fun p => a p == a k) f (k - f) = j
    · rw [c, if_pos rfl, key k h3 (by omega) c]
    · rw [if_neg (fun z => c ((nI_eq (by omega) (by omega)).mp z))]
      exact e
theorem nth_of (g : Nat → Bool) (f : Nat) : ∀ d i, i < cn g f d → ∃ k, f ≤ k ∧ k < f + d ∧ g k = true ∧ cn g f (k - f) = i := by
  intro d
  induction d with
  | zero => intro i h; rw [cn_0] at h; omega
  | succ d ih =>
    intro i h
    by_cases c : i < cn g f d
    · obtain ⟨k, h1, h2, h3, h4⟩ := ih i c
      exact ⟨k, h1, by omega, h3, h4⟩
    · rw [cn_r] at h
      cases hg : g (f + d)
      · rw [hg] at h
        simp at h
        omega
      · rw [hg] at h
        simp at h
        exact ⟨f + d, by omega, by omega, hg, by rw [Nat.add_sub_cancel_left]; omega⟩
theorem sizeAgain_sp (h : MW w n a) (hf : f ≤ t) (ht : t ≤ n) {j v : Nat} (hj : j < 2147483648) (hq : IsQ a (List.range' f (t - f)) j v) : fM_bySizeAgain w (nI f) (nI t) (nI j) = some (nI v) := by
  have hn := h.1
  have q1 : cn (fun p => decide (a p < v)) f (t - f) ≤ j := hq.1
  have q2 : j < cn (fun p => decide (a p < v)) f (t - f) + cn (fun p => a p == v) f (t - f) := by
    have := hq.2
    rw [cnt_lt_succ] at this
    exact this
  obtain ⟨k, h1, h2, h3, h4⟩ := nth_of (fun p => a p == v) f (t - f) (j - cn (fun p => decide (a p < v)) f (t - f)) (by omega)
  exact sizeAgain_3 h hf ht hj hq (show k < t by omega) (by simpa using h3) (by omega) (k - f) f FU (by omega) (fu_lt (by omega)) (Nat.le_refl _)
theorem atLeast_25 (h : MW w n a) (hf : f ≤ t) (ht : t ≤ n) {u : Nat} (hu : u < 32) (hpos : 0 < cn (fun p => a p == u) f (t - f)) : ∀ d v m, v + d = u → d < m → (∀ x, v ≤ x → x < u → cn (fun p => a p == x) f (t - f) = 0) → fM_atLeast_25 m w (nI f) (nI t) (nI v) = some (nI u) := by
  have hn := h.1
  intro d
  induction d with
  | zero =>
    intro v m h1 h2 h3
    obtain ⟨m, rfl⟩ : ∃ q, m = q + 1 := ⟨m - 1, by omega⟩
    have e : v = u := by omega
    subst e
    have hc := cn_le (fun p => a p == v) f (t - f)
    rw [fM_atLeast_25, having_sp h hf ht (by omega)]
    simp (disch := omega) only [jl_, nI_add, pk_sub, pk_mul, j_neg, jlt_t, jlt_f, jle_t, jle_f, jeq_t, jeq_f, jld, jst, obs, j_div, ↓reduceIte, if_true, if_false, Nat.add_zero, Nat.sub_zero, Nat.add_sub_cancel_left]
  | succ d ih =>
    intro v m h1 h2 h3
    obtain ⟨m, rfl⟩ : ∃ q, m = q + 1 := ⟨m - 1, by omega⟩
    have e := ih (v + 1) m (by omega) (by omega) (fun x hx hx2 => h3 x (by omega) hx2)
    rw [fM_atLeast_25, having_sp h hf ht (by omega), h3 v (Nat.le_refl _) (by omega)]
    simp (disch := omega) only [jl_, nI_add, pk_sub, pk_mul, j_neg, jlt_t, jlt_f, jle_t, jle_f, jeq_t, jeq_f, jld, jst, obs, j_div, ↓reduceIte, if_true, if_false, Nat.add_zero, Nat.sub_zero, Nat.add_sub_cancel_left]
    exact e
theorem atLeast_no (h : MW w n a) (hf : f ≤ t) (ht : t ≤ n) : ∀ d v m, v + d = 32 → d < m → (∀ x, v ≤ x → x < 32 → cn (fun p => a p == x) f (t - f) = 0) → fM_atLeast_25 m w (nI f) (nI t) (nI v) = some (-nI 15) := by
  have hn := h.1
  intro d
  induction d with
  | zero =>
    intro v m h1 h2 h3
    obtain ⟨m, rfl⟩ : ∃ q, m = q + 1 := ⟨m - 1, by omega⟩
    rw [fM_atLeast_25]
    simp (disch := omega) only [jl_, nI_add, pk_sub, pk_mul, j_neg, jlt_t, jlt_f, jle_t, jle_f, jeq_t, jeq_f, jld, jst, obs, j_div, ↓reduceIte, if_true, if_false, Nat.add_zero, Nat.sub_zero, Nat.add_sub_cancel_left]
  | succ d ih =>
    intro v m h1 h2 h3
    obtain ⟨m, rfl⟩ : ∃ q, m = q + 1 := ⟨m - 1, by omega⟩
    have e := ih (v + 1) m (by omega) (by omega) (fun x hx hx2 => h3 x (by omega) hx2)
    rw [fM_atLeast_25, having_sp h hf ht (by omega), h3 v (Nat.le_refl _) (by omega)]
    simp (disch := omega) only [jl_, nI_add, pk_sub, pk_mul, j_neg, jlt_t, jlt_f, jle_t, jle_f, jeq_t, jeq_f, jld, jst, obs, j_div, ↓reduceIte, if_true, if_false, Nat.add_zero, Nat.sub_zero, Nat.add_sub_cancel_left]
    exact e
theorem find_12 (h : MW w n a) {v j p : Nat} (hj : j < 2147483648) (hp : p < n) (hpv : a p = v) (hpj : cn (fun k => a k == v) 0 p = j) (hv : v < 32) : ∀ d k m, k + d = p → d < m → fM_find_12 m w (nI v) (nI j) (nI k) = some (nI p) := by
  have hn := h.1
  intro d
  induction d with
  | zero =>
    intro k m h1 h2
    obtain ⟨m, rfl⟩ : ∃ q, m = q + 1 := ⟨m - 1, by omega⟩
    have e : k = p := by omega
    subst e
    have h0 := having_sp h (Nat.zero_le k) (show k ≤ n by omega) (show v < 2147483648 by omega)
    rw [Nat.sub_zero, hpj] at h0
    rw [fM_find_12, is_sp h hp, hpv]
    simp (disch := omega) only [jl_, jld, obs]
    rw [h.2.2.1, h0]
    simp (disch := omega) only [jl_, nI_add, pk_sub, pk_mul, j_neg, jlt_t, jlt_f, jle_t, jle_f, jeq_t, jeq_f, jld, jst, obs, j_div, ↓reduceIte, if_true, if_false, Nat.add_zero, Nat.sub_zero, Nat.add_sub_cancel_left]
  | succ d ih =>
    intro k m h1 h2
    obtain ⟨m, rfl⟩ : ∃ q, m = q + 1 := ⟨m - 1, by omega⟩
    have e := ih (k + 1) m (by omega) (by omega)
    have h0 := having_sp h (Nat.zero_le k) (show k ≤ n by omega) (show v < 2147483648 by omega)
    rw [Nat.sub_zero] at h0
    have hc := cn_le (fun k => a k == v) 0 k
    have h32 := h.2.1 k (by omega)
    rw [fM_find_12, is_sp h (by omega)]
    simp (disch := omega) only [jl_, jld, obs]
    rw [h.2.2.1, h0]
    by_cases c : a k = v
    · have hlt : cn (fun k => a k == v) 0 k < j := by
        have := cn_mono (fun k => a k == v) 0 (show k + 1 ≤ p by omega)
        rw [cn0_s, hpj] at this
        simp [c] at this
        omega
      simp (disch := omega) only [jl_, nI_add, pk_sub, pk_mul, j_neg, jlt_t, jlt_f, jle_t, jle_f, jeq_t, jeq_f, jld, jst, obs, j_div, ↓reduceIte, if_true, if_false, Nat.add_zero, Nat.sub_zero, Nat.add_sub_cancel_left]
      exact e
    · simp (disch := omega) only [jl_, nI_add, pk_sub, pk_mul, j_neg, jlt_t, jlt_f, jle_t, jle_f, jeq_t, jeq_f, jld, jst, obs, j_div, ↓reduceIte, if_true, if_false, Nat.add_zero, Nat.sub_zero, Nat.add_sub_cancel_left]
      exact e
theorem find_no (h : MW w n a) {v : Nat} {j : Int32} (hv : v < 32) (hj : ∀ k, k < n → a k = v → ¬ nI (cn (fun k => a k == v) 0 k) = j) : ∀ d k m, k + d = n → d < m → fM_find_12 m w (nI v) j (nI k) = some (-nI 15) := by
  have hn := h.1
  intro d
  induction d with
  | zero =>
    intro k m h1 h2
    obtain ⟨m, rfl⟩ : ∃ q, m = q + 1 := ⟨m - 1, by omega⟩
    rw [fM_find_12]
    simp (disch := omega) only [jl_, jld, obs]
    rw [h.2.2.1]
    simp (disch := omega) only [jl_, nI_add, pk_sub, pk_mul, j_neg, jlt_t, jlt_f, jle_t, jle_f, jeq_t, jeq_f, jld, jst, obs, j_div, ↓reduceIte, if_true, if_false, Nat.add_zero, Nat.sub_zero, Nat.add_sub_cancel_left]
  | succ d ih =>
    intro k m h1 h2
    obtain ⟨m, rfl⟩ : ∃ q, m = q + 1 := ⟨m - 1, by omega⟩
    have e := ih (k + 1) m (by omega) (by omega)
    have h0 := having_sp h (Nat.zero_le k) (show k ≤ n by omega) (show v < 2147483648 by omega)
    rw [Nat.sub_zero] at h0
    have h32 := h.2.1 k (by omega)
    rw [fM_find_12, is_sp h (by omega)]
    simp (disch := omega) only [jl_, jld, obs]
    rw [h.2.2.1, h0]
    by_cases c : a k = v
    · simp (disch := omega) only [jl_, nI_add, pk_sub, pk_mul, j_neg, jlt_t, jlt_f, jle_t, jle_f, jeq_t, jeq_f, jld, jst, obs, j_div, ↓reduceIte, if_true, if_false, Nat.add_zero, Nat.sub_zero, Nat.add_sub_cancel_left]
      rw [if_neg (hj k (by omega) c)]
      exact e
    · simp (disch := omega) only [jl_, nI_add, pk_sub, pk_mul, j_neg, jlt_t, jlt_f, jle_t, jle_f, jeq_t, jeq_f, jld, jst, obs, j_div, ↓reduceIte, if_true, if_false, Nat.add_zero, Nat.sub_zero, Nat.add_sub_cancel_left]
      exact e
end Q
