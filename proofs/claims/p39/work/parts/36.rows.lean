/-! what the class holds of its rows -/
def RR (wholes : Nat → Int64) (ones : Nat → Nat → Int32) (zeros : Nat → Int32) (q : Nat → Nat → Bool) (n : Nat) : Prop :=
  n ≤ 64 ∧ ∀ r, r < 5 → wholes r = lN (bin ((rp q n r).map (q r))) ∧ (∀ b, b ≤ 8 → ones r b = nI (ca (q r) (rp q n r) true (8 * b))) ∧ zeros r = nI ((rp q n r).countP (fun p => !q r p))
theorem ca_more (q : Nat → Bool) (P : List Nat) (i j : Nat) : ca q P true (i + j) = ca q P true i + (((P.map q).drop i).take j).countP id := by
  unfold ca
  rw [List.take_add, List.countP_append, ← List.map_drop, ← List.map_take, List.countP_map]
  congr 1
  exact List.countP_congr (fun p _ => by cases h : q p <;> simp [h])
section RR
variable {wholes : Nat → Int64} {ones : Nat → Nat → Int32} {zeros : Nat → Int32} {q : Nat → Nat → Bool} {n : Nat}
theorem bitAt_sp (h : RR wholes ones zeros q n) {r k p : Nat} (hr : r < 5) (hk : (rp q n r)[k]? = some p) : fR_bitAt wholes (nI n) (nI r) (nI k) = some (bI (q r p)) := by
  have hn := h.1
  have hlt : k < n := by
    have := (List.getElem?_eq_some_iff.mp hk).1
    rwa [rp_len] at this
  unfold fR_bitAt
  rw [isRow_t hr]
  simp (disch := omega) only [jl_, nI_add, pk_sub, pk_mul, j_neg, jlt_t, jlt_f, jle_t, jle_f, jeq_t, jeq_f, jld, jst, obs, j_div, ↓reduceIte, if_true, if_false, Nat.add_zero, Nat.sub_zero, Nat.add_sub_cancel_left]
  rw [(h.2 r hr).1, show ((1 : Int64)) = (1 : Int64) from rfl, jb_bit (by rw [List.length_map, rp_len]; exact hn) (by omega), lN_i]
  have : ((rp q n r).map (q r)).getD k false = q r p := by simp [List.getD, hk]
  rw [this]
  rfl
theorem ahead_sp (h : RR wholes ones zeros q n) {r x : Nat} (b : Bool) (hr : r < 5) (hx : x ≤ n) : fR_ahead wholes ones (nI n) (nI r) (bI b) (nI x) = some (nI (ca (q r) (rp q n r) b x)) := by
  have hn := h.1
  have two := ca_two (q r) (rp q n r) (x := x) (by rw [rp_len]; exact hx)
  have key : ones r (x / 8) + fJ_bitCount (((wholes r).toUInt64 >>> ((nI (x / 8 * 8)).toInt64.toUInt64 &&& Int64.toUInt64 63)).toInt64 &&& (((1 : Int64) <<< ((nI (x - x / 8 * 8)).toInt64 &&& 63)) - (1 : Int64))) = nI (ca (q r) (rp q n r) true x) := by
    rw [show x - x / 8 * 8 = x % 8 by omega, (h.2 r hr).2.1 (x / 8) (by omega), (h.2 r hr).1]
    by_cases h8 : x % 8 = 0
    · have e : (((1 : Int64) <<< ((nI (x % 8)).toInt64 &&& 63)) - (1 : Int64)) = 0 := by rw [h8]; decide
      rw [e, Int64.and_zero, show fJ_bitCount 0 = nI 0 from by decide, nI_add, Nat.add_zero, show 8 * (x / 8) = x by omega]
    · rw [jb_cnt (by rw [List.length_map, rp_len]; exact hn) (by omega) (by omega), nI_add]
      have e : x = 8 * (x / 8) + x % 8 := by omega
      rw [show x / 8 * 8 = 8 * (x / 8) by omega, ← ca_more, ← e]
  unfold fR_ahead
  rw [isRow_t hr]
  cases b
  · rw [bI_f]
    simp (disch := omega) only [jl_, nI_add, pk_sub, pk_mul, j_neg, jlt_t, jlt_f, jle_t, jle_f, jeq_t, jeq_f, jld, jst, obs, j_div, ↓reduceIte, if_true, if_false, Nat.add_zero, Nat.sub_zero, Nat.add_sub_cancel_left]
    rw [key, pk_sub (by omega)]
    exact congrArg (fun z => some (nI z)) (by omega)
  · rw [bI_t]
    simp (disch := omega) only [jl_, nI_add, pk_sub, pk_mul, j_neg, jlt_t, jlt_f, jle_t, jle_f, jeq_t, jeq_f, jld, jst, obs, j_div, ↓reduceIte, if_true, if_false, Nat.add_zero, Nat.sub_zero, Nat.add_sub_cancel_left]
    rw [key]
theorem zerosOf_sp (h : RR wholes ones zeros q n) {r : Nat} (hr : r < 5) : fR_zerosOf zeros (nI r) = some (nI ((rp q n r).countP (fun p => !q r p))) := by
  unfold fR_zerosOf
  rw [isRow_t hr]
  simp (disch := omega) only [jl_, nI_add, pk_sub, pk_mul, j_neg, jlt_t, jlt_f, jle_t, jle_f, jeq_t, jeq_f, jld, jst, obs, j_div, ↓reduceIte, if_true, if_false, Nat.add_zero, Nat.sub_zero, Nat.add_sub_cancel_left]
  rw [(h.2 r hr).2.2]
theorem down_sp (h : RR wholes ones zeros q n) {r x : Nat} (b : Bool) (hr : r < 5) (hx : x ≤ n) : fR_down wholes ones zeros (nI n) (nI r) (bI b) (nI x) = some (nI (dn (q r) (rp q n r) b x)) := by
  unfold fR_down
  rw [ahead_sp h b hr hx]
  cases b
  · rw [bI_f]
    simp (disch := omega) only [jl_, nI_add, pk_sub, pk_mul, j_neg, jlt_t, jlt_f, jle_t, jle_f, jeq_t, jeq_f, jld, jst, obs, j_div, ↓reduceIte, if_true, if_false, Nat.add_zero, Nat.sub_zero, Nat.add_sub_cancel_left]
    rfl
  · rw [bI_t, zerosOf_sp h hr]
    simp (disch := omega) only [jl_, nI_add, pk_sub, pk_mul, j_neg, jlt_t, jlt_f, jle_t, jle_f, jeq_t, jeq_f, jld, jst, obs, j_div, ↓reduceIte, if_true, if_false, Nat.add_zero, Nat.sub_zero, Nat.add_sub_cancel_left]
    rfl
theorem isThere_sp (h : RR wholes ones zeros q n) {r k p : Nat} (b : Bool) (hr : r < 5) (hk : (rp q n r)[k]? = some p) : fR_isThere wholes (nI n) (nI r) (bI b) (nI k) = some (bI (q r p == b)) := by
  unfold fR_isThere
  rw [bitAt_sp h hr hk]
  cases b <;> cases q r p <;> decide
theorem oneByOne_sp (h : RR wholes ones zeros q n) {r x : Nat} (b : Bool) (hr : r < 5) (hx : x ≤ n) : ∀ d k m, k + d = x → d < m → fR_aheadOneByOne_6 m wholes (nI n) (nI r) (bI b) (nI x) (nI (ca (q r) (rp q n r) b k)) (nI k) = some (nI (ca (q r) (rp q n r) b x)) := by
  have hn := h.1
  intro d
  induction d with
  | zero =>
    intro k m h1 h2
    obtain ⟨m, rfl⟩ : ∃ q, m = q + 1 := ⟨m - 1, by omega⟩
    rw [fR_aheadOneByOne_6]
    simp (disch := omega) only [jl_, nI_add, pk_sub, pk_mul, j_neg, jlt_t, jlt_f, jle_t, jle_f, jeq_t, jeq_f, jld, jst, obs, j_div, ↓reduceIte, if_true, if_false, Nat.add_zero, Nat.sub_zero, Nat.add_sub_cancel_left]
    rw [show k = x by omega]
  | succ d ih =>
    intro k m h1 h2
    obtain ⟨m, rfl⟩ : ∃ q, m = q + 1 := ⟨m - 1, by omega⟩
    rw [fR_aheadOneByOne_6]
    obtain ⟨p, hp, -⟩ := rp_get (q := q) (n := n) (r := r) (k := k) (by omega)
    rw [isThere_sp h b hr hp]
    have e := ih (k + 1) m (by omega) (by omega)
    rw [ca_succ _ _ _ hp] at e
    cases hc : (q r p == b)
    · rw [hc] at e
      rw [bI_f]
      simp (disch := omega) only [jl_, nI_add, pk_sub, pk_mul, j_neg, jlt_t, jlt_f, jle_t, jle_f, jeq_t, jeq_f, jld, jst, obs, j_div, ↓reduceIte, if_true, if_false, Nat.add_zero, Nat.sub_zero, Nat.add_sub_cancel_left]
      exact e
    · rw [hc] at e
      rw [bI_t]
      simp (disch := omega) only [jl_, nI_add, pk_sub, pk_mul, j_neg, jlt_t, jlt_f, jle_t, jle_f, jeq_t, jeq_f, jld, jst, obs, j_div, ↓reduceIte, if_true, if_false, Nat.add_zero, Nat.sub_zero, Nat.add_sub_cancel_left]
      exact e
theorem aheadOneByOne_sp (h : RR wholes ones zeros q n) {r x : Nat} (b : Bool) (hr : r < 5) (hx : x ≤ n) : fR_aheadOneByOne wholes (nI n) (nI r) (bI b) (nI x) = some (nI (ca (q r) (rp q n r) b x)) := by
  have hn := h.1
  unfold fR_aheadOneByOne
  have e := oneByOne_sp h b hr hx x 0 FU (by omega) (fu_lt (by omega))
  rw [ca_0] at e
  exact e
/-! the place of a bit by how many are ahead -/
theorem kth (q : Nat → Bool) (P : List Nat) (b : Bool) (j : Nat) : ∀ y, y ≤ P.length → j < ca q P b y → ∃ x p, x < y ∧ P[x]? = some p ∧ (q p == b) = true ∧ ca q P b x = j := by
  intro y
  induction y with
  | zero => intro _ h; rw [ca_0] at h; omega
  | succ y ih =>
    intro h1 h2
    by_cases h3 : j < ca q P b y
    · obtain ⟨x, p, hx, r⟩ := ih (by omega) h3
      exact ⟨x, p, by omega, r⟩
    · have hp : P[y]? = some P[y] := List.getElem?_eq_getElem (by omega)
      have e := ca_succ q P b hp
      cases hc : (q P[y] == b)
      · rw [hc] at e; simp at e; omega
      · rw [hc] at e; simp at e
        exact ⟨y, P[y], by omega, hp, hc, by omega⟩
theorem kth_one {q : Nat → Bool} {P : List Nat} {b : Bool} {x y p s : Nat} (hx : P[x]? = some p) (hp : (q p == b) = true) (hy : P[y]? = some s) (hs : (q s == b) = true) (h : ca q P b x = ca q P b y) : x = y := by
  have e1 := ca_succ q P b hx
  have e2 := ca_succ q P b hy
  rw [hp] at e1
  rw [hs] at e2
  simp at e1 e2
  rcases Nat.lt_trichotomy x y with c | c | c
  · have := ca_mono q P b (x := x + 1) (y := y) (by omega); omega
  · exact c
  · have := ca_mono q P b (x := y + 1) (y := x) (by omega); omega
theorem placeOf72 (h : RR wholes ones zeros q n) {r x p : Nat} (b : Bool) (hr : r < 5) (hx : (rp q n r)[x]? = some p) (hp : (q r p == b) = true) : ∀ d k m, k + d = x → d < m → fR_placeOf_72 m wholes ones (nI n) (nI r) (bI b) (nI (ca (q r) (rp q n r) b x - ca (q r) (rp q n r) b k)) (nI k) = some (nI x) := by
  have hn := h.1
  have hlt : x < n := by
    have := (List.getElem?_eq_some_iff.mp hx).1
    rwa [rp_len] at this
  have hc2 := ca_le (q r) (rp q n r) b x
  intro d
  induction d with
  | zero =>
    intro k m h1 h2
    obtain ⟨m, rfl⟩ : ∃ q, m = q + 1 := ⟨m - 1, by omega⟩
    have e : k = x := by omega
    subst e
    rw [fR_placeOf_72, isThere_sp h b hr hx, hp, bI_t]
    simp (disch := omega) only [jl_, nI_add, pk_sub, pk_mul, j_neg, jlt_t, jlt_f, jle_t, jle_f, jeq_t, jeq_f, jld, jst, obs, j_div, ↓reduceIte, if_true, if_false, Nat.add_zero, Nat.sub_zero, Nat.add_sub_cancel_left]
  | succ d ih =>
    intro k m h1 h2
    obtain ⟨m, rfl⟩ : ∃ q, m = q + 1 := ⟨m - 1, by omega⟩
    rw [fR_placeOf_72]
    obtain ⟨s, hs, -⟩ := rp_get (q := q) (n := n) (r := r) (k := k) (by omega)
    rw [isThere_sp h b hr hs]
    have e := ih (k + 1) m (by omega) (by omega)
    have e3 := ca_succ (q r) (rp q n r) b hs
    have e2 := ca_mono (q r) (rp q n r) b (x := k + 1) (y := x) (by omega)
    rw [e3] at e e2
    cases hc : (q r s == b)
    · rw [hc] at e e2
      rw [bI_f]
      simp (disch := omega) only [jl_, nI_add, pk_sub, pk_mul, j_neg, jlt_t, jlt_f, jle_t, jle_f, jeq_t, jeq_f, jld, jst, obs, j_div, ↓reduceIte, if_true, if_false, Nat.add_zero, Nat.sub_zero, Nat.add_sub_cancel_left]
      exact e
    · rw [hc] at e e2
      simp only [if_true] at e e2
      rw [bI_t]
      simp (disch := omega) only [jl_, nI_add, pk_sub, pk_mul, j_neg, jlt_t, jlt_f, jle_t, jle_f, jeq_t, jeq_f, jld, jst, obs, j_div, ↓reduceIte, if_true, if_false, Nat.add_zero, Nat.sub_zero, Nat.add_sub_cancel_left]
      rw [show ca (q r) (rp q n r) b x - ca (q r) (rp q n r) b k - 1 = ca (q r) (rp q n r) b x - (ca (q r) (rp q n r) b k + 1) by omega]
      exact e
theorem placeOf23 (h : RR wholes ones zeros q n) {r x p : Nat} (b : Bool) (hr : r < 5) (hx : (rp q n r)[x]? = some p) (hp : (q r p == b) = true) : ∀ d k m, n ≤ k + d → d < m → k ≤ n → ca (q r) (rp q n r) b k ≤ ca (q r) (rp q n r) b x → fR_placeOf_23 m wholes ones (nI n) (nI r) (bI b) (nI (ca (q r) (rp q n r) b x)) (nI k) = some (nI x) := by
  have hn := h.1
  have hlt : x < n := by
    have := (List.getElem?_eq_some_iff.mp hx).1
    rwa [rp_len] at this
  have hc2 := ca_le (q r) (rp q n r) b x
  have fin : ∀ k, k ≤ n → ca (q r) (rp q n r) b k ≤ ca (q r) (rp q n r) b x → fR_placeOf_72 FU wholes ones (nI n) (nI r) (bI b) (nI (ca (q r) (rp q n r) b x - ca (q r) (rp q n r) b k)) (nI k) = some (nI x) := by
    intro k h1 h2
    have h3 : k ≤ x := by
      rcases Nat.lt_or_ge x k with c | c
      · have e := ca_mono (q r) (rp q n r) b (x := x + 1) (y := k) (by omega)
        have e1 := ca_succ (q r) (rp q n r) b hx
        rw [hp] at e1
        simp at e1
        omega
      · exact c
    exact placeOf72 h b hr hx hp (x - k) k FU (by omega) (fu_lt (by omega))
  intro d
  induction d with
  | zero =>
    intro k m h1 h2 h3 h4
    obtain ⟨m, rfl⟩ : ∃ q, m = q + 1 := ⟨m - 1, by omega⟩
    rw [fR_placeOf_23, ahead_sp h b hr h3]
    simp (disch := omega) only [jl_, nI_add, pk_sub, pk_mul, j_neg, jlt_t, jlt_f, jle_t, jle_f, jeq_t, jeq_f, jld, jst, obs, j_div, ↓reduceIte, if_true, if_false, Nat.add_zero, Nat.sub_zero, Nat.add_sub_cancel_left]
    exact fin k h3 h4
  | succ d ih =>
    intro k m h1 h2 h3 h4
    obtain ⟨m, rfl⟩ : ∃ q, m = q + 1 := ⟨m - 1, by omega⟩
    rw [fR_placeOf_23, ahead_sp h b hr h3]
    by_cases c : n ≤ k + 8
    · simp (disch := omega) only [jl_, nI_add, pk_sub, pk_mul, j_neg, jlt_t, jlt_f, jle_t, jle_f, jeq_t, jeq_f, jld, jst, obs, j_div, ↓reduceIte, if_true, if_false, Nat.add_zero, Nat.sub_zero, Nat.add_sub_cancel_left]
      exact fin k h3 h4
    · simp (disch := omega) only [jl_, nI_add, pk_sub, pk_mul, j_neg, jlt_t, jlt_f, jle_t, jle_f, jeq_t, jeq_f, jld, jst, obs, j_div, ↓reduceIte, if_true, if_false, Nat.add_zero, Nat.sub_zero, Nat.add_sub_cancel_left]
      rw [ahead_sp h b hr (x := k + 8) (by omega)]
      have c3 := ca_le (q r) (rp q n r) b (k + 8)
      by_cases c2 : ca (q r) (rp q n r) b x < ca (q r) (rp q n r) b (k + 8)
      · simp (disch := omega) only [jl_, nI_add, pk_sub, pk_mul, j_neg, jlt_t, jlt_f, jle_t, jle_f, jeq_t, jeq_f, jld, jst, obs, j_div, ↓reduceIte, if_true, if_false, Nat.add_zero, Nat.sub_zero, Nat.add_sub_cancel_left]
        exact fin k h3 h4
      · simp (disch := omega) only [jl_, nI_add, pk_sub, pk_mul, j_neg, jlt_t, jlt_f, jle_t, jle_f, jeq_t, jeq_f, jld, jst, obs, j_div, ↓reduceIte, if_true, if_false, Nat.add_zero, Nat.sub_zero, Nat.add_sub_cancel_left]
        exact ih (k + 8) m (by omega) (by omega) (by omega) (by omega)
theorem placeOf_t (h : RR wholes ones zeros q n) {r x p : Nat} (b : Bool) (hr : r < 5) (hx : (rp q n r)[x]? = some p) (hp : (q r p == b) = true) : fR_placeOf wholes ones (nI n) (nI r) (bI b) (nI (ca (q r) (rp q n r) b x)) = some (nI x) := by
  have hn := h.1
  have hlt : x < n := by
    have := (List.getElem?_eq_some_iff.mp hx).1
    rwa [rp_len] at this
  have e1 := ca_succ (q r) (rp q n r) b hx
  rw [hp] at e1
  simp only [if_true] at e1
  have e := ca_mono (q r) (rp q n r) b (x := x + 1) (y := n) (by omega)
  have c3 := ca_le (q r) (rp q n r) b n
  unfold fR_placeOf
  rw [ahead_sp h b hr (Nat.le_refl n)]
  simp (disch := omega) only [jl_, nI_add, pk_sub, pk_mul, j_neg, jlt_t, jlt_f, jle_t, jle_f, jeq_t, jeq_f, jld, jst, obs, j_div, ↓reduceIte, if_true, if_false, Nat.add_zero, Nat.sub_zero, Nat.add_sub_cancel_left]
  exact placeOf23 h b hr hx hp n 0 FU (by omega) (fu_lt (by omega)) (by omega) (by rw [ca_0]; omega)
theorem placeOf_f (h : RR wholes ones zeros q n) {r j : Nat} (b : Bool) (hr : r < 5) (hj : ca (q r) (rp q n r) b n ≤ j) (hj2 : j < 2147483648) : fR_placeOf wholes ones (nI n) (nI r) (bI b) (nI j) = some (-nI 1) := by
  have hn := h.1
  unfold fR_placeOf
  rw [ahead_sp h b hr (Nat.le_refl n)]
  simp (disch := omega) only [jl_, nI_add, pk_sub, pk_mul, j_neg, jlt_t, jlt_f, jle_t, jle_f, jeq_t, jeq_f, jld, jst, obs, j_div, ↓reduceIte, if_true, if_false, Nat.add_zero, Nat.sub_zero, Nat.add_sub_cancel_left]
theorem placeOf_n {x y y2 s : Int32} (hx : x < 0) : fR_placeOf wholes ones s y y2 x = some (-nI 1) := by
  unfold fR_placeOf
  rw [if_pos hx]
  rfl
end RR
