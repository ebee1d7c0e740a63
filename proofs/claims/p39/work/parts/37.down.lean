/-! going down from row to row -/
theorem seg_of {P : List Nat} {x p : Nat} (h : P[x]? = some p) : Seg P x (x + 1) [p] := by
  obtain ⟨hx, e⟩ := List.getElem?_eq_some_iff.mp h
  refine ⟨P.take x, P.drop (x + 1), ?_, ?_, rfl⟩
  · rw [← e, List.singleton_append, List.getElem_cons_drop, List.take_append_drop]
  · rw [List.length_take]; omega
theorem seg_get {P : List Nat} {x y p : Nat} (h : Seg P x y [p]) : P[x]? = some p := by
  obtain ⟨X, Y, rfl, rfl, -⟩ := h
  simp
theorem pstep {q : Nat → Bool} {P : List Nat} {x p : Nat} (h : P[x]? = some p) : (srt q P)[dn q P (q p) x]? = some p := by
  have h2 := seg_next (seg_of h) q (q p)
  simp at h2
  exact seg_get h2
theorem lt_of_get {q : Nat → Nat → Bool} {n r x p : Nat} (h : (rp q n r)[x]? = some p) : x < n := by
  have := (List.getElem?_eq_some_iff.mp h).1
  rwa [rp_len] at this
/-- all bits of a weight w from the row r on, d rows down -/
def da (q : Nat → Nat → Bool) (n : Nat) (w : Nat) : Nat → Nat → Nat → Nat
  | _, 0, x => x
  | r, d + 1, x => da q n w (r + 1) d (dn (q r) (rp q n r) (hb r w) x)
def fl (q : Nat → Nat → Bool) (w : Nat) : Nat → Nat → List Nat → List Nat
  | _, 0, S => S
  | r, d + 1, S => fl q w (r + 1) d (S.filter (fun p => q r p == hb r w))
theorem seg_da {q : Nat → Nat → Bool} {n w : Nat} : ∀ (d r x y : Nat) (S : List Nat), Seg (rp q n r) x y S → Seg (rp q n (r + d)) (da q n w r d x) (da q n w r d y) (fl q w r d S) := by
  intro d
  induction d with
  | zero => intro r x y S h; exact h
  | succ d ih =>
    intro r x y S h
    have h2 := ih (r + 1) _ _ _ (seg_next h (q r) (hb r w))
    rw [show r + 1 + d = r + (d + 1) by omega] at h2
    exact h2
theorem da_le {q : Nat → Nat → Bool} {n w : Nat} : ∀ (d r x : Nat), x ≤ n → da q n w r d x ≤ n := by
  intro d
  induction d with
  | zero => intro r x h; exact h
  | succ d ih => intro r x h; exact ih (r + 1) _ (dn_le (rp_len q n r) h)
theorem fl_mem {a : Nat → Nat} {w : Nat} {S : List Nat} (hw : w < 32) (hS : ∀ p ∈ S, a p < 32) : fl (qb a) w 0 5 S = S.filter (fun p => a p == w) := by
  show ((((S.filter _).filter _).filter _).filter _).filter _ = _
  simp only [List.filter_filter]
  refine List.filter_congr (fun p hp => ?_)
  rw [← bits5_all (a p) (hS p hp) w hw]
  unfold qb
  cases (hb 0 (a p) == hb 0 w) <;> cases (hb 1 (a p) == hb 1 w) <;> cases (hb 2 (a p) == hb 2 w) <;> cases (hb 3 (a p) == hb 3 w) <;> cases (hb 4 (a p) == hb 4 w) <;> rfl
/-- a part of the letters is a stretch of the row 0 -/
theorem seg_part {q : Nat → Nat → Bool} {n x y : Nat} (h : x ≤ y) (h2 : y ≤ n) : Seg (rp q n 0) x y (List.range' x (y - x)) := by
  refine ⟨List.range' 0 x, List.range' y (n - y), ?_, by rw [List.length_range'], by rw [List.length_range']; omega⟩
  have e1 : List.range' x (y - x) ++ List.range' y (n - y) = List.range' x (n - x) := by
    have := List.range'_append_1 (s := x) (m := y - x) (n := n - y)
    rw [show x + (y - x) = y by omega, show y - x + (n - y) = n - x by omega] at this
    exact this
  have e2 : List.range' 0 x ++ List.range' x (n - x) = List.range' 0 n := by
    have := List.range'_append_1 (s := 0) (m := x) (n := n - x)
    rw [show 0 + x = x by omega, show x + (n - x) = n by omega] at this
    exact this
  show List.range' 0 n = _
  rw [e1, e2]
section RR
variable {wholes : Nat → Int64} {ones : Nat → Nat → Int32} {zeros : Nat → Int32} {q : Nat → Nat → Bool} {a : Nat → Nat} {n : Nat}
theorem placeDownTo_5 (h : RR wholes ones zeros q n) {R p : Nat} (hR : R < 5) : ∀ d r x m, r + d = R → d < m → (rp q n r)[x]? = some p → ∃ y, fR_placeDownTo_5 m wholes ones zeros (nI n) (nI R) (nI x) (nI r) = some (nI y) ∧ (rp q n R)[y]? = some p := by
  have hn := h.1
  intro d
  induction d with
  | zero =>
    intro r x m h1 h2 hp
    obtain ⟨m, rfl⟩ : ∃ q, m = q + 1 := ⟨m - 1, by omega⟩
    have e : r = R := by omega
    subst e
    refine ⟨x, ?_, hp⟩
    rw [fR_placeDownTo_5]
    simp (disch := omega) only [jl_, nI_add, pk_sub, pk_mul, j_neg, jlt_t, jlt_f, jle_t, jle_f, jeq_t, jeq_f, jld, jst, obs, j_div, ↓reduceIte, if_true, if_false, Nat.add_zero, Nat.sub_zero, Nat.add_sub_cancel_left]
  | succ d ih =>
    intro r x m h1 h2 hp
    obtain ⟨m, rfl⟩ : ∃ q, m = q + 1 := ⟨m - 1, by omega⟩
    have hx := lt_of_get hp
    obtain ⟨y, e, hy⟩ := ih (r + 1) (dn (q r) (rp q n r) (q r p) x) m (by omega) (by omega) (pstep hp)
    refine ⟨y, ?_, hy⟩
    rw [fR_placeDownTo_5, bitAt_sp h (by omega) hp]
    have t := down_sp h true (show r < 5 by omega) (show x ≤ n by omega)
    have f := down_sp h false (show r < 5 by omega) (show x ≤ n by omega)
    rw [bI_t] at t
    rw [bI_f] at f
    cases hc : q r p
    · rw [hc] at e
      rw [bI_f]
      simp (disch := omega) only [jl_, nI_add, pk_sub, pk_mul, j_neg, jlt_t, jlt_f, jle_t, jle_f, jeq_t, jeq_f, jld, jst, obs, j_div, ↓reduceIte, if_true, if_false, Nat.add_zero, Nat.sub_zero, Nat.add_sub_cancel_left]
      rw [f]
      simp (disch := omega) only [jl_, nI_add, pk_sub, pk_mul, j_neg, jlt_t, jlt_f, jle_t, jle_f, jeq_t, jeq_f, jld, jst, obs, j_div, ↓reduceIte, if_true, if_false, Nat.add_zero, Nat.sub_zero, Nat.add_sub_cancel_left]
      exact e
    · rw [hc] at e
      rw [bI_t]
      simp (disch := omega) only [jl_, nI_add, pk_sub, pk_mul, j_neg, jlt_t, jlt_f, jle_t, jle_f, jeq_t, jeq_f, jld, jst, obs, j_div, ↓reduceIte, if_true, if_false, Nat.add_zero, Nat.sub_zero, Nat.add_sub_cancel_left]
      rw [t]
      simp (disch := omega) only [jl_, nI_add, pk_sub, pk_mul, j_neg, jlt_t, jlt_f, jle_t, jle_f, jeq_t, jeq_f, jld, jst, obs, j_div, ↓reduceIte, if_true, if_false, Nat.add_zero, Nat.sub_zero, Nat.add_sub_cancel_left]
      exact e
theorem placeDownTo_sp (h : RR wholes ones zeros q n) {R p : Nat} (hR : R < 5) (hp : p < n) : ∃ y, fR_placeDownTo wholes ones zeros (nI n) (nI R) (nI p) = some (nI y) ∧ (rp q n R)[y]? = some p := by
  refine placeDownTo_5 h hR R 0 p FU (by omega) (fu_lt (by omega)) ?_
  show (List.range' 0 n)[p]? = some p
  rw [List.getElem?_range' hp]
  simp
theorem weightOf_7 (h : RR wholes ones zeros (qb a) n) {p : Nat} (hp : a p < 32) : ∀ d r x m, r + d = 5 → d < m → (rp (qb a) n r)[x]? = some p → fR_weightOf_7 m wholes ones zeros (nI n) (nI (a p / 2 ^ (5 - r))) (nI x) (nI r) = some (nI (a p)) := by
  have hn := h.1
  intro d
  induction d with
  | zero =>
    intro r x m h1 h2 hx
    obtain ⟨m, rfl⟩ : ∃ q, m = q + 1 := ⟨m - 1, by omega⟩
    have e : r = 5 := by omega
    subst e
    rw [fR_weightOf_7]
    simp (disch := omega) only [jl_, nI_add, pk_sub, pk_mul, j_neg, jlt_t, jlt_f, jle_t, jle_f, jeq_t, jeq_f, jld, jst, obs, j_div, ↓reduceIte, if_true, if_false, Nat.add_zero, Nat.sub_zero, Nat.add_sub_cancel_left]
    simp
  | succ d ih =>
    intro r x m h1 h2 hx
    obtain ⟨m, rfl⟩ : ∃ q, m = q + 1 := ⟨m - 1, by omega⟩
    have hlt := lt_of_get hx
    have e := ih (r + 1) (dn (qb a r) (rp (qb a) n r) (qb a r p) x) m (by omega) (by omega) (pstep hx)
    rw [show 5 - (r + 1) = 4 - r by omega, hb_step (show r < 5 by omega)] at e
    rw [fR_weightOf_7, bitAt_sp h (by omega) hx]
    have t := down_sp h true (show r < 5 by omega) (show x ≤ n by omega)
    have f := down_sp h false (show r < 5 by omega) (show x ≤ n by omega)
    rw [bI_t] at t
    rw [bI_f] at f
    cases hc : qb a r p
    · rw [hc, show hb r (a p) = false from hc] at e
      rw [bI_f]
      simp (disch := omega) only [jl_, nI_add, pk_sub, pk_mul, j_neg, jlt_t, jlt_f, jle_t, jle_f, jeq_t, jeq_f, jld, jst, obs, j_div, ↓reduceIte, if_true, if_false, Nat.add_zero, Nat.sub_zero, Nat.add_sub_cancel_left]
      rw [f]
      simp (disch := omega) only [jl_, nI_add, pk_sub, pk_mul, j_neg, jlt_t, jlt_f, jle_t, jle_f, jeq_t, jeq_f, jld, jst, obs, j_div, ↓reduceIte, if_true, if_false, Nat.add_zero, Nat.sub_zero, Nat.add_sub_cancel_left]
      exact e
    · rw [hc, show hb r (a p) = true from hc] at e
      rw [bI_t]
      simp (disch := omega) only [jl_, nI_add, pk_sub, pk_mul, j_neg, jlt_t, jlt_f, jle_t, jle_f, jeq_t, jeq_f, jld, jst, obs, j_div, ↓reduceIte, if_true, if_false, Nat.add_zero, Nat.sub_zero, Nat.add_sub_cancel_left]
      rw [t]
      simp (disch := omega) only [jl_, nI_add, pk_sub, pk_mul, j_neg, jlt_t, jlt_f, jle_t, jle_f, jeq_t, jeq_f, jld, jst, obs, j_div, ↓reduceIte, if_true, if_false, Nat.add_zero, Nat.sub_zero, Nat.add_sub_cancel_left]
      exact e
theorem weightOf_sp (h : RR wholes ones zeros (qb a) n) {p : Nat} (hp : p < n) (hp2 : a p < 32) : fR_weightOf wholes ones zeros (nI n) (nI p) = some (nI (a p)) := by
  have e := weightOf_7 h hp2 5 0 p FU (by omega) (fu_lt (by omega)) (by
    show (List.range' 0 n)[p]? = some p
    rw [List.getElem?_range' hp]
    simp)
  rw [show a p / 2 ^ (5 - 0) = 0 from Nat.div_eq_of_lt hp2] at e
  exact e
theorem downAll_5 (h : RR wholes ones zeros q n) {w : Nat} (hw : w < 32) : ∀ d r x m, r + d = 5 → d < m → x ≤ n → fR_downAll_5 m wholes ones zeros (nI n) (nI w) (nI x) (nI r) = some (nI (da q n w r d x)) := by
  have hn := h.1
  intro d
  induction d with
  | zero =>
    intro r x m h1 h2 hx
    obtain ⟨m, rfl⟩ : ∃ q, m = q + 1 := ⟨m - 1, by omega⟩
    rw [fR_downAll_5]
    simp (disch := omega) only [jl_, nI_add, pk_sub, pk_mul, j_neg, jlt_t, jlt_f, jle_t, jle_f, jeq_t, jeq_f, jld, jst, obs, j_div, ↓reduceIte, if_true, if_false, Nat.add_zero, Nat.sub_zero, Nat.add_sub_cancel_left]
    rfl
  | succ d ih =>
    intro r x m h1 h2 hx
    obtain ⟨m, rfl⟩ : ∃ q, m = q + 1 := ⟨m - 1, by omega⟩
    rw [fR_downAll_5, hasBit_sp (by omega) hw, down_sp h _ (by omega) hx]
    simp (disch := omega) only [jl_, nI_add, pk_sub, pk_mul, j_neg, jlt_t, jlt_f, jle_t, jle_f, jeq_t, jeq_f, jld, jst, obs, j_div, ↓reduceIte, if_true, if_false, Nat.add_zero, Nat.sub_zero, Nat.add_sub_cancel_left]
    exact ih (r + 1) _ m (by omega) (by omega) (dn_le (rp_len q n r) hx)
theorem downAll_sp (h : RR wholes ones zeros q n) {w x : Nat} (hw : w < 32) (hx : x ≤ n) : fR_downAll wholes ones zeros (nI n) (nI w) (nI x) = some (nI (da q n w 0 5 x)) := downAll_5 h hw 5 0 x FU (by omega) (fu_lt (by omega)) hx
theorem da_part {x y w : Nat} (hxy : x ≤ y) (hy : y ≤ n) (hw : w < 32) (ha : ∀ p, p < n → a p < 32) : da (qb a) n w 0 5 y = da (qb a) n w 0 5 x + (List.range' x (y - x)).countP (fun p => a p == w) := by
  have s := seg_da (w := w) 5 0 x y _ (seg_part (q := qb a) hxy hy)
  rw [fl_mem hw (fun p hp => ha p (by rw [List.mem_range'_1] at hp; omega))] at s
  obtain ⟨X, Y, -, -, e⟩ := s
  rw [List.countP_eq_length_filter, e]
theorem numberOf_sp (h : RR wholes ones zeros (qb a) n) (ha : ∀ p, p < n → a p < 32) {x y w : Nat} (hxy : x ≤ y) (hy : y ≤ n) (hw : w < 32) : fR_numberOf wholes ones zeros (nI n) (nI x) (nI y) (nI w) = some (nI ((List.range' x (y - x)).countP (fun p => a p == w))) := by
  unfold fR_numberOf
  rw [downAll_sp h hw hy, downAll_sp h hw (by omega)]
  simp (disch := omega) only [jl_, nI_add, pk_sub, pk_mul, j_neg, jlt_t, jlt_f, jle_t, jle_f, jeq_t, jeq_f, jld, jst, obs, j_div, ↓reduceIte, if_true, if_false, Nat.add_zero, Nat.sub_zero, Nat.add_sub_cancel_left]
  have e := da_part (a := a) (n := n) hxy hy hw ha
  have l := da_le (q := qb a) (w := w) 5 0 y hy
  have hn := h.1
  rw [pk_sub (by omega)]
  exact congrArg (fun z => some (nI z)) (by omega)
/-! the place of a letter by its weight, from the last row back -/
theorem placeBack_36 (h : RR wholes ones zeros (qb a) n) {w p : Nat} (hw : w < 32) (hp : a p = w) : ∀ (d : Nat) (x : Nat → Nat) (m : Nat), d ≤ 5 → d < m → (rp (qb a) n 0)[p]? = some p → (∀ r, r ≤ d → (rp (qb a) n r)[x r]? = some p ∧ (r < d → x (r + 1) = dn (qb a r) (rp (qb a) n r) (hb r w) (x r))) → fR_placeBack_36 m wholes ones zeros (nI n) (nI w) (nI (x d)) (if d = 0 then -nI 1 else nI (d - 1)) = some (nI (x 0)) := by
  have hn := h.1
  intro d
  induction d with
  | zero =>
    intro x m _ h2 hp0 hx
    obtain ⟨m, rfl⟩ : ∃ q, m = q + 1 := ⟨m - 1, by omega⟩
    rw [fR_placeBack_36]
    rw [if_pos rfl, if_pos (show -nI 1 < 0 from jng (b := 1) (by omega) (by omega))]
  | succ d ih =>
    intro x m h1 h2 hp0 hx
    obtain ⟨m, rfl⟩ : ∃ q, m = q + 1 := ⟨m - 1, by omega⟩
    have h3 := ih x m (by omega) (by omega) hp0 (fun r hr => ⟨(hx r (by omega)).1, fun z => (hx r (by omega)).2 (by omega)⟩)
    have h4 := (hx d (by omega)).2 (by omega)
    have h5 := (hx d (by omega)).1
    have hq : (qb a d p == hb d w) = true := by unfold qb; rw [hp]; simp
    have h6 := placeOf_t h (hb d w) (show d < 5 by omega) h5 hq
    have hz := zerosOf_sp h (show d < 5 by omega)
    have last : (nI d + -nI 1 : Int32) = if d = 0 then -nI 1 else nI (d - 1) := by
      by_cases c : d = 0
      · subst c; decide
      · rw [if_neg c, j_neg (by omega)]
    rw [fR_placeBack_36, show (if d + 1 = 0 then -nI 1 else nI (d + 1 - 1)) = nI d from by rw [if_neg (by omega)]; rfl, hasBit_sp (by omega) hw]
    simp only [jl_]
    rw [last]
    have hl := lt_of_get (hx (d + 1) (by omega)).1
    cases hc : hb d w
    · rw [hc] at h4 h6
      have e : x (d + 1) = ca (qb a d) (rp (qb a) n d) false (x d) := h4
      rw [bI_f] at h6 ⊢
      simp (disch := omega) only [jl_, nI_add, pk_sub, pk_mul, j_neg, jlt_t, jlt_f, jle_t, jle_f, jeq_t, jeq_f, jld, jst, obs, j_div, ↓reduceIte, if_true, if_false, Nat.add_zero, Nat.sub_zero, Nat.add_sub_cancel_left]
      rw [e, h6]
      simp (disch := omega) only [jl_, nI_add, pk_sub, pk_mul, j_neg, jlt_t, jlt_f, jle_t, jle_f, jeq_t, jeq_f, jld, jst, obs, j_div, ↓reduceIte, if_true, if_false, Nat.add_zero, Nat.sub_zero, Nat.add_sub_cancel_left]
      exact h3
    · rw [hc] at h4 h6
      have e : x (d + 1) = (rp (qb a) n d).countP (fun p => !qb a d p) + ca (qb a d) (rp (qb a) n d) true (x d) := h4
      rw [bI_t] at h6 ⊢
      rw [hz]
      simp (disch := omega) only [jl_, nI_add, pk_sub, pk_mul, j_neg, jlt_t, jlt_f, jle_t, jle_f, jeq_t, jeq_f, jld, jst, obs, j_div, ↓reduceIte, if_true, if_false, Nat.add_zero, Nat.sub_zero, Nat.add_sub_cancel_left]
      rw [e, Nat.add_sub_cancel_left, h6]
      simp (disch := omega) only [jl_, nI_add, pk_sub, pk_mul, j_neg, jlt_t, jlt_f, jle_t, jle_f, jeq_t, jeq_f, jld, jst, obs, j_div, ↓reduceIte, if_true, if_false, Nat.add_zero, Nat.sub_zero, Nat.add_sub_cancel_left]
      exact h3
theorem da_snoc (w : Nat) : ∀ (d r x : Nat), da q n w r (d + 1) x = dn (q (r + d)) (rp q n (r + d)) (hb (r + d) w) (da q n w r d x) := by
  intro d
  induction d with
  | zero => intro r x; rfl
  | succ d ih =>
    intro r x
    show da q n w (r + 1) (d + 1) _ = _
    rw [ih (r + 1), show r + 1 + d = r + (d + 1) by omega]
    rfl
theorem da_path {w p : Nat} (hp : p < n) (hw : a p = w) : ∀ r, (rp (qb a) n r)[da (qb a) n w 0 r p]? = some p := by
  intro r
  induction r with
  | zero =>
    show (List.range' 0 n)[p]? = some p
    rw [List.getElem?_range' hp]
    simp
  | succ r ih =>
    rw [da_snoc, Nat.zero_add]
    have e := pstep (q := qb a r) ih
    rw [show qb a r p = hb r w by unfold qb; rw [hw]] at e
    exact e
theorem cnt_more {p m : Nat} (f : Nat → Bool) (h : p < m) (hf : f p = true) : (List.range' 0 p).countP f < (List.range' 0 m).countP f := by
  have e : List.range' 0 p ++ List.range' p (m - p) = List.range' 0 m := by
    have := List.range'_append_1 (s := 0) (m := p) (n := m - p)
    rw [show 0 + p = p by omega, show p + (m - p) = m by omega] at this
    exact this
  rw [← e, List.countP_append, show m - p = (m - p - 1) + 1 by omega, List.range'_succ, List.countP_cons, hf]
  simp
theorem placeBack_t (h : RR wholes ones zeros (qb a) n) (ha : ∀ p, p < n → a p < 32) {w p : Nat} (hw : w < 32) (hp : p < n) (hpw : a p = w) : fR_placeBack wholes ones zeros (nI n) (nI w) (nI ((List.range' 0 p).countP (fun k => a k == w))) = some (nI p) := by
  have hn := h.1
  have e1 := da_part (a := a) (n := n) (x := 0) (y := p) (w := w) (by omega) (by omega) hw ha
  have e2 := da_part (a := a) (n := n) (x := 0) (y := n) (w := w) (by omega) (by omega) hw ha
  have e3 := cnt_more (fun k => a k == w) hp (by simp [hpw])
  rw [Nat.sub_zero] at e1 e2
  have l := da_le (q := qb a) (n := n) (w := w) 5 0 n (by omega)
  have e4 := placeBack_36 h hw hpw 5 (fun r => da (qb a) n w 0 r p) FU (by omega) (fu_lt (by omega)) (da_path hp hpw 0) (fun r _ => ⟨da_path hp hpw r, fun _ => by
    have := da_snoc (q := qb a) (n := n) w r 0 p
    rw [Nat.zero_add] at this
    exact this⟩)
  unfold fR_placeBack
  simp only [jl_]
  rw [downAll_sp h hw (by omega), downAll_sp h hw (Nat.le_refl n)]
  simp (disch := omega) only [jl_, nI_add, pk_sub, pk_mul, j_neg, jlt_t, jlt_f, jle_t, jle_f, jeq_t, jeq_f, jld, jst, obs, j_div, ↓reduceIte, if_true, if_false, Nat.add_zero, Nat.sub_zero, Nat.add_sub_cancel_left]
  rw [← e1]
  exact e4
theorem placeBack_f (h : RR wholes ones zeros (qb a) n) (ha : ∀ p, p < n → a p < 32) {w j : Nat} (hw : w < 32) (hj : (List.range' 0 n).countP (fun k => a k == w) ≤ j) (hj2 : j < 2147483648) : fR_placeBack wholes ones zeros (nI n) (nI w) (nI j) = some (-nI 1) := by
  have hn := h.1
  have e2 := da_part (a := a) (n := n) (x := 0) (y := n) (w := w) (by omega) (by omega) hw ha
  rw [Nat.sub_zero] at e2
  have l := da_le (q := qb a) (n := n) (w := w) 5 0 n (by omega)
  unfold fR_placeBack
  simp only [jl_]
  rw [downAll_sp h hw (by omega), downAll_sp h hw (Nat.le_refl n)]
  simp (disch := omega) only [jl_, nI_add, pk_sub, pk_mul, j_neg, jlt_t, jlt_f, jle_t, jle_f, jeq_t, jeq_f, jld, jst, obs, j_div, ↓reduceIte, if_true, if_false, Nat.add_zero, Nat.sub_zero, Nat.add_sub_cancel_left]
theorem placeBack_n (h : RR wholes ones zeros (qb a) n) {w : Nat} {j : Int32} (hw : w < 32) (hj : j < 0) : fR_placeBack wholes ones zeros (nI n) (nI w) j = some (-nI 1) := by
  have hn := h.1
  unfold fR_placeBack
  simp only [jl_]
  rw [downAll_sp h hw (by omega)]
  simp only [obs]
  rw [if_pos (show j < nI 0 from hj)]
end RR
