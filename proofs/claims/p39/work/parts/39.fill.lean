/-! the rows are made -/
def Arr (f : Nat → Int32) (a : Nat → Nat) (P : List Nat) : Prop := ∀ k s, P[k]? = some s → f k = nI (a s)
theorem at_sp {w : Nat → Int32} {k : Nat} (h : k < 64) : fL_at w (nI k) = some (w k) := by
  unfold fL_at
  simp (disch := omega) only [jl_, nI_add, pk_sub, pk_mul, j_neg, jlt_t, jlt_f, jle_t, jle_f, jeq_t, jeq_f, jld, jst, obs, j_div, ↓reduceIte, if_true, if_false, Nat.add_zero, Nat.sub_zero, Nat.add_sub_cancel_left]
theorem fill_in {β : Type} (F : Int64 → Int32 → Option β) {order : Nat → Int32} {a : Nat → Nat} {q : Nat → Nat → Bool} {n r p : Nat} (hn : n ≤ 64) (hr : r < 5) (ho : Arr order a (rp (qb a) n r)) (ha : ∀ p, p < n → a p < 32) :
    (if nI n ≤ nI p then F (lN (bin (((rp (qb a) n r).map (qb a r)).take p))) (nI (ca (qb a r) (rp (qb a) n r) true p)) else (if nI 64 ≤ nI p then F (lN (bin (((rp (qb a) n r).map (qb a r)).take p))) (nI (ca (qb a r) (rp (qb a) n r) true p)) else Option.bind (ldA order 64 (nI p)) fun v => if fS_hasBit v (nI r) = nI 0 then F (lN (bin (((rp (qb a) n r).map (qb a r)).take p))) (nI (ca (qb a r) (rp (qb a) n r) true p)) else F (lN (bin (((rp (qb a) n r).map (qb a r)).take p)) ||| ((1 : Int64) <<< ((nI p).toInt64 &&& 63))) (nI (ca (qb a r) (rp (qb a) n r) true p + 1)))) = F (lN (bin (((rp (qb a) n r).map (qb a r)).take (p + 1)))) (nI (ca (qb a r) (rp (qb a) n r) true (p + 1))) ∨ 65 ≤ p := by
  by_cases hp65 : 65 ≤ p
  · exact Or.inr hp65
  refine Or.inl ?_
  have hl : ((rp (qb a) n r).map (qb a r)).length = n := by rw [List.length_map, rp_len]
  by_cases c : n ≤ p
  · simp (disch := omega) only [jl_, nI_add, pk_sub, pk_mul, j_neg, jlt_t, jlt_f, jle_t, jle_f, jeq_t, jeq_f, jld, jst, obs, j_div, ↓reduceIte, if_true, if_false, Nat.add_zero, Nat.sub_zero, Nat.add_sub_cancel_left]
    rw [List.take_of_length_le (by omega), List.take_of_length_le (by omega), ca_all _ _ _ (by rw [rp_len]; exact c), ca_all _ _ _ (by rw [rp_len]; omega)]
  · obtain ⟨s, hs, hsn⟩ := rp_get (q := qb a) (n := n) (r := r) (k := p) (by omega)
    have e1 : ((rp (qb a) n r).map (qb a r)).take (p + 1) = ((rp (qb a) n r).map (qb a r)).take p ++ [qb a r s] := by
      rw [List.take_add_one, List.getElem?_map, hs]
      rfl
    have e2 := ca_succ (qb a r) (rp (qb a) n r) true hs
    simp (disch := omega) only [jl_, nI_add, pk_sub, pk_mul, j_neg, jlt_t, jlt_f, jle_t, jle_f, jeq_t, jeq_f, jld, jst, obs, j_div, ↓reduceIte, if_true, if_false, Nat.add_zero, Nat.sub_zero, Nat.add_sub_cancel_left]
    rw [ho p s hs, hasBit_sp hr (ha s hsn), e1, e2, show qb a r s = hb r (a s) from rfl]
    cases hb r (a s)
    · rw [bI_f, bin_no]
      simp (disch := omega) only [jl_, nI_add, pk_sub, pk_mul, j_neg, jlt_t, jlt_f, jle_t, jle_f, jeq_t, jeq_f, jld, jst, obs, j_div, ↓reduceIte, if_true, if_false, Nat.add_zero, Nat.sub_zero, Nat.add_sub_cancel_left]
      simp
    · have e3 := jb_or (A := ((rp (qb a) n r).map (qb a r)).take p) (by rw [List.length_take]; omega)
      rw [List.length_take, hl, Nat.min_eq_left (by omega)] at e3
      rw [bI_t, e3]
      simp (disch := omega) only [jl_, nI_add, pk_sub, pk_mul, j_neg, jlt_t, jlt_f, jle_t, jle_f, jeq_t, jeq_f, jld, jst, obs, j_div, ↓reduceIte, if_true, if_false, Nat.add_zero, Nat.sub_zero, Nat.add_sub_cancel_left]
      simp
theorem fillRow_8 {zeros order : Nat → Int32} {a : Nat → Nat} {n r : Nat} {wholes : Nat → Int64} {ones : Nat → Nat → Int32} (hn : n ≤ 64) (hr : r < 5) (ho : Arr order a (rp (qb a) n r)) (ha : ∀ p, p < n → a p < 32) : ∀ (d p m : Nat) (O : Nat → Nat → Int32), p + d = 65 → d < m → (∀ j, j ≠ r → O j = ones j) → (∀ b, 8 * b < p → O r b = nI (ca (qb a r) (rp (qb a) n r) true (8 * b))) →
    ∃ W' O' Z', fR_fillRow_16 m wholes O zeros order (nI n) (nI r) (lN (bin (((rp (qb a) n r).map (qb a r)).take p))) (nI (ca (qb a r) (rp (qb a) n r) true p)) (nI p) = some (W', O', Z') ∧ (∀ j, j ≠ r → W' j = wholes j ∧ O' j = ones j ∧ Z' j = zeros j) ∧ W' r = lN (bin ((rp (qb a) n r).map (qb a r))) ∧ (∀ b, b ≤ 8 → O' r b = nI (ca (qb a r) (rp (qb a) n r) true (8 * b))) ∧ Z' r = nI ((rp (qb a) n r).countP (fun p => !qb a r p)) := by
  have hl : ((rp (qb a) n r).map (qb a r)).length = n := by rw [List.length_map, rp_len]
  have two := ca_two (qb a r) (rp (qb a) n r) (x := n) (by rw [rp_len]; omega)
  have hz : (rp (qb a) n r).countP (fun p => !qb a r p) = ca (qb a r) (rp (qb a) n r) false n := by
    rw [ca_all _ _ _ (by rw [rp_len]; omega)]
    exact List.countP_congr (fun p _ => by cases qb a r p <;> simp)
  intro d
  induction d with
  | zero =>
    intro p m O h1 h2 h3 h4
    obtain ⟨m, rfl⟩ : ∃ q, m = q + 1 := ⟨m - 1, by omega⟩
    have e : p = 65 := by omega
    subst e
    refine ⟨up wholes r (lN (bin ((rp (qb a) n r).map (qb a r)))), O, up zeros r (nI ((rp (qb a) n r).countP (fun p => !qb a r p))), ?_, fun j hj => ⟨up_ne hj, h3 j hj, up_ne hj⟩, up_eq rfl, fun b hb => h4 b (by omega), up_eq rfl⟩
    rw [fR_fillRow_16]
    rw [ca_all _ _ true (x := 65) (by rw [rp_len]; omega), ← ca_all _ _ true (x := n) (by rw [rp_len]; omega), List.take_of_length_le (by omega)]
    simp (disch := omega) only [jl_, nI_add, pk_sub, pk_mul, j_neg, jlt_t, jlt_f, jle_t, jle_f, jeq_t, jeq_f, jld, jst, obs, j_div, ↓reduceIte, if_true, if_false, Nat.add_zero, Nat.sub_zero, Nat.add_sub_cancel_left]
    rw [hz, show n - ca (qb a r) (rp (qb a) n r) true n = ca (qb a r) (rp (qb a) n r) false n by omega]
  | succ d ih =>
    intro p m O h1 h2 h3 h4
    obtain ⟨m, rfl⟩ : ∃ q, m = q + 1 := ⟨m - 1, by omega⟩
    have c1 := ca_le (qb a r) (rp (qb a) n r) true p
    have st : ∀ O', fR_fillRow_16 m wholes O' zeros order (nI n) (nI r) (lN (bin (((rp (qb a) n r).map (qb a r)).take (p + 1)))) (nI (ca (qb a r) (rp (qb a) n r) true (p + 1))) (nI (p + 1)) = _ := fun O' => ((fill_in (q := fun _ _ => false) (fun x y => fR_fillRow_16 m wholes O' zeros order (nI n) (nI r) x y (nI (p + 1))) (p := p) hn hr ho ha).resolve_right (by omega)).symm
    rw [fR_fillRow_16]
    by_cases h8 : p % 8 = 0
    · obtain ⟨W', O', Z', e, r1⟩ := ih (p + 1) m (fun j => if j = r then up (O r) (p / 8) (nI (ca (qb a r) (rp (qb a) n r) true p)) else O j) (by omega) (by omega) (fun j hj => by
        show (if j = r then _ else O j) = _
        rw [if_neg hj]; exact h3 j hj) (fun b hb => by
        show (if r = r then up (O r) (p / 8) (nI (ca (qb a r) (rp (qb a) n r) true p)) else O r) b = _
        rw [if_pos rfl]
        by_cases hc : b = p / 8
        · rw [up_eq hc, hc, show 8 * (p / 8) = p by omega]
        · rw [up_ne hc, h4 b (by omega)])
      refine ⟨W', O', Z', ?_, r1⟩
      rw [st] at e
      simp (disch := omega) only [jl_, nI_add, pk_sub, pk_mul, j_neg, jlt_t, jlt_f, jle_t, jle_f, jeq_t, jeq_f, jld, jst, obs, j_div, ↓reduceIte, if_true, if_false, Nat.add_zero, Nat.sub_zero, Nat.add_sub_cancel_left]
      exact e
    · obtain ⟨W', O', Z', e, r1⟩ := ih (p + 1) m O (by omega) (by omega) h3 (fun b hb => h4 b (by omega))
      refine ⟨W', O', Z', ?_, r1⟩
      rw [st] at e
      simp (disch := omega) only [jl_, nI_add, pk_sub, pk_mul, j_neg, jlt_t, jlt_f, jle_t, jle_f, jeq_t, jeq_f, jld, jst, obs, j_div, ↓reduceIte, if_true, if_false, Nat.add_zero, Nat.sub_zero, Nat.add_sub_cancel_left]
      simp (disch := omega) only [jl_, nI_add, pk_sub, pk_mul, j_neg, jlt_t, jlt_f, jle_t, jle_f, jeq_t, jeq_f, jld, jst, obs, j_div, ↓reduceIte, if_true, if_false, Nat.add_zero, Nat.sub_zero, Nat.add_sub_cancel_left] at e
      exact e
theorem gather_6 {order : Nat → Int32} {a : Nat → Nat} {n r : Nat} {P : List Nat} (b : Bool) (hn : n ≤ 64) (hP : P.length = n) (hr : r < 5) (ho : Arr order a P) (ha : ∀ p ∈ P, a p < 32) : ∀ (d p m at_ : Nat) (g : Nat → Int32), p + d = n → d < m → at_ + ((P.drop p).filter (fun s => qb a r s == b)).length ≤ 64 →
    ∃ g', fR_gather_6 m order g (nI n) (nI r) (bI b) (nI at_) (nI p) = some (nI (at_ + ((P.drop p).filter (fun s => qb a r s == b)).length), g') ∧ (∀ j, j < at_ → g' j = g j) ∧ ∀ k s, ((P.drop p).filter (fun s => qb a r s == b))[k]? = some s → g' (at_ + k) = nI (a s) := by
  intro d
  induction d with
  | zero =>
    intro p m at_ g h1 h2 h3
    obtain ⟨m, rfl⟩ : ∃ q, m = q + 1 := ⟨m - 1, by omega⟩
    have e : P.drop p = [] := List.drop_eq_nil_of_le (by omega)
    refine ⟨g, ?_, fun _ _ => rfl, fun k s hk => by rw [e] at hk; simp at hk⟩
    rw [fR_gather_6, e]
    simp (disch := omega) only [jl_, nI_add, pk_sub, pk_mul, j_neg, jlt_t, jlt_f, jle_t, jle_f, jeq_t, jeq_f, jld, jst, obs, j_div, ↓reduceIte, if_true, if_false, Nat.add_zero, Nat.sub_zero, Nat.add_sub_cancel_left]
    simp
  | succ d ih =>
    intro p m at_ g h1 h2 h3
    obtain ⟨m, rfl⟩ : ∃ q, m = q + 1 := ⟨m - 1, by omega⟩
    have hp : P[p]? = some P[p] := List.getElem?_eq_getElem (by omega)
    have ed : P.drop p = P[p] :: P.drop (p + 1) := List.drop_eq_getElem_cons (by omega)
    rw [ed] at h3 ⊢
    rw [fR_gather_6]
    simp (disch := omega) only [jl_, nI_add, pk_sub, pk_mul, j_neg, jlt_t, jlt_f, jle_t, jle_f, jeq_t, jeq_f, jld, jst, obs, j_div, ↓reduceIte, if_true, if_false, Nat.add_zero, Nat.sub_zero, Nat.add_sub_cancel_left]
    rw [ho p _ hp, hasBit_sp hr (ha _ (List.getElem_mem _)), show hb r (a P[p]) = qb a r P[p] from rfl]
    cases hc : (qb a r P[p] == b)
    · have hne : ¬ bI (qb a r P[p]) = bI b := by
        revert hc
        cases qb a r P[p] <;> cases b <;> decide
      have ef : (P[p] :: P.drop (p + 1)).filter (fun s => qb a r s == b) = (P.drop (p + 1)).filter (fun s => qb a r s == b) := List.filter_cons_of_neg (by simp [hc])
      rw [ef] at h3
      rw [if_neg hne, ef]
      exact ih (p + 1) m at_ g (by omega) (by omega) h3
    · have he : bI (qb a r P[p]) = bI b := by
        revert hc
        cases qb a r P[p] <;> cases b <;> decide
      have ef : (P[p] :: P.drop (p + 1)).filter (fun s => qb a r s == b) = P[p] :: (P.drop (p + 1)).filter (fun s => qb a r s == b) := List.filter_cons_of_pos (by simp [hc])
      rw [ef, List.length_cons] at h3
      rw [if_pos he, ef]
      obtain ⟨g', e, g1, g2⟩ := ih (p + 1) m (at_ + 1) (up g at_ (nI (a P[p]))) (by omega) (by omega) (by omega)
      refine ⟨g', ?_, fun j hj => by rw [g1 j (by omega), up_ne (by omega)], ?_⟩
      · rw [List.length_cons]
        simp (disch := omega) only [jl_, nI_add, pk_sub, pk_mul, j_neg, jlt_t, jlt_f, jle_t, jle_f, jeq_t, jeq_f, jld, jst, obs, j_div, ↓reduceIte, if_true, if_false, Nat.add_zero, Nat.sub_zero, Nat.add_sub_cancel_left]
        rw [e, show at_ + 1 + ((P.drop (p + 1)).filter (fun s => qb a r s == b)).length = at_ + (((P.drop (p + 1)).filter (fun s => qb a r s == b)).length + 1) by omega]
      · intro k s hk
        cases k with
        | zero =>
          rw [List.getElem?_cons_zero] at hk
          cases hk
          rw [g1 _ (by omega)]
          exact up_eq (by omega)
        | succ k =>
          rw [List.getElem?_cons_succ] at hk
          rw [show at_ + (k + 1) = at_ + 1 + k by omega]
          exact g2 k s hk
theorem gather_sp {order g : Nat → Int32} {a : Nat → Nat} {n r at_ : Nat} {P : List Nat} (b : Bool) (hn : n ≤ 64) (hP : P.length = n) (hr : r < 5) (ho : Arr order a P) (ha : ∀ p ∈ P, a p < 32) (h3 : at_ + (P.filter (fun s => qb a r s == b)).length ≤ 64) :
    ∃ g', fR_gather order g (nI n) (nI r) (bI b) (nI at_) = some (nI (at_ + (P.filter (fun s => qb a r s == b)).length), g') ∧ (∀ j, j < at_ → g' j = g j) ∧ ∀ k s, (P.filter (fun s => qb a r s == b))[k]? = some s → g' (at_ + k) = nI (a s) := by
  have := gather_6 b hn hP hr ho ha n 0 FU at_ g (by omega) (fu_lt (by omega)) (by rw [List.drop_zero]; exact h3)
  rw [List.drop_zero] at this
  exact this
theorem sort_18 {nx : Nat → Int32} {n : Nat} (hn : n ≤ 64) : ∀ (d p m : Nat) (o : Nat → Int32), p + d = n → d < m → (∀ j, j < p → o j = nx j) → ∃ o', fR_sortByBit_18 m o nx (nI n) (nI p) = some (o', nx) ∧ ∀ j, j < n → o' j = nx j := by
  intro d
  induction d with
  | zero =>
    intro p m o h1 h2 h3
    obtain ⟨m, rfl⟩ : ∃ q, m = q + 1 := ⟨m - 1, by omega⟩
    refine ⟨o, ?_, fun j hj => h3 j (by omega)⟩
    rw [fR_sortByBit_18]
    simp (disch := omega) only [jl_, nI_add, pk_sub, pk_mul, j_neg, jlt_t, jlt_f, jle_t, jle_f, jeq_t, jeq_f, jld, jst, obs, j_div, ↓reduceIte, if_true, if_false, Nat.add_zero, Nat.sub_zero, Nat.add_sub_cancel_left]
  | succ d ih =>
    intro p m o h1 h2 h3
    obtain ⟨m, rfl⟩ : ∃ q, m = q + 1 := ⟨m - 1, by omega⟩
    obtain ⟨o', e, r⟩ := ih (p + 1) m (up o p (nx p)) (by omega) (by omega) (fun j hj => by
      by_cases c : j = p
      · rw [up_eq c, c]
      · rw [up_ne c, h3 j (by omega)])
    refine ⟨o', ?_, r⟩
    rw [fR_sortByBit_18]
    simp (disch := omega) only [jl_, nI_add, pk_sub, pk_mul, j_neg, jlt_t, jlt_f, jle_t, jle_f, jeq_t, jeq_f, jld, jst, obs, j_div, ↓reduceIte, if_true, if_false, Nat.add_zero, Nat.sub_zero, Nat.add_sub_cancel_left]
    exact e
theorem sortByBit_sp {order nx : Nat → Int32} {a : Nat → Nat} {n r : Nat} {P : List Nat} (hn : n ≤ 64) (hP : P.length = n) (hr : r < 5) (ho : Arr order a P) (ha : ∀ p ∈ P, a p < 32) : ∃ o' nx', fR_sortByBit order nx (nI n) (nI r) = some (o', nx') ∧ Arr o' a (srt (qb a r) P) := by
  have hf : P.filter (fun p => qb a r p == false) = P.filter (fun p => !qb a r p) := List.filter_congr (fun p _ => by cases qb a r p <;> rfl)
  have ht : P.filter (fun p => qb a r p == true) = P.filter (qb a r) := List.filter_congr (fun p _ => by cases qb a r p <;> rfl)
  have hs := (srt_perm (qb a r) P).length_eq
  have hs2 : (srt (qb a r) P).length = (P.filter (fun p => !qb a r p)).length + (P.filter (qb a r)).length := List.length_append
  obtain ⟨g1, e1, -, a1⟩ := gather_sp (g := nx) (at_ := 0) false hn hP hr ho ha (by rw [hf]; omega)
  rw [hf] at e1 a1
  simp only [Nat.zero_add] at e1 a1
  obtain ⟨g2, e2, k2, a2⟩ := gather_sp (g := g1) (at_ := (P.filter (fun p => !qb a r p)).length) true hn hP hr ho ha (by rw [ht]; omega)
  rw [ht] at e2 a2
  obtain ⟨o', e3, a3⟩ := sort_18 (nx := g2) hn n 0 FU order (by omega) (fu_lt (by omega)) (fun j hj => by omega)
  refine ⟨o', g2, ?_, ?_⟩
  · unfold fR_sortByBit
    rw [bI_f] at e1
    rw [bI_t] at e2
    simp only [jl_]
    rw [e1]
    simp only [obs]
    rw [e2]
    simp only [obs]
    exact e3
  · intro k s hk
    have hkn : k < n := by
      have := (List.getElem?_eq_some_iff.mp hk).1
      omega
    rw [a3 k hkn]
    unfold srt at hk
    rcases Nat.lt_or_ge k (P.filter (fun p => !qb a r p)).length with c | c
    · rw [List.getElem?_append_left c] at hk
      rw [k2 k c]
      exact a1 k s hk
    · rw [List.getElem?_append_right c] at hk
      have := a2 _ s hk
      rw [show (P.filter (fun p => !qb a r p)).length + (k - (P.filter (fun p => !qb a r p)).length) = k by omega] at this
      exact this
theorem fillRow_sp {zeros order : Nat → Int32} {a : Nat → Nat} {n r : Nat} {wholes : Nat → Int64} {ones : Nat → Nat → Int32} (hn : n ≤ 64) (hr : r < 5) (ho : Arr order a (rp (qb a) n r)) (ha : ∀ p, p < n → a p < 32) :
    ∃ W' O' Z', fR_fillRow wholes ones zeros order (nI n) (nI r) = some (W', O', Z') ∧ (∀ j, j ≠ r → W' j = wholes j ∧ O' j = ones j ∧ Z' j = zeros j) ∧ W' r = lN (bin ((rp (qb a) n r).map (qb a r))) ∧ (∀ b, b ≤ 8 → O' r b = nI (ca (qb a r) (rp (qb a) n r) true (8 * b))) ∧ Z' r = nI ((rp (qb a) n r).countP (fun p => !qb a r p)) := by
  have := fillRow_8 (wholes := wholes) (ones := ones) (zeros := zeros) hn hr ho ha 65 0 FU ones (by omega) (fu_lt (by omega)) (fun _ _ => rfl) (fun b hb => by omega)
  rw [List.take_zero, ca_0, show lN (bin []) = (0 : Int64) from rfl, show nI 0 = (0 : Int32) from rfl] at this
  unfold fR_fillRow
  rw [isRow_t hr, if_neg (by decide)]
  exact this
theorem fill_46 {a : Nat → Nat} {n : Nat} {w2 : Nat → Int32} {s2 : Int32} (hn : n ≤ 64) (ha : ∀ p, p < n → a p < 32) : ∀ (d r m : Nat) (W : Nat → Int64) (O : Nat → Nat → Int32) (Z o nx : Nat → Int32), r + d = 5 → d < m → Arr o a (rp (qb a) n r) → (∀ j, j < r → W j = lN (bin ((rp (qb a) n j).map (qb a j))) ∧ (∀ b, b ≤ 8 → O j b = nI (ca (qb a j) (rp (qb a) n j) true (8 * b))) ∧ Z j = nI ((rp (qb a) n j).countP (fun p => !qb a j p))) →
    ∃ W' O' Z' o' nx', fR_fill_46 m W O Z o nx (nI n) w2 s2 (nI r) = some (W', O', Z', o', nx', nI n) ∧ RR W' O' Z' (qb a) n := by
  intro d
  induction d with
  | zero =>
    intro r m W O Z o nx h1 h2 h3 h4
    obtain ⟨m, rfl⟩ : ∃ q, m = q + 1 := ⟨m - 1, by omega⟩
    have e : r = 5 := by omega
    subst e
    refine ⟨W, O, Z, o, nx, ?_, hn, h4⟩
    rw [fR_fill_46]
    simp (disch := omega) only [jl_, nI_add, pk_sub, pk_mul, j_neg, jlt_t, jlt_f, jle_t, jle_f, jeq_t, jeq_f, jld, jst, obs, j_div, ↓reduceIte, if_true, if_false, Nat.add_zero, Nat.sub_zero, Nat.add_sub_cancel_left]
  | succ d ih =>
    intro r m W O Z o nx h1 h2 h3 h4
    obtain ⟨m, rfl⟩ : ∃ q, m = q + 1 := ⟨m - 1, by omega⟩
    obtain ⟨W1, O1, Z1, e1, k1, w1, o1, z1⟩ := fillRow_sp (wholes := W) (ones := O) (zeros := Z) hn (show r < 5 by omega) h3 ha
    obtain ⟨o2, nx2, e2, ho2⟩ := sortByBit_sp (nx := nx) hn (rp_len _ _ _) (show r < 5 by omega) h3 (fun p hp => ha p (rp_lt hp))
    obtain ⟨W', O', Z', o', nx', e3, hR⟩ := ih (r + 1) m W1 O1 Z1 o2 nx2 (by omega) (by omega) ho2 (fun j hj => by
      by_cases c : j = r
      · subst c; exact ⟨w1, o1, z1⟩
      · obtain ⟨x1, x2, x3⟩ := k1 j c
        rw [x1, x2, x3]
        exact h4 j (by omega))
    refine ⟨W', O', Z', o', nx', ?_, hR⟩
    rw [fR_fill_46, e1, e2]
    simp (disch := omega) only [jl_, nI_add, pk_sub, pk_mul, j_neg, jlt_t, jlt_f, jle_t, jle_f, jeq_t, jeq_f, jld, jst, obs, j_div, ↓reduceIte, if_true, if_false, Nat.add_zero, Nat.sub_zero, Nat.add_sub_cancel_left]
    exact e3
theorem fill_10 {a : Nat → Nat} {n : Nat} {w2 : Nat → Int32} {s2 : Int32} {W : Nat → Int64} {O : Nat → Nat → Int32} {Z nx : Nat → Int32} (hn : n ≤ 64) (ha : ∀ p, p < n → a p < 32) (hw : ∀ k, k < n → w2 k = nI (a k)) : ∀ (d p m : Nat) (o : Nat → Int32), p + d = n → d < m → (∀ k, k < p → o k = nI (a k)) →
    ∃ W' O' Z' o' nx', fR_fill_10 m W O Z o nx (nI n) w2 s2 (nI p) = some (W', O', Z', o', nx', nI n) ∧ RR W' O' Z' (qb a) n := by
  intro d
  induction d with
  | zero =>
    intro p m o h1 h2 h3
    obtain ⟨m, rfl⟩ : ∃ q, m = q + 1 := ⟨m - 1, by omega⟩
    obtain ⟨W', O', Z', o', nx', e3, hR⟩ := fill_46 (w2 := w2) (s2 := s2) hn ha 5 0 FU W O Z o nx (by omega) (fu_lt (by omega)) (fun k s hk => by
      have hk2 : (List.range' 0 n)[k]? = some s := hk
      have hl := (List.getElem?_eq_some_iff.mp hk2).1
      rw [List.length_range'] at hl
      rw [List.getElem?_range' hl] at hk2
      simp at hk2
      subst hk2
      exact h3 k (by omega)) (fun j hj => by omega)
    refine ⟨W', O', Z', o', nx', ?_, hR⟩
    rw [fR_fill_10]
    simp (disch := omega) only [jl_, nI_add, pk_sub, pk_mul, j_neg, jlt_t, jlt_f, jle_t, jle_f, jeq_t, jeq_f, jld, jst, obs, j_div, ↓reduceIte, if_true, if_false, Nat.add_zero, Nat.sub_zero, Nat.add_sub_cancel_left]
    exact e3
  | succ d ih =>
    intro p m o h1 h2 h3
    obtain ⟨m, rfl⟩ : ∃ q, m = q + 1 := ⟨m - 1, by omega⟩
    obtain ⟨W', O', Z', o', nx', e3, hR⟩ := ih (p + 1) m (up o p (w2 p)) (by omega) (by omega) (fun k hk => by
      by_cases c : k = p
      · rw [up_eq c, c]; exact hw p (by omega)
      · rw [up_ne c]; exact h3 k (by omega))
    refine ⟨W', O', Z', o', nx', ?_, hR⟩
    rw [fR_fill_10, at_sp (by omega)]
    simp (disch := omega) only [jl_, nI_add, pk_sub, pk_mul, j_neg, jlt_t, jlt_f, jle_t, jle_f, jeq_t, jeq_f, jld, jst, obs, j_div, ↓reduceIte, if_true, if_false, Nat.add_zero, Nat.sub_zero, Nat.add_sub_cancel_left]
    exact e3
theorem fill_sp {a : Nat → Nat} {n : Nat} {w2 : Nat → Int32} {s : Int32} {W : Nat → Int64} {O : Nat → Nat → Int32} {Z o nx : Nat → Int32} (hn : n ≤ 64) (ha : ∀ p, p < n → a p < 32) (hw : ∀ k, k < n → w2 k = nI (a k)) : ∃ W' O' Z' o' nx', fR_fill W O Z o nx s w2 (nI n) = some (W', O', Z', o', nx', nI n) ∧ RR W' O' Z' (qb a) n :=
  fill_10 hn ha hw n 0 FU o (by omega) (fu_lt (by omega)) (fun k hk => by omega)
