/-! what is asked first, in both -/
theorem jz_o (d : Int32) : (Option.bind (some (-nI 1)) fun t2 : Int32 => if nI 0 ≤ t2 then some t2 else some d) = some d := by
  rw [obs]
  exact jz_f (by omega) (by omega)
section C
variable {L : TL} {w : Nat → Int32} {n : Nat} {a : Nat → Nat} {mk : Nat → Bool}
theorem row_cs (x : Int32) : (∃ r, r < 5 ∧ x = nI r ∧ fS_isRow x = nI 1 ∧ fM_isRow x = nI 1) ∨ (fS_isRow x = nI 0 ∧ fM_isRow x = nI 0) := by
  rcases j_cases x with hx | ⟨k, hk, rfl⟩
  · exact Or.inr ⟨isRow_n hx, mRow_n hx⟩
  · by_cases c : k < 5
    · exact Or.inl ⟨k, c, rfl, isRow_t c, by rw [mRow_sp k hk, decide_eq_true c]; rfl⟩
    · exact Or.inr ⟨isRow_f (by omega) hk, by rw [mRow_sp k hk, decide_eq_false c]; rfl⟩
theorem weight_cs (x : Int32) : (∃ r, r < 32 ∧ x = nI r ∧ fS_isWeight x = nI 1 ∧ fM_isWeight x = nI 1) ∨ (fS_isWeight x = nI 0 ∧ fM_isWeight x = nI 0) := by
  rcases j_cases x with hx | ⟨k, hk, rfl⟩
  · exact Or.inr ⟨isWeight_n hx, mWeight_n hx⟩
  · by_cases c : k < 32
    · exact Or.inl ⟨k, c, rfl, isWeight_t c, by rw [mWeight_sp k hk, decide_eq_true c]; rfl⟩
    · exact Or.inr ⟨isWeight_f (by omega) hk, by rw [mWeight_sp k hk, decide_eq_false c]; rfl⟩
theorem letter_cs (h : LW L w n a mk) (x : Int32) : (∃ k, k < n ∧ x = nI k ∧ fL_has L.2.1 x = nI 1 ∧ fM_isLetter w x = some (nI 1)) ∨ (fL_has L.2.1 x = nI 0 ∧ fM_isLetter w x = some (nI 0)) := by
  have hn := h.1.1
  rw [h.2.1]
  unfold fL_has
  rcases j_cases x with hx | ⟨k, hk, rfl⟩
  · right
    rw [if_pos hx]
    exact ⟨rfl, mLetter_n hx⟩
  · rw [mLetter_sp h.1 k hk]
    by_cases c : k < n
    · left
      refine ⟨k, c, rfl, ?_, ?_⟩
      · simp (disch := omega) only [jl_, nI_add, pk_sub, pk_mul, j_neg, jlt_t, jlt_f, jle_t, jle_f, jeq_t, jeq_f, jld, jst, obs, j_div, ↓reduceIte, if_true, if_false, Nat.add_zero, Nat.sub_zero, Nat.add_sub_cancel_left]
      · rw [decide_eq_true c]; rfl
    · right
      refine ⟨?_, ?_⟩
      · simp (disch := omega) only [jl_, nI_add, pk_sub, pk_mul, j_neg, jlt_t, jlt_f, jle_t, jle_f, jeq_t, jeq_f, jld, jst, obs, j_div, ↓reduceIte, if_true, if_false, Nat.add_zero, Nat.sub_zero, Nat.add_sub_cancel_left]
      · rw [decide_eq_false c]; rfl
theorem edge_cs (h : LW L w n a mk) (x : Int32) : (∃ k, k ≤ n ∧ x = nI k ∧ fS_isEdge L x = nI 1 ∧ fM_isBetween x (nI 0) (w 0) = nI 1) ∨ (fS_isEdge L x = nI 0 ∧ fM_isBetween x (nI 0) (w 0) = nI 0) := by
  have hn := h.1.1
  unfold fS_isEdge fL_size
  rw [h.2.1, h.1.2.2.1]
  rcases j_cases x with hx | ⟨k, hk, rfl⟩
  · right
    rw [if_pos hx]
    exact ⟨rfl, isB_n hx (by omega)⟩
  · rw [isB_sp k 0 n hk (by omega) (by omega)]
    by_cases c : k ≤ n
    · left
      refine ⟨k, c, rfl, ?_, ?_⟩
      · simp (disch := omega) only [jl_, nI_add, pk_sub, pk_mul, j_neg, jlt_t, jlt_f, jle_t, jle_f, jeq_t, jeq_f, jld, jst, obs, j_div, ↓reduceIte, if_true, if_false, Nat.add_zero, Nat.sub_zero, Nat.add_sub_cancel_left]
      · rw [decide_eq_true (show 0 ≤ k ∧ k ≤ n by omega)]; rfl
    · right
      refine ⟨?_, ?_⟩
      · simp (disch := omega) only [jl_, nI_add, pk_sub, pk_mul, j_neg, jlt_t, jlt_f, jle_t, jle_f, jeq_t, jeq_f, jld, jst, obs, j_div, ↓reduceIte, if_true, if_false, Nat.add_zero, Nat.sub_zero, Nat.add_sub_cancel_left]
      · rw [decide_eq_false (show ¬ (0 ≤ k ∧ k ≤ n) by omega)]; rfl
theorem part_cs (h : LW L w n a mk) (x y : Int32) : (∃ f t, f ≤ t ∧ t ≤ n ∧ x = nI f ∧ y = nI t ∧ fS_isPart L x y = nI 1 ∧ fM_isPart w x y = some (nI 1)) ∨ (fS_isPart L x y = nI 0 ∧ fM_isPart w x y = some (nI 0)) := by
  have hn := h.1.1
  unfold fS_isPart fL_size fM_isPart
  rw [h.2.1]
  simp (disch := omega) only [jl_, jld, obs]
  rw [h.1.2.2.1]
  rcases j_cases x with hx | ⟨f, hf, rfl⟩
  · right
    rw [if_pos (show x < nI 0 from hx), if_pos (show x < nI 0 from hx)]
    exact ⟨rfl, rfl⟩
  · by_cases c : y < nI f
    · right
      rw [jlt_f (by omega) (by omega), jlt_f (by omega) (by omega), if_pos c, if_pos c]
      exact ⟨rfl, rfl⟩
    · rcases j_cases y with hy | ⟨t, ht, rfl⟩
      · exact absurd (jnn_lt hy hf) c
      · have hft : f ≤ t := by
          rcases Nat.lt_or_ge t f with z | z
          · exact absurd (nI_lt z hf) c
          · exact z
        by_cases ct : t ≤ n
        · left
          refine ⟨f, t, hft, ct, rfl, rfl, ?_, ?_⟩ <;> simp (disch := omega) only [jl_, nI_add, pk_sub, pk_mul, j_neg, jlt_t, jlt_f, jle_t, jle_f, jeq_t, jeq_f, jld, jst, obs, j_div, ↓reduceIte, if_true, if_false, Nat.add_zero, Nat.sub_zero, Nat.add_sub_cancel_left]
        · right
          refine ⟨?_, ?_⟩ <;> simp (disch := omega) only [jl_, nI_add, pk_sub, pk_mul, j_neg, jlt_t, jlt_f, jle_t, jle_f, jeq_t, jeq_f, jld, jst, obs, j_div, ↓reduceIte, if_true, if_false, Nat.add_zero, Nat.sub_zero, Nat.add_sub_cancel_left]
theorem sized_cs (h : LW L w n a mk) (x y z : Int32) : (∃ f t j, f ≤ t ∧ t ≤ n ∧ j < t - f ∧ x = nI f ∧ y = nI t ∧ z = nI j ∧ fS_isPlaceOfPart L x y z = nI 1 ∧ fM_isSized w x y z = some (nI 1)) ∨ (fS_isPlaceOfPart L x y z = nI 0 ∧ fM_isSized w x y z = some (nI 0)) := by
  have hn := h.1.1
  unfold fS_isPlaceOfPart fM_isSized
  rcases part_cs h x y with ⟨f, t, hft, ht, rfl, rfl, e1, e2⟩ | ⟨e1, e2⟩
  · rw [e1, e2]
    simp only [jl_, obs]
    rcases j_cases z with hz | ⟨j, hj, rfl⟩
    · right
      rw [jeq_f (by omega) (by omega) (by omega), if_pos (show z < nI 0 from hz), jeq_f (by omega) (by omega) (by omega), isB_n hz (by omega)]
      exact ⟨rfl, rfl⟩
    · by_cases c : j < t - f
      · left
        refine ⟨f, t, j, hft, ht, c, rfl, rfl, rfl, ?_, ?_⟩
        · simp (disch := omega) only [jl_, nI_add, pk_sub, pk_mul, j_neg, jlt_t, jlt_f, jle_t, jle_f, jeq_t, jeq_f, jld, jst, obs, j_div, ↓reduceIte, if_true, if_false, Nat.add_zero, Nat.sub_zero, Nat.add_sub_cancel_left]
        · rw [pk_sub hft, pk_sub (by omega), isB_sp j 0 (t - f - 1) hj (by omega) (by omega), decide_eq_true (show 0 ≤ j ∧ j ≤ t - f - 1 by omega)]
          rfl
      · right
        refine ⟨?_, ?_⟩
        · simp (disch := omega) only [jl_, nI_add, pk_sub, pk_mul, j_neg, jlt_t, jlt_f, jle_t, jle_f, jeq_t, jeq_f, jld, jst, obs, j_div, ↓reduceIte, if_true, if_false, Nat.add_zero, Nat.sub_zero, Nat.add_sub_cancel_left]
        · by_cases c0 : t - f = 0
          · rw [pk_sub hft, c0, show nI 0 - nI 1 = -nI 1 from by decide]
            unfold fM_isBetween
            simp (disch := omega) only [jl_, nI_add, pk_sub, pk_mul, j_neg, jlt_t, jlt_f, jle_t, jle_f, jeq_t, jeq_f, jnlt_t, jnle_t, jngt_f, jnge_f, jneq_f, jnqe_f, jld, jst, obs, j_div, ↓reduceIte, if_true, if_false, Nat.add_zero, Nat.sub_zero, Nat.add_sub_cancel_left]
          · rw [pk_sub hft, pk_sub (by omega), isB_sp j 0 (t - f - 1) hj (by omega) (by omega), decide_eq_false (show ¬ (0 ≤ j ∧ j ≤ t - f - 1) by omega)]
            rfl
  · right
    rw [e1, e2]
    exact ⟨rfl, rfl⟩
end C
/-! the calls that read -/
section S
variable {L : TL} {w : Nat → Int32} {R : TR} {B : TB}
theorem st_weight (h : ST L w R B) (x : Int32) : ∃ r, fS_weight L x = some r ∧ fM_weight w x = some r := by
  obtain ⟨n, a, mk, h, hR, hB⟩ := h
  have hn := h.1.1
  unfold fS_weight fM_weight
  rcases letter_cs h x with ⟨k, hk, rfl, e1, e2⟩ | ⟨e1, e2⟩
  · rw [e1, e2, at_sp (by omega), is_sp h.1 hk, h.2.2.1 k hk]
    exact ⟨nI (a k), rfl, rfl⟩
  · rw [e1, e2]
    exact ⟨-nI 11, rfl, rfl⟩
theorem st_weightAgain (h : ST L w R B) (x : Int32) (at_ : Nat → Int32) : ∃ r at', fS_weightAgain L R x = some r ∧ fM_weightAgain w at_ x = some (r, at') := by
  obtain ⟨n, a, mk, h, hR, hB⟩ := h
  have hn := h.1.1
  obtain ⟨g, eg, hg⟩ := findsRows_sp h.1 at_
  unfold fS_weightAgain fM_weightAgain
  rcases letter_cs h x with ⟨k, hk, rfl, e1, e2⟩ | ⟨e1, e2⟩
  · rw [e1, e2, hR.2, weightOf_sp hR.1 hk (h.1.2.1 k hk), eg]
    simp only [obs]
    rw [byBits_sp h.1 hg hk]
    exact ⟨nI (a k), g, rfl, rfl⟩
  · rw [e1, e2]
    exact ⟨-nI 11, at_, rfl, rfl⟩
theorem st_bit (h : ST L w R B) (x y : Int32) (at_ : Nat → Int32) : ∃ r at', fS_bit L R x y = some r ∧ fM_bit w at_ x y = some (r, at') := by
  obtain ⟨n, a, mk, h, hR, hB⟩ := h
  have hn := h.1.1
  obtain ⟨g, eg, hg⟩ := findsRows_sp h.1 at_
  unfold fS_bit fM_bit
  rcases row_cs x with ⟨r, hr, rfl, e1, e2⟩ | ⟨e1, e2⟩
  · rw [e1, e2]
    rcases letter_cs h y with ⟨k, hk, rfl, e3, e4⟩ | ⟨e3, e4⟩
    · obtain ⟨p, hp, -⟩ := rp_get (q := qb a) (r := r) hk
      rw [e3, e4, hR.2, bitAt_sp hR.1 hr hp, eg]
      simp only [obs]
      rw [mbitAt_sp h.1 hg hr hp]
      exact ⟨bI (qb a r p), g, rfl, rfl⟩
    · rw [e3, e4]
      exact ⟨-nI 11, at_, rfl, rfl⟩
  · rw [e1, e2]
    exact ⟨-nI 11, at_, rfl, rfl⟩
theorem st_bits (h : ST L w R B) (x : Int32) (at_ : Nat → Int32) : ∃ r at', fS_bits R x = some r ∧ fM_bits w at_ x = some (r, at') := by
  obtain ⟨n, a, mk, h, hR, hB⟩ := h
  have hn := h.1.1
  obtain ⟨g, eg, hg⟩ := findsRows_sp h.1 at_
  unfold fS_bits fR_wholeRow fM_bits
  rcases row_cs x with ⟨r, hr, rfl, e1, e2⟩ | ⟨e1, e2⟩
  · rw [e1, e2, eg]
    simp (disch := omega) only [jl_, jeq_f, jld, obs]
    rw [h.1.2.2.1, mbits_sp h.1 hg hr, (hR.1.2 r hr).1]
    exact ⟨_, g, rfl, rfl⟩
  · rw [e1, e2]
    exact ⟨(0 : Int64), at_, rfl, rfl⟩
theorem st_rank (h : ST L w R B) (x : Int32) (b : Bool) (y : Int32) (at_ : Nat → Int32) : ∃ r at', fS_rank L R x (bI b) y = some r ∧ fM_rank w at_ x (bI b) y = some (r, at') := by
  obtain ⟨n, a, mk, h, hR, hB⟩ := h
  have hn := h.1.1
  obtain ⟨g, eg, hg⟩ := findsRows_sp h.1 at_
  unfold fS_rank fM_rank
  rcases row_cs x with ⟨r, hr, rfl, e1, e2⟩ | ⟨e1, e2⟩
  · rw [e1, e2, eg]
    simp (disch := omega) only [jl_, jeq_f, jld, obs]
    rcases edge_cs h y with ⟨k, hk, rfl, e3, e4⟩ | ⟨e3, e4⟩
    · rw [e3, e4, hR.2, ahead_sp hR.1 b hr hk]
      refine ⟨nI (ca (qb a r) (rp (qb a) n r) b k), g, rfl, ?_⟩
      have e5 := counted_sp h.1 hg b hr hk
      cases b
      · rw [bI_f] at e5 ⊢
        simp (disch := omega) only [jl_, nI_add, pk_sub, pk_mul, j_neg, jlt_t, jlt_f, jle_t, jle_f, jeq_t, jeq_f, jld, jst, obs, j_div, ↓reduceIte, if_true, if_false, Nat.add_zero, Nat.sub_zero, Nat.add_sub_cancel_left]
        rw [e5]
        rfl
      · rw [bI_t] at e5 ⊢
        simp (disch := omega) only [jl_, nI_add, pk_sub, pk_mul, j_neg, jlt_t, jlt_f, jle_t, jle_f, jeq_t, jeq_f, jld, jst, obs, j_div, ↓reduceIte, if_true, if_false, Nat.add_zero, Nat.sub_zero, Nat.add_sub_cancel_left]
        rw [e5]
        rfl
    · rw [e3, e4]
      exact ⟨-nI 11, at_, rfl, rfl⟩
  · rw [e1, e2]
    exact ⟨-nI 11, at_, rfl, rfl⟩
theorem st_rankAgain (h : ST L w R B) (x : Int32) (b : Bool) (y : Int32) (at_ : Nat → Int32) : ∃ r at', fS_rankAgain L R x (bI b) y = some r ∧ fM_rankAgain w at_ x (bI b) y = some (r, at') := by
  obtain ⟨n, a, mk, h, hR, hB⟩ := h
  have hn := h.1.1
  obtain ⟨g, eg, hg⟩ := findsRows_sp h.1 at_
  unfold fS_rankAgain fM_rankAgain
  rcases row_cs x with ⟨r, hr, rfl, e1, e2⟩ | ⟨e1, e2⟩
  · rw [e1, e2, eg]
    simp (disch := omega) only [jl_, jeq_f, jld, obs]
    rcases edge_cs h y with ⟨k, hk, rfl, e3, e4⟩ | ⟨e3, e4⟩
    · rw [e3, e4, hR.2, aheadOneByOne_sp hR.1 b hr hk]
      refine ⟨nI (ca (qb a r) (rp (qb a) n r) b k), g, rfl, ?_⟩
      have e5 := counted_sp h.1 hg true hr hk
      have two := ca_two (qb a r) (rp (qb a) n r) (x := k) (by rw [rp_len]; exact hk)
      rw [bI_t] at e5
      simp (disch := omega) only [jeq_f]
      rw [e5]
      cases b
      · rw [bI_f]
        simp (disch := omega) only [jl_, nI_add, pk_sub, pk_mul, j_neg, jlt_t, jlt_f, jle_t, jle_f, jeq_t, jeq_f, jld, jst, obs, j_div, ↓reduceIte, if_true, if_false, Nat.add_zero, Nat.sub_zero, Nat.add_sub_cancel_left]
        exact congrArg (fun z => some (nI z, g)) (by omega)
      · rw [bI_t]
        simp (disch := omega) only [jl_, nI_add, pk_sub, pk_mul, j_neg, jlt_t, jlt_f, jle_t, jle_f, jeq_t, jeq_f, jld, jst, obs, j_div, ↓reduceIte, if_true, if_false, Nat.add_zero, Nat.sub_zero, Nat.add_sub_cancel_left]
    · rw [e3, e4]
      exact ⟨-nI 11, at_, rfl, rfl⟩
  · rw [e1, e2]
    exact ⟨-nI 11, at_, rfl, rfl⟩
theorem select_step {n : Nat} {a : Nat → Nat} (h : MW w n a) {at_ : Nat → Int32} (hM : MP at_ a n) {r : Nat} (b : Bool) (hr : r < 5) {z : Int32} {k p m : Nat} (hk : (rp (qb a) n r)[k]? = some p) : fM_select_17 (m + 1) w at_ (nI r) (bI b) z (nI k) = if (qb a r p == b) = true ∧ nI (ca (qb a r) (rp (qb a) n r) b k) = z then some (nI k, at_) else fM_select_17 m w at_ (nI r) (bI b) z (nI (k + 1)) := by
  have hn := h.1
  have hkn := lt_of_get hk
  have e5 := counted_sp h hM b hr (show k ≤ n by omega)
  rw [fM_select_17, mbitAt_sp h hM hr hk]
  simp (disch := omega) only [jl_, jld, obs]
  rw [h.2.2.1, jle_f hkn (by omega)]
  cases b
  · rw [bI_f] at e5 ⊢
    rw [e5]
    cases hq : qb a r p
    · rw [bI_f]
      simp (disch := omega) only [jl_, nI_add, pk_sub, pk_mul, j_neg, jlt_t, jlt_f, jle_t, jle_f, jeq_t, jeq_f, jld, jst, obs, j_div, ↓reduceIte, if_true, if_false, Nat.add_zero, Nat.sub_zero, Nat.add_sub_cancel_left]
      simp only [beq_self_eq_true, true_and]
    · rw [bI_t]
      simp (disch := omega) only [jl_, nI_add, pk_sub, pk_mul, j_neg, jlt_t, jlt_f, jle_t, jle_f, jeq_t, jeq_f, jld, jst, obs, j_div, ↓reduceIte, if_true, if_false, Nat.add_zero, Nat.sub_zero, Nat.add_sub_cancel_left]
      simp
  · rw [bI_t] at e5 ⊢
    rw [e5]
    cases hq : qb a r p
    · rw [bI_f]
      simp (disch := omega) only [jl_, nI_add, pk_sub, pk_mul, j_neg, jlt_t, jlt_f, jle_t, jle_f, jeq_t, jeq_f, jld, jst, obs, j_div, ↓reduceIte, if_true, if_false, Nat.add_zero, Nat.sub_zero, Nat.add_sub_cancel_left]
      simp
    · rw [bI_t]
      simp (disch := omega) only [jl_, nI_add, pk_sub, pk_mul, j_neg, jlt_t, jlt_f, jle_t, jle_f, jeq_t, jeq_f, jld, jst, obs, j_div, ↓reduceIte, if_true, if_false, Nat.add_zero, Nat.sub_zero, Nat.add_sub_cancel_left]
      simp only [beq_self_eq_true, true_and]
theorem select_t {n : Nat} {a : Nat → Nat} (h : MW w n a) {at_ : Nat → Int32} (hM : MP at_ a n) {r : Nat} (b : Bool) (hr : r < 5) {x p : Nat} (hx : (rp (qb a) n r)[x]? = some p) (hp : (qb a r p == b) = true) : ∀ d k m, k + d = x → d < m → fM_select_17 m w at_ (nI r) (bI b) (nI (ca (qb a r) (rp (qb a) n r) b x)) (nI k) = some (nI x, at_) := by
  have hn := h.1
  have hxn := lt_of_get hx
  intro d
  induction d with
  | zero =>
    intro k m h1 h2
    obtain ⟨m, rfl⟩ : ∃ q, m = q + 1 := ⟨m - 1, by omega⟩
    have e : k = x := by omega
    subst e
    rw [select_step h hM b hr hx, if_pos ⟨hp, rfl⟩]
  | succ d ih =>
    intro k m h1 h2
    obtain ⟨m, rfl⟩ : ∃ q, m = q + 1 := ⟨m - 1, by omega⟩
    obtain ⟨s, hs, -⟩ := rp_get (q := qb a) (n := n) (r := r) (k := k) (by omega)
    have c1 := ca_le (qb a r) (rp (qb a) n r) b k
    have c2 := ca_le (qb a r) (rp (qb a) n r) b x
    rw [select_step h hM b hr hs, if_neg (fun z => by
      have e := (nI_eq (by omega) (by omega)).mp z.2
      have := kth_one hs z.1 hx hp e
      omega)]
    exact ih (k + 1) m (by omega) (by omega)
theorem select_f {n : Nat} {a : Nat → Nat} (h : MW w n a) {at_ : Nat → Int32} (hM : MP at_ a n) {r : Nat} (b : Bool) (hr : r < 5) {z : Int32} (hz : ∀ k p, (rp (qb a) n r)[k]? = some p → (qb a r p == b) = true → ¬ nI (ca (qb a r) (rp (qb a) n r) b k) = z) : ∀ d k m, k + d = n → d < m → fM_select_17 m w at_ (nI r) (bI b) z (nI k) = some (-nI 15, at_) := by
  have hn := h.1
  intro d
  induction d with
  | zero =>
    intro k m h1 h2
    obtain ⟨m, rfl⟩ : ∃ q, m = q + 1 := ⟨m - 1, by omega⟩
    rw [fM_select_17]
    simp (disch := omega) only [jl_, jld, obs]
    rw [h.2.2.1, jle_t (by omega) (by omega)]
  | succ d ih =>
    intro k m h1 h2
    obtain ⟨m, rfl⟩ : ∃ q, m = q + 1 := ⟨m - 1, by omega⟩
    obtain ⟨s, hs, -⟩ := rp_get (q := qb a) (n := n) (r := r) (k := k) (by omega)
    rw [select_step h hM b hr hs, if_neg (fun q => hz k s hs q.1 q.2)]
    exact ih (k + 1) m (by omega) (by omega)
theorem ca_lt {q : Nat → Bool} {P : List Nat} {b : Bool} {x p : Nat} (hx : P[x]? = some p) (hp : (q p == b) = true) : ca q P b x < ca q P b P.length := by
  have e := ca_succ q P b hx
  rw [hp] at e
  simp only [if_true] at e
  have hl := (List.getElem?_eq_some_iff.mp hx).1
  have := ca_mono q P b (show x + 1 ≤ P.length by omega)
  omega
theorem st_select (h : ST L w R B) (x : Int32) (b : Bool) (y : Int32) (at_ : Nat → Int32) : ∃ r at', fS_select R x (bI b) y = some r ∧ fM_select w at_ x (bI b) y = some (r, at') := by
  obtain ⟨n, a, mk, h, hR, hB⟩ := h
  have hn := h.1.1
  obtain ⟨g, eg, hg⟩ := findsRows_sp h.1 at_
  unfold fS_select fM_select
  rcases row_cs x with ⟨r, hr, rfl, e1, e2⟩ | ⟨e1, e2⟩
  · rw [e1, e2, eg, hR.2]
    simp (disch := omega) only [jl_, jeq_f, obs]
    have hl := rp_len (qb a) n r
    rcases j_cases y with hy | ⟨j, hj, rfl⟩
    · rw [placeOf_n hy, select_f h.1 hg b hr (fun k p hk hp e => by
        have := ca_le (qb a r) (rp (qb a) n r) b k
        have := lt_of_get hk
        exact jnn_ne hy (a := ca (qb a r) (rp (qb a) n r) b k) (by omega) e.symm) n 0 FU (by omega) (fu_lt (by omega))]
      exact ⟨-nI 15, g, jz_o _, rfl⟩
    · by_cases c : j < ca (qb a r) (rp (qb a) n r) b n
      · obtain ⟨x, p, hx1, hx2, hx3, hx4⟩ := kth (qb a r) (rp (qb a) n r) b j n (by omega) c
        have e3 := placeOf_t hR.1 b hr hx2 hx3
        have e4 := select_t h.1 hg b hr hx2 hx3 x 0 FU (by omega) (fu_lt (by omega))
        rw [hx4] at e3 e4
        rw [e3, e4]
        refine ⟨nI x, g, ?_, rfl⟩
        simp (disch := omega) only [jl_, nI_add, pk_sub, pk_mul, j_neg, jlt_t, jlt_f, jle_t, jle_f, jeq_t, jeq_f, jld, jst, obs, j_div, ↓reduceIte, if_true, if_false, Nat.add_zero, Nat.sub_zero, Nat.add_sub_cancel_left]
      · rw [placeOf_f hR.1 b hr (by omega) hj, select_f h.1 hg b hr (fun k p hk hp e => by
          have h1 := ca_lt hk hp
          have := ca_le (qb a r) (rp (qb a) n r) b k
          have := lt_of_get hk
          have := (nI_eq (by omega) hj).mp e
          rw [hl] at h1
          omega) n 0 FU (by omega) (fu_lt (by omega))]
        exact ⟨-nI 15, g, jz_o _, rfl⟩
  · rw [e1, e2]
    exact ⟨-nI 11, at_, rfl, rfl⟩
theorem st_placeIn (h : ST L w R B) (x y : Int32) (at_ : Nat → Int32) : ∃ r at', fS_placeIn L R x y = some r ∧ fM_placeIn w at_ x y = some (r, at') := by
  obtain ⟨n, a, mk, h, hR, hB⟩ := h
  have hn := h.1.1
  obtain ⟨g, eg, hg⟩ := findsRows_sp h.1 at_
  unfold fS_placeIn fM_placeIn
  rcases row_cs x with ⟨r, hr, rfl, e1, e2⟩ | ⟨e1, e2⟩
  · rw [e1, e2]
    rcases letter_cs h y with ⟨k, hk, rfl, e3, e4⟩ | ⟨e3, e4⟩
    · obtain ⟨z, hz1, hz2⟩ := placeDownTo_sp hR.1 hr hk
      rw [e3, e4, hR.2, hz1, eg]
      simp only [obs]
      rw [standsIn_sp h.1 hg hr hz2]
      exact ⟨nI z, g, rfl, rfl⟩
    · rw [e3, e4]
      exact ⟨-nI 11, at_, rfl, rfl⟩
  · rw [e1, e2]
    exact ⟨-nI 11, at_, rfl, rfl⟩
theorem st_quantile (h : ST L w R B) (x y z : Int32) : ∃ r, fS_quantile L R x y z = some r ∧ fM_quantile w x y z = some r := by
  obtain ⟨n, a, mk, h, hR, hB⟩ := h
  have hn := h.1.1
  unfold fS_quantile fM_quantile
  rcases sized_cs h x y z with ⟨f, t, j, hft, ht, hj, rfl, rfl, rfl, e1, e2⟩ | ⟨e1, e2⟩
  · obtain ⟨v, hv1, hv2, hv3⟩ := bySize_sp hR.1 h.1.2.1 hft ht hj
    rw [e1, e2, hR.2, hv1]
    simp (disch := omega) only [jl_, jeq_f, obs]
    rw [mbySize_sp h.1 hft ht hv3 (by omega) hv2]
    exact ⟨nI v, rfl, rfl⟩
  · rw [e1, e2]
    exact ⟨-nI 11, rfl, rfl⟩
theorem st_quantileAgain (h : ST L w R B) (x y z : Int32) (Z : TZ) : ∃ r Z', fS_quantileAgain L Z x y z = some (r, Z') ∧ fM_quantileAgain w x y z = some r := by
  obtain ⟨n, a, mk, h, hR, hB⟩ := h
  have hn := h.1.1
  unfold fS_quantileAgain fM_quantileAgain
  rcases sized_cs h x y z with ⟨f, t, j, hft, ht, hj, rfl, rfl, rfl, e1, e2⟩ | ⟨e1, e2⟩
  · obtain ⟨s', e3, h3⟩ := zfill_sp (a := a) hn h.2.2.1 h.1.2.1 hft ht Z.1 Z.2
    obtain ⟨v, hv1, hv2, hv3⟩ := h3 j hj
    rw [e1, e2, e3]
    simp (disch := omega) only [jl_, jeq_f, obs]
    rw [hv2, sizeAgain_sp h.1 hft ht (by omega) hv3]
    exact ⟨nI v, _, rfl, rfl⟩
  · rw [e1, e2]
    exact ⟨-nI 11, Z, rfl, rfl⟩
theorem st_count (h : ST L w R B) (x y z : Int32) : ∃ r, fS_count L R x y z = some r ∧ fM_count w x y z = some r := by
  obtain ⟨n, a, mk, h, hR, hB⟩ := h
  have hn := h.1.1
  unfold fS_count fM_count
  rcases part_cs h x y with ⟨f, t, hft, ht, rfl, rfl, e1, e2⟩ | ⟨e1, e2⟩
  · rw [e1, e2]
    rcases weight_cs z with ⟨v, hv, rfl, e3, e4⟩ | ⟨e3, e4⟩
    · rw [e3, e4, hR.2, numberOf_sp hR.1 h.1.2.1 hft ht hv, having_sp h.1 hft ht (by omega)]
      exact ⟨_, rfl, rfl⟩
    · rw [e3, e4]
      exact ⟨-nI 12, rfl, rfl⟩
  · rw [e1, e2]
    exact ⟨-nI 11, rfl, rfl⟩
theorem st_lighter (h : ST L w R B) (x y z : Int32) : ∃ r, fS_lighter L R x y z = some r ∧ fM_lighter w x y z = some r := by
  obtain ⟨n, a, mk, h, hR, hB⟩ := h
  have hn := h.1.1
  unfold fS_lighter fM_lighter
  rcases part_cs h x y with ⟨f, t, hft, ht, rfl, rfl, e1, e2⟩ | ⟨e1, e2⟩
  · rw [e1, e2]
    rcases weight_cs z with ⟨v, hv, rfl, e3, e4⟩ | ⟨e3, e4⟩
    · rw [e3, e4, hR.2, below_sp hR.1 h.1.2.1 hft ht hv, mbelow_sp h.1 hft ht (by omega)]
      exact ⟨_, rfl, rfl⟩
    · rw [e3, e4]
      exact ⟨-nI 12, rfl, rfl⟩
  · rw [e1, e2]
    exact ⟨-nI 11, rfl, rfl⟩
theorem st_atLeast (h : ST L w R B) (x y z : Int32) : ∃ r, fS_atLeast L R x y z = some r ∧ fM_atLeast w x y z = some r := by
  obtain ⟨n, a, mk, h, hR, hB⟩ := h
  have hn := h.1.1
  unfold fS_atLeast fM_atLeast
  rcases part_cs h x y with ⟨f, t, hft, ht, rfl, rfl, e1, e2⟩ | ⟨e1, e2⟩
  · rw [e1, e2]
    rcases weight_cs z with ⟨u, hu, rfl, e3, e4⟩ | ⟨e3, e4⟩
    · rw [e3, e4, hR.2, below_sp hR.1 h.1.2.1 hft ht hu]
      simp (disch := omega) only [jl_, jeq_f, obs, pk_sub]
      have hS : ∀ v, (List.range' f (t - f)).countP (fun p => decide (a p < v)) = cn (fun p => decide (a p < v)) f (t - f) := fun v => rfl
      have hS2 : ∀ v, (List.range' f (t - f)).countP (fun p => a p == v) = cn (fun p => a p == v) f (t - f) := fun v => rfl
      have hc := cn_le (fun p => decide (a p < u)) f (t - f)
      rw [hS]
      by_cases c : t - f ≤ cn (fun p => decide (a p < u)) f (t - f)
      · rw [jle_t c (by omega), atLeast_no h.1 hft ht (32 - u) u FU (by omega) (fu_lt (by omega)) (fun q hq hq2 => by
          have e5 := cnt_lt_succ a (List.range' f (t - f)) q
          have e6 := cnt_lt_mono a (List.range' f (t - f)) hq
          have e7 := cn_le (fun p => decide (a p < q + 1)) f (t - f)
          rw [hS, hS, hS2] at e5
          rw [hS, hS] at e6
          omega)]
        exact ⟨-nI 15, rfl, rfl⟩
      · obtain ⟨v, hv1, hv2, hv3⟩ := bySize_sp hR.1 h.1.2.1 hft ht (j := cn (fun p => decide (a p < u)) f (t - f)) (by omega)
        have q1 := hv3.1
        have q2 := hv3.2
        rw [hS] at q1 q2
        have huv : u ≤ v := by
          rcases Nat.lt_or_ge v u with z | z
          · have e6 := cnt_lt_mono a (List.range' f (t - f)) (show v + 1 ≤ u by omega)
            rw [hS, hS] at e6
            omega
          · exact z
        have e5 := cnt_lt_succ a (List.range' f (t - f)) v
        rw [hS, hS, hS2] at e5
        have e8 := cnt_lt_mono a (List.range' f (t - f)) huv
        rw [hS, hS] at e8
        rw [jle_f (by omega) (by omega), hv1, atLeast_25 h.1 hft ht hv2 (by omega) (v - u) u FU (by omega) (fu_lt (by omega)) (fun q hq hq2 => by
          have e9 := cnt_lt_succ a (List.range' f (t - f)) q
          have e6 := cnt_lt_mono a (List.range' f (t - f)) hq
          have e7 := cnt_lt_mono a (List.range' f (t - f)) (show q + 1 ≤ v by omega)
          rw [hS, hS, hS2] at e9
          rw [hS, hS] at e6 e7
          omega)]
        exact ⟨nI v, rfl, rfl⟩
    · rw [e3, e4]
      exact ⟨-nI 12, rfl, rfl⟩
  · rw [e1, e2]
    exact ⟨-nI 11, rfl, rfl⟩
theorem st_find (h : ST L w R B) (x y : Int32) : ∃ r, fS_find R x y = some r ∧ fM_find w x y = some r := by
  obtain ⟨n, a, mk, h, hR, hB⟩ := h
  have hn := h.1.1
  unfold fS_find fM_find
  rcases weight_cs x with ⟨v, hv, rfl, e3, e4⟩ | ⟨e3, e4⟩
  · rw [e3, e4, hR.2]
    simp (disch := omega) only [jl_, jeq_f, obs]
    rcases j_cases y with hy | ⟨j, hj, rfl⟩
    · rw [placeBack_n hR.1 hv hy, find_no h.1 hv (fun k hk _ e => by
        have := cn0_le (fun k => a k == v) k
        exact jnn_ne hy (a := cn (fun k => a k == v) 0 k) (by omega) e.symm) n 0 FU (by omega) (fu_lt (by omega))]
      exact ⟨-nI 15, jz_o _, rfl⟩
    · by_cases c : j < cn (fun k => a k == v) 0 n
      · obtain ⟨p, hp1, hp2, hp3, hp4⟩ := nth_of (fun k => a k == v) 0 n j c
        rw [Nat.sub_zero] at hp4
        have hpv : a p = v := by simpa using hp3
        have e5 := placeBack_t hR.1 h.1.2.1 hv (show p < n by omega) hpv
        have e6 : (List.range' 0 p).countP (fun k => a k == v) = j := hp4
        rw [e6] at e5
        rw [e5, find_12 h.1 hj (show p < n by omega) hpv hp4 hv p 0 FU (by omega) (fu_lt (by omega))]
        refine ⟨nI p, ?_, rfl⟩
        simp (disch := omega) only [jl_, nI_add, pk_sub, pk_mul, j_neg, jlt_t, jlt_f, jle_t, jle_f, jeq_t, jeq_f, jld, jst, obs, j_div, ↓reduceIte, if_true, if_false, Nat.add_zero, Nat.sub_zero, Nat.add_sub_cancel_left]
      · rw [placeBack_f hR.1 h.1.2.1 hv (show (List.range' 0 n).countP (fun k => a k == v) ≤ j from by
          show cn (fun k => a k == v) 0 n ≤ j
          omega) hj, find_no h.1 hv (fun k hk hkv e => by
          have h1 := cn_mono (fun k => a k == v) 0 (show k + 1 ≤ n by omega)
          rw [cn0_s] at h1
          simp [hkv] at h1
          have := cn0_le (fun k => a k == v) k
          have := (nI_eq (by omega) hj).mp e
          omega) n 0 FU (by omega) (fu_lt (by omega))]
        exact ⟨-nI 15, jz_o _, rfl⟩
  · rw [e3, e4]
    exact ⟨-nI 12, rfl, rfl⟩
theorem st_common (h : ST L w R B) (x y z : Int32) (Y : TY) : ∃ r Y', fS_common L Y x y z = some (r, Y') ∧ fM_common w x y z = some r := by
  obtain ⟨n, a, mk, h, hR, hB⟩ := h
  have hn := h.1.1
  unfold fS_common fM_common
  rcases part_cs h x y with ⟨f, t, hft, ht, rfl, rfl, e1, e2⟩ | ⟨e1, e2⟩
  · obtain ⟨g, eg, hg⟩ := yfill_sp (a := a) hn h.2.2.1 h.1.2.1 hft ht Y
    obtain ⟨r, r', f1, f2, f3⟩ := common_15 h.1 hft ht hg (pl := z) 32 0 FU FU (by omega) (fu_lt (by omega)) (fu_lt (by omega))
    have f4 : fY_byNumber g z = some r := f1
    rw [e1, e2, eg]
    simp (disch := omega) only [jl_, jeq_f, obs]
    rw [f4, f2]
    refine ⟨r', g, ?_, rfl⟩
    rcases f3 with ⟨q, hq, rfl, rfl⟩ | ⟨rfl, rfl⟩
    · simp (disch := omega) only [obs, jle_t]
    · simp (disch := omega) only [obs, jz_f]
  · rw [e1, e2]
    exact ⟨-nI 11, Y, rfl, rfl⟩
theorem bag_pos {b : Nat → Bool} {n j k k' : Nat} (h : IsB b n j k) (h2 : IsB b n (j + 1) k') (hj : j < cn b 0 n) : k < k' := by
  have h3 := h.le h2
  have hk := h.lt hj
  have h4 := h.at hj
  rcases Nat.lt_or_ge k k' with c | c
  · exact c
  · have e : k' = k := by omega
    subst e
    have := h2.2.2 hk
    rw [cn0_s, h4.1, h4.2] at this
    simp at this
theorem st_bagOf (h : ST L w R B) (x y : Int32) (Y : TY) : ∃ r Y', fS_bagOf L R B Y x y = some (r, Y') ∧ fM_bagOf w x y = some r := by
  obtain ⟨n, a, mk, h, hR, hB⟩ := h
  have hn := h.1.1
  have hN := cn0_le (bg mk) n
  unfold fS_bagOf fM_bagOf fB_number
  rw [mbags_sp h, hB.2.2.1]
  simp only [obs, jl_]
  rcases j_cases x with hx | ⟨j, hj, rfl⟩
  · rw [if_pos (show x < nI 0 from hx), isB_n hx (by omega)]
    exact ⟨-nI 11, Y, rfl, rfl⟩
  · by_cases c : j < cn (bg mk) 0 n
    · obtain ⟨k, hk⟩ := IsB.ex (bg mk) n j
      obtain ⟨k', hk'⟩ := IsB.ex (bg mk) n (j + 1)
      have hlt := bag_pos hk hk' c
      have hkn := hk'.1
      have b1 := beginOf_sp hB hk (by omega)
      have b2 := endOf_sp hB hk' (by omega)
      have b3 := totalOf_sp hB hk hk' c
      rw [hB.2.2.1] at b1 b2 b3
      rw [jlt_f (by omega) (by omega), jlt_t c (by omega), pk_sub (by omega), isB_sp j 0 (cn (bg mk) 0 n - 1) hj (by omega) (by omega), decide_eq_true (show 0 ≤ j ∧ j ≤ cn (bg mk) 0 n - 1 by omega), bI_t, jeq_f (by omega) (by omega) (by omega), b1, b2, b3, nI_add, mbeginOf_sp h hk (by omega), mbeginOf_sp h hk' (by omega)]
      simp only [obs]
      by_cases c0 : y = nI 0
      · rw [if_pos c0, if_pos c0]
        exact ⟨nI k, Y, rfl, rfl⟩
      rw [if_neg c0, if_neg c0]
      by_cases c1 : y = nI 1
      · rw [if_pos c1, if_pos c1]
        exact ⟨_, Y, rfl, rfl⟩
      rw [if_neg c1, if_neg c1]
      by_cases c2 : y = nI 2
      · rw [if_pos c2, if_pos c2, sum_sp h.1 (by omega) hkn]
        exact ⟨_, Y, rfl, rfl⟩
      rw [if_neg c2, if_neg c2]
      by_cases c3 : y = nI 3
      · rw [if_pos c3, if_pos c3, hR.2]
        obtain ⟨v, hv1, hv2, hv3⟩ := bySize_sp hR.1 h.1.2.1 (show k ≤ k' by omega) hkn (j := (k' - k - 1) / 2) (by omega)
        rw [pk_sub (by omega), pk_sub (by omega), j_div (by omega) (by omega) (by omega), hv1]
        unfold fM_median
        simp (disch := omega) only [jl_, pk_sub, pk_mul, j_div]
        by_cases c9 : k' - k - (k' - k) / 2 * 2 = 0
        · rw [c9, jeq_t rfl, pk_sub (by omega), show (k' - k) / 2 - 1 = (k' - k - 1) / 2 by omega, mbySize_sp h.1 (by omega) hkn hv3 (by omega) hv2]
          exact ⟨nI v, Y, rfl, rfl⟩
        · rw [jeq_f c9 (by omega) (by omega), show (k' - k) / 2 = (k' - k - 1) / 2 by omega, mbySize_sp h.1 (by omega) hkn hv3 (by omega) hv2]
          exact ⟨nI v, Y, rfl, rfl⟩
      rw [if_neg c3, if_neg c3]
      by_cases c4 : y = nI 4
      · rw [if_pos c4, if_pos c4, hR.2]
        obtain ⟨v, hv1, hv2, hv3⟩ := bySize_sp hR.1 h.1.2.1 (show k ≤ k' by omega) hkn (j := k' - k - 1) (by omega)
        rw [pk_sub (by omega), pk_sub (by omega), hv1, mbySize_sp h.1 (by omega) hkn hv3 (by omega) hv2]
        exact ⟨nI v, Y, rfl, rfl⟩
      rw [if_neg c4, if_neg c4]
      by_cases c5 : y = nI 5
      · obtain ⟨g, eg, hg⟩ := yfill_sp (a := a) hn h.2.2.1 h.1.2.1 (show k ≤ k' by omega) hkn Y
        obtain ⟨z, z1, z2⟩ := unlike_sp h.1 (show k ≤ k' by omega) hkn hg
        rw [if_pos c5, if_pos c5, eg]
        simp only [obs]
        rw [z1, z2]
        exact ⟨z, g, rfl, rfl⟩
      rw [if_neg c5, if_neg c5]
      exact ⟨-nI 12, Y, rfl, rfl⟩
    · refine ⟨-nI 11, Y, ?_, ?_⟩
      · rw [jlt_f (by omega) (by omega), jlt_f (by omega) (by omega)]
      · by_cases c0 : cn (bg mk) 0 n = 0
        · rw [c0, show nI 0 - nI 1 = -nI 1 from by decide]
          unfold fM_isBetween
          simp (disch := omega) only [jl_, nI_add, pk_sub, pk_mul, j_neg, jlt_t, jlt_f, jle_t, jle_f, jeq_t, jeq_f, jnlt_t, jnle_t, jngt_f, jnge_f, jneq_f, jnqe_f, jld, jst, obs, j_div, ↓reduceIte, if_true, if_false, Nat.add_zero, Nat.sub_zero, Nat.add_sub_cancel_left]
        · rw [pk_sub (by omega), isB_sp j 0 (cn (bg mk) 0 n - 1) hj (by omega) (by omega), decide_eq_false (show ¬ (0 ≤ j ∧ j ≤ cn (bg mk) 0 n - 1) by omega)]
          rfl
theorem st_bagAt (h : ST L w R B) (x : Int32) : ∃ r, fS_bagAt L B x = some r ∧ fM_bagAt w x = some r := by
  obtain ⟨n, a, mk, h, hR, hB⟩ := h
  have hn := h.1.1
  unfold fS_bagAt fM_bagAt
  rcases letter_cs h x with ⟨k, hk, rfl, e1, e2⟩ | ⟨e1, e2⟩
  · have h1 := cn_mono (bg mk) 0 (show 1 ≤ k + 1 by omega)
    rw [show cn (bg mk) 0 1 = 1 from rfl] at h1
    rw [e1, e2, bagWith_sp hB hk, upTo_sp h (by omega)]
    simp (disch := omega) only [jl_, jeq_f, obs, pk_sub]
    exact ⟨_, rfl, rfl⟩
  · rw [e1, e2]
    exact ⟨-nI 11, rfl, rfl⟩
theorem st_ranked (h : ST L w R B) (x : Int32) : ∃ r, fS_ranked B x = some r ∧ fM_ranked w x = some r := by
  obtain ⟨n, a, mk, h, hR, hB⟩ := h
  exact ranked_both h hB x
end S
