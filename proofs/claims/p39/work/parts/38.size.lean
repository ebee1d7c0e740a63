/-! weights by size, through the rows -/
theorem cP_add {p p1 p2 : Nat → Bool} {L : List Nat} (h : ∀ x ∈ L, (if p x then 1 else 0) = (if p1 x then 1 else 0) + (if p2 x then 1 else (0 : Nat))) : L.countP p = L.countP p1 + L.countP p2 := by
  induction L with
  | nil => rfl
  | cons x t ih =>
    rw [List.countP_cons, List.countP_cons, List.countP_cons, h x List.mem_cons_self, ih (fun y hy => h y (List.mem_cons_of_mem _ hy))]
    omega
/-- v is the weight at the place j by size -/
def IsQ (a : Nat → Nat) (S : List Nat) (j v : Nat) : Prop := S.countP (fun p => decide (a p < v)) ≤ j ∧ j < S.countP (fun p => decide (a p < v + 1))
theorem cnt_lt_mono (a : Nat → Nat) (S : List Nat) {v w : Nat} (h : v ≤ w) : S.countP (fun p => decide (a p < v)) ≤ S.countP (fun p => decide (a p < w)) :=
  List.countP_mono_left (fun x _ hx => by simp at hx ⊢; omega)
theorem IsQ.one {a : Nat → Nat} {S : List Nat} {j v w : Nat} (h : IsQ a S j v) (h2 : IsQ a S j w) : v = w := by
  rcases Nat.lt_trichotomy v w with c | c | c
  · have := cnt_lt_mono a S (v := v + 1) (w := w) (by omega)
    have h3 := h.2
    have h4 := h2.1
    omega
  · exact c
  · have := cnt_lt_mono a S (v := w + 1) (w := v) (by omega)
    have h3 := h2.2
    have h4 := h.1
    omega
theorem cnt_lt_succ (a : Nat → Nat) (S : List Nat) (v : Nat) : S.countP (fun p => decide (a p < v + 1)) = S.countP (fun p => decide (a p < v)) + S.countP (fun p => a p == v) :=
  cP_add (fun x _ => by
    rcases Nat.lt_trichotomy (a x) v with c | c | c
    · simp [c, show a x < v + 1 by omega, show ¬ a x = v by omega]
    · simp [c]
    · simp [show ¬ a x < v + 1 by omega, show ¬ a x < v by omega, show ¬ a x = v by omega])
theorem hn_b (x s : Nat) (c t : Bool) : ((c == t) && (x == s)) = (x * 2 + (if c then 1 else 0) == s * 2 + (if t then 1 else 0)) := by
  by_cases h : x = s
  · subst h; cases c <;> cases t <;> simp
  · have e : (x == s) = false := by simp [h]
    rw [e, Bool.and_false]
    symm
    rw [beq_eq_false_iff_ne]
    cases c <;> cases t <;> simp <;> omega
theorem lt_b (x s : Nat) (c : Bool) : decide (x * 2 + (if c then 1 else 0) < s * 2) = decide (x < s) := by
  apply decide_eq_decide.mpr
  cases c <;> simp <;> omega
theorem lt_b1 (x s : Nat) (c : Bool) : (if decide (x * 2 + (if c then 1 else 0) < s * 2 + 1) then 1 else 0) = (if decide (x < s) then 1 else 0) + (if ((c == false) && (x == s)) then 1 else (0 : Nat)) := by
  rcases Nat.lt_trichotomy x s with h | h | h
  · rw [decide_eq_true (show x < s from h), decide_eq_true (show x * 2 + (if c then 1 else 0) < s * 2 + 1 by split <;> omega), show (x == s) = false by simp; omega]
    simp
  · subst h
    cases c <;> simp
  · rw [decide_eq_false (show ¬ x < s by omega), decide_eq_false (show ¬ x * 2 + (if c then 1 else 0) < s * 2 + 1 by split <;> omega), show (x == s) = false by simp; omega]
    simp
section RR
variable {wholes : Nat → Int64} {ones : Nat → Nat → Int32} {zeros : Nat → Int32} {a : Nat → Nat} {n : Nat} {S0 : List Nat}
theorem bySize_15 (h : RR wholes ones zeros (qb a) n) : ∀ (d r sum b e left m : Nat) (S : List Nat), r + d = 5 → d < m → Seg (rp (qb a) n r) b e S → S = S0.filter (fun p => a p / 2 ^ (5 - r) == sum) → left < S.length → e ≤ n → sum < 2 ^ r →
    ∃ v, fR_weightBySize_15 m wholes ones zeros (nI n) (nI sum) (nI b) (nI e) (nI left) (nI r) = some (nI v) ∧ v < 32 ∧ IsQ a S0 (S0.countP (fun p => decide (a p / 2 ^ (5 - r) < sum)) + left) v := by
  have hn := h.1
  intro d
  induction d with
  | zero =>
    intro r sum b e left m S h1 h2 hs hS hl he hsum
    obtain ⟨m, rfl⟩ : ∃ q, m = q + 1 := ⟨m - 1, by omega⟩
    have e : r = 5 := by omega
    subst e
    refine ⟨sum, ?_, by omega, ?_⟩
    · rw [fR_weightBySize_15]
      simp (disch := omega) only [jl_, nI_add, pk_sub, pk_mul, j_neg, jlt_t, jlt_f, jle_t, jle_f, jeq_t, jeq_f, jld, jst, obs, j_div, ↓reduceIte, if_true, if_false, Nat.add_zero, Nat.sub_zero, Nat.add_sub_cancel_left]
    · simp only [Nat.sub_self, Nat.pow_zero, Nat.div_one] at hS ⊢
      refine ⟨by omega, ?_⟩
      rw [cnt_lt_succ]
      rw [hS, ← List.countP_eq_length_filter] at hl
      omega
  | succ d ih =>
    intro r sum b e left m S h1 h2 hs hS hl he hsum
    obtain ⟨m, rfl⟩ : ∃ q, m = q + 1 := ⟨m - 1, by omega⟩
    have hr : r < 5 := by omega
    have hbe : b ≤ e := by obtain ⟨_, _, -, -, z⟩ := hs; omega
    have hz := seg_ca hs (qb a r) false
    have c1 := ca_le (qb a r) (rp (qb a) n r) false e
    have hlen : S.length ≤ n := by obtain ⟨_, _, -, -, z⟩ := hs; omega
    have hp2 : 2 ^ r ≤ 16 := by
      rcases (by omega : r = 0 ∨ r = 1 ∨ r = 2 ∨ r = 3 ∨ r = 4) with c | c | c | c | c <;> subst c <;> decide
    have hnext : ∀ bt : Bool, S.filter (fun p => qb a r p == bt) = S0.filter (fun p => a p / 2 ^ (5 - (r + 1)) == sum * 2 + if bt then 1 else 0) := by
      intro bt
      rw [hS, List.filter_filter]
      refine List.filter_congr (fun p _ => ?_)
      have e := hb_step (v := a p) hr
      rw [show 5 - (r + 1) = 4 - r by omega, e]
      exact hn_b _ _ _ _
    have key : ∀ bt : Bool, S0.countP (fun p => decide (a p / 2 ^ (5 - (r + 1)) < sum * 2 + if bt then 1 else 0)) = S0.countP (fun p => decide (a p / 2 ^ (5 - r) < sum)) + if bt then (S.filter (fun p => qb a r p == false)).length else 0 := by
      intro bt
      cases bt
      · simp only [Bool.false_eq_true, if_false, Nat.add_zero]
        refine List.countP_congr (fun p _ => ?_)
        have e := hb_step (v := a p) hr
        rw [show 5 - (r + 1) = 4 - r by omega, e, lt_b]
      · simp only [if_true]
        rw [hS, List.filter_filter, ← List.countP_eq_length_filter]
        refine cP_add (fun p _ => ?_)
        have e := hb_step (v := a p) hr
        rw [show 5 - (r + 1) = 4 - r by omega, e]
        exact lt_b1 _ _ _
    have two : (S.filter (fun p => qb a r p == false)).length + (S.filter (fun p => qb a r p == true)).length = S.length := by
      rw [← List.countP_eq_length_filter, ← List.countP_eq_length_filter]
      have e := List.length_eq_countP_add_countP (p := fun p => qb a r p == false) (l := S)
      rw [e]
      congr 1
      exact List.countP_congr (fun p _ => by cases qb a r p <;> simp)
    have a0 := ahead_sp h false hr (show e ≤ n from he)
    have a1 := ahead_sp h false hr (show b ≤ n by omega)
    rw [bI_f] at a0 a1
    rw [fR_weightBySize_15]
    simp only [jl_]
    rw [a0, a1]
    have hps : 2 ^ (r + 1) = 2 ^ r * 2 := Nat.pow_succ ..
    by_cases c : left < (S.filter (fun p => qb a r p == false)).length
    · have d0 := down_sp h false hr (show b ≤ n by omega)
      have d1 := down_sp h false hr (show e ≤ n from he)
      rw [bI_f] at d0 d1
      obtain ⟨v, hv, hv2, hq⟩ := ih (r + 1) (sum * 2) _ _ left m _ (by omega) (by omega) (seg_next hs (qb a r) false) (hnext false) c (dn_le (rp_len _ n r) he) (by omega)
      refine ⟨v, ?_, hv2, ?_⟩
      · rw [hz]
        simp (disch := omega) only [jl_, nI_add, pk_sub, pk_mul, j_neg, jlt_t, jlt_f, jle_t, jle_f, jeq_t, jeq_f, jld, jst, obs, j_div, ↓reduceIte, if_true, if_false, Nat.add_zero, Nat.sub_zero, Nat.add_sub_cancel_left]
        rw [d0, d1]
        simp (disch := omega) only [jl_, nI_add, pk_sub, pk_mul, j_neg, jlt_t, jlt_f, jle_t, jle_f, jeq_t, jeq_f, jld, jst, obs, j_div, ↓reduceIte, if_true, if_false, Nat.add_zero, Nat.sub_zero, Nat.add_sub_cancel_left]
        exact hv
      · have k := key false
        simp only [Bool.false_eq_true, if_false, Nat.add_zero] at k
        rw [k] at hq
        exact hq
    · have d0 := down_sp h true hr (show b ≤ n by omega)
      have d1 := down_sp h true hr (show e ≤ n from he)
      rw [bI_t] at d0 d1
      obtain ⟨v, hv, hv2, hq⟩ := ih (r + 1) (sum * 2 + 1) _ _ (left - (S.filter (fun p => qb a r p == false)).length) m _ (by omega) (by omega) (seg_next hs (qb a r) true) (hnext true) (by omega) (dn_le (rp_len _ n r) he) (by omega)
      refine ⟨v, ?_, hv2, ?_⟩
      · rw [hz]
        simp (disch := omega) only [jl_, nI_add, pk_sub, pk_mul, j_neg, jlt_t, jlt_f, jle_t, jle_f, jeq_t, jeq_f, jld, jst, obs, j_div, ↓reduceIte, if_true, if_false, Nat.add_zero, Nat.sub_zero, Nat.add_sub_cancel_left]
        rw [d0, d1]
        simp (disch := omega) only [jl_, nI_add, pk_sub, pk_mul, j_neg, jlt_t, jlt_f, jle_t, jle_f, jeq_t, jeq_f, jld, jst, obs, j_div, ↓reduceIte, if_true, if_false, Nat.add_zero, Nat.sub_zero, Nat.add_sub_cancel_left]
        exact hv
      · have k := key true
        simp only [if_true] at k
        rw [k] at hq
        rw [show S0.countP (fun p => decide (a p / 2 ^ (5 - r) < sum)) + (S.filter (fun p => qb a r p == false)).length + (left - (S.filter (fun p => qb a r p == false)).length) = S0.countP (fun p => decide (a p / 2 ^ (5 - r) < sum)) + left by omega] at hq
        exact hq
theorem bySize_sp (h : RR wholes ones zeros (qb a) n) (ha : ∀ p, p < n → a p < 32) {x y j : Nat} (hxy : x ≤ y) (hy : y ≤ n) (hj : j < y - x) : ∃ v, fR_weightBySize wholes ones zeros (nI n) (nI x) (nI y) (nI j) = some (nI v) ∧ v < 32 ∧ IsQ a (List.range' x (y - x)) j v := by
  have e0 : ∀ p ∈ List.range' x (y - x), a p / 2 ^ 5 = 0 := fun p hp => Nat.div_eq_of_lt (ha p (by rw [List.mem_range'_1] at hp; omega))
  obtain ⟨v, hv, hv2, hq⟩ := bySize_15 (S0 := List.range' x (y - x)) h 5 0 0 x y j FU (List.range' x (y - x)) (by omega) (fu_lt (by omega)) (seg_part hxy hy) (by
    symm
    rw [List.filter_eq_self]
    intro p hp
    simp [e0 p hp]) (by rw [List.length_range']; exact hj) hy (by decide)
  refine ⟨v, hv, hv2, ?_⟩
  rw [show (List.range' x (y - x)).countP (fun p => decide (a p / 2 ^ (5 - 0) < 0)) = 0 from List.countP_eq_zero.mpr (fun p _ => by simp), Nat.zero_add] at hq
  exact hq
theorem below_12 (h : RR wholes ones zeros (qb a) n) {w : Nat} (hw : w < 32) (hS0 : S0.length ≤ n) : ∀ (d r b e m : Nat) (S : List Nat), r + d = 5 → d < m → Seg (rp (qb a) n r) b e S → S = S0.filter (fun p => a p / 2 ^ (5 - r) == w / 2 ^ (5 - r)) → e ≤ n →
    fR_numberBelow_12 m wholes ones zeros (nI n) (nI w) (nI (S0.countP (fun p => decide (a p / 2 ^ (5 - r) < w / 2 ^ (5 - r))))) (nI b) (nI e) (nI r) = some (nI (S0.countP (fun p => decide (a p < w)))) := by
  have hn := h.1
  intro d
  induction d with
  | zero =>
    intro r b e m S h1 h2 hs hS he
    obtain ⟨m, rfl⟩ : ∃ q, m = q + 1 := ⟨m - 1, by omega⟩
    have e : r = 5 := by omega
    subst e
    rw [fR_numberBelow_12]
    simp (disch := omega) only [jl_, nI_add, pk_sub, pk_mul, j_neg, jlt_t, jlt_f, jle_t, jle_f, jeq_t, jeq_f, jld, jst, obs, j_div, ↓reduceIte, if_true, if_false, Nat.add_zero, Nat.sub_zero, Nat.add_sub_cancel_left]
    simp only [Nat.sub_self, Nat.pow_zero, Nat.div_one]
  | succ d ih =>
    intro r b e m S h1 h2 hs hS he
    obtain ⟨m, rfl⟩ : ∃ q, m = q + 1 := ⟨m - 1, by omega⟩
    have hr : r < 5 := by omega
    have hbe : b ≤ e := by obtain ⟨_, _, -, -, z⟩ := hs; omega
    have hz := seg_ca hs (qb a r) false
    have c1 := ca_le (qb a r) (rp (qb a) n r) false e
    have hc := List.countP_le_length (p := fun p => decide (a p / 2 ^ (5 - r) < w / 2 ^ (5 - r))) (l := S0)
    have hw2 := hb_step (v := w) hr
    have hnext : S.filter (fun p => qb a r p == hb r w) = S0.filter (fun p => a p / 2 ^ (5 - (r + 1)) == w / 2 ^ (5 - (r + 1))) := by
      rw [hS, List.filter_filter]
      refine List.filter_congr (fun p _ => ?_)
      have e := hb_step (v := a p) hr
      rw [show 5 - (r + 1) = 4 - r by omega, e, hw2]
      exact hn_b _ _ _ _
    have key : S0.countP (fun p => decide (a p / 2 ^ (5 - (r + 1)) < w / 2 ^ (5 - (r + 1)))) = S0.countP (fun p => decide (a p / 2 ^ (5 - r) < w / 2 ^ (5 - r))) + if hb r w then (S.filter (fun p => qb a r p == false)).length else 0 := by
      cases hcw : hb r w
      · simp only [Bool.false_eq_true, if_false, Nat.add_zero]
        refine List.countP_congr (fun p _ => ?_)
        have e := hb_step (v := a p) hr
        rw [show 5 - (r + 1) = 4 - r by omega, e, hw2, hcw]
        simp only [Bool.false_eq_true, if_false, Nat.add_zero]
        rw [lt_b]
      · simp only [if_true]
        rw [hS, List.filter_filter, ← List.countP_eq_length_filter]
        refine cP_add (fun p _ => ?_)
        have e := hb_step (v := a p) hr
        rw [show 5 - (r + 1) = 4 - r by omega, e, hw2, hcw]
        exact lt_b1 _ _ _
    have d0 := down_sp h (hb r w) hr (show b ≤ n by omega)
    have d1 := down_sp h (hb r w) hr (show e ≤ n from he)
    have e5 := ih (r + 1) _ _ m _ (by omega) (by omega) (seg_next hs (qb a r) (hb r w)) hnext (dn_le (rp_len _ n r) he)
    rw [key] at e5
    have a0 := ahead_sp h false hr (show e ≤ n from he)
    have a1 := ahead_sp h false hr (show b ≤ n by omega)
    rw [bI_f] at a0 a1
    rw [fR_numberBelow_12, hasBit_sp hr hw]
    simp only [jl_]
    rw [a0, a1, d0, d1, hz]
    cases hcw : hb r w
    · rw [hcw] at e5
      rw [bI_f]
      simp (disch := omega) only [jl_, nI_add, pk_sub, pk_mul, j_neg, jlt_t, jlt_f, jle_t, jle_f, jeq_t, jeq_f, jld, jst, obs, j_div, ↓reduceIte, if_true, if_false, Nat.add_zero, Nat.sub_zero, Nat.add_sub_cancel_left]
      exact e5
    · rw [hcw] at e5
      rw [bI_t]
      simp (disch := omega) only [jl_, nI_add, pk_sub, pk_mul, j_neg, jlt_t, jlt_f, jle_t, jle_f, jeq_t, jeq_f, jld, jst, obs, j_div, ↓reduceIte, if_true, if_false, Nat.add_zero, Nat.sub_zero, Nat.add_sub_cancel_left]
      exact e5
theorem below_sp (h : RR wholes ones zeros (qb a) n) (ha : ∀ p, p < n → a p < 32) {x y w : Nat} (hxy : x ≤ y) (hy : y ≤ n) (hw : w < 32) : fR_numberBelow wholes ones zeros (nI n) (nI x) (nI y) (nI w) = some (nI ((List.range' x (y - x)).countP (fun p => decide (a p < w)))) := by
  have e0 : ∀ p ∈ List.range' x (y - x), a p / 2 ^ 5 = 0 := fun p hp => Nat.div_eq_of_lt (ha p (by rw [List.mem_range'_1] at hp; omega))
  have e1 : w / 2 ^ 5 = 0 := Nat.div_eq_of_lt hw
  have e := below_12 (S0 := List.range' x (y - x)) h hw (by rw [List.length_range']; omega) 5 0 x y FU (List.range' x (y - x)) (by omega) (fu_lt (by omega)) (seg_part hxy hy) (by
    symm
    rw [List.filter_eq_self]
    intro p hp
    simp [e0 p hp, e1]) hy
  rw [show (List.range' x (y - x)).countP (fun p => decide (a p / 2 ^ (5 - 0) < w / 2 ^ (5 - 0))) = 0 from List.countP_eq_zero.mpr (fun p _ => by simp [e1])] at e
  exact e
end RR
