/-! the reference's rows -/
def MP (at_ : Nat → Int32) (a : Nat → Nat) (n : Nat) : Prop := ∀ r, r < 5 → ∀ k p, (rp (qb a) n r)[k]? = some p → at_ (64 * r + k) = nI p
theorem nd_inj {P : List Nat} (h : P.Nodup) {i j p : Nat} (hi : P[i]? = some p) (hj : P[j]? = some p) : i = j := by
  obtain ⟨h1, rfl⟩ := List.getElem?_eq_some_iff.mp hi
  obtain ⟨h2, e⟩ := List.getElem?_eq_some_iff.mp hj
  have g := List.pairwise_iff_getElem.mp h
  rcases Nat.lt_trichotomy i j with q | q | q
  · exact absurd e.symm (g i j h1 h2 q)
  · exact q
  · exact absurd e (g j i h2 h1 q)
section MR
variable {w : Nat → Int32} {n : Nat} {a : Nat → Nat}
theorem frows_51 (h : MW w n a) {P : List Nat} {r : Nat} (b : Bool) (hr : r < 4) (hP : P.length = n) (hPn : ∀ p ∈ P, p < n) : ∀ (d k m to : Nat) (g : Nat → Int32), k + d = n → d < m → 64 * (r + 1) ≤ to → to + ((P.drop k).filter (fun s => qb a r s == b)).length ≤ 320 → (∀ k p, P[k]? = some p → g (64 * r + k) = nI p) →
    ∃ g', fM_findsRows_51 m w g (nI n) (nI (r + 1)) (nI to) (bI b) (nI k) = some (nI (to + ((P.drop k).filter (fun s => qb a r s == b)).length), g') ∧ (∀ j, j < to → g' j = g j) ∧ ∀ k' s, ((P.drop k).filter (fun s => qb a r s == b))[k']? = some s → g' (to + k') = nI s := by
  have hn := h.1
  intro d
  induction d with
  | zero =>
    intro k m to g h1 h2 h3 h4 h5
    obtain ⟨m, rfl⟩ : ∃ q, m = q + 1 := ⟨m - 1, by omega⟩
    have e : P.drop k = [] := List.drop_eq_nil_of_le (by omega)
    refine ⟨g, ?_, fun _ _ => rfl, fun k s hk => by rw [e] at hk; simp at hk⟩
    rw [fM_findsRows_51, e]
    simp (disch := omega) only [jl_, nI_add, pk_sub, pk_mul, j_neg, jlt_t, jlt_f, jle_t, jle_f, jeq_t, jeq_f, jld, jst, obs, j_div, ↓reduceIte, if_true, if_false, Nat.add_zero, Nat.sub_zero, Nat.add_sub_cancel_left]
    simp
  | succ d ih =>
    intro k m to g h1 h2 h3 h4 h5
    obtain ⟨m, rfl⟩ : ∃ q, m = q + 1 := ⟨m - 1, by omega⟩
    have hp : P[k]? = some P[k] := List.getElem?_eq_getElem (by omega)
    have hpn := hPn _ (List.getElem_mem (l := P) (n := k) (by omega))
    have ed : P.drop k = P[k] :: P.drop (k + 1) := List.drop_eq_getElem_cons (by omega)
    rw [ed] at h4 ⊢
    rw [fM_findsRows_51]
    simp (disch := omega) only [jl_, nI_add, pk_sub, pk_mul, j_neg, jlt_t, jlt_f, jle_t, jle_f, jeq_t, jeq_f, jld, jst, obs, j_div, ↓reduceIte, if_true, if_false, Nat.add_zero, Nat.sub_zero, Nat.add_sub_cancel_left]
    rw [show r + 1 - 1 = r by omega, h5 k _ hp, is_sp h hpn]
    simp (disch := omega) only [jl_, nI_add, pk_sub, pk_mul, j_neg, jlt_t, jlt_f, jle_t, jle_f, jeq_t, jeq_f, jld, jst, obs, j_div, ↓reduceIte, if_true, if_false, Nat.add_zero, Nat.sub_zero, Nat.add_sub_cancel_left]
    rw [bitOf_sp (by omega) (h.2.1 _ hpn), show hb r (a P[k]) = qb a r P[k] from rfl]
    cases hc : (qb a r P[k] == b)
    · have hne : ¬ bI (qb a r P[k]) = bI b := by
        revert hc
        cases qb a r P[k] <;> cases b <;> decide
      have ef : (P[k] :: P.drop (k + 1)).filter (fun s => qb a r s == b) = (P.drop (k + 1)).filter (fun s => qb a r s == b) := List.filter_cons_of_neg (by simp [hc])
      rw [ef] at h4
      rw [if_neg hne, ef]
      exact ih (k + 1) m to g (by omega) (by omega) h3 h4 h5
    · have he : bI (qb a r P[k]) = bI b := by
        revert hc
        cases qb a r P[k] <;> cases b <;> decide
      have ef : (P[k] :: P.drop (k + 1)).filter (fun s => qb a r s == b) = P[k] :: (P.drop (k + 1)).filter (fun s => qb a r s == b) := List.filter_cons_of_pos (by simp [hc])
      rw [ef, List.length_cons] at h4
      rw [if_pos he, ef]
      obtain ⟨g', e, g1, g2⟩ := ih (k + 1) m (to + 1) (up g to (nI P[k])) (by omega) (by omega) (by omega) (by omega) (fun k' p' hk' => by
        have := (List.getElem?_eq_some_iff.mp hk').1
        rw [up_ne (by omega)]
        exact h5 k' p' hk')
      refine ⟨g', ?_, fun j hj => by rw [g1 j (by omega), up_ne (by omega)], ?_⟩
      · rw [List.length_cons]
        simp (disch := omega) only [jl_, nI_add, pk_sub, pk_mul, j_neg, jlt_t, jlt_f, jle_t, jle_f, jeq_t, jeq_f, jld, jst, obs, j_div, ↓reduceIte, if_true, if_false, Nat.add_zero, Nat.sub_zero, Nat.add_sub_cancel_left]
        rw [e, show to + 1 + ((P.drop (k + 1)).filter (fun s => qb a r s == b)).length = to + (((P.drop (k + 1)).filter (fun s => qb a r s == b)).length + 1) by omega]
      · intro k' s hk
        cases k' with
        | zero =>
          rw [List.getElem?_cons_zero] at hk
          cases hk
          rw [g1 _ (by omega)]
          exact up_eq (by omega)
        | succ k' =>
          rw [List.getElem?_cons_succ] at hk
          rw [show to + (k' + 1) = to + 1 + k' by omega]
          exact g2 k' s hk
theorem frows_42 (h : MW w n a) {P : List Nat} {r : Nat} (hr : r < 4) (hP : P.length = n) (hPn : ∀ p ∈ P, p < n) {m : Nat} {g : Nat → Int32} (h5 : ∀ k p, P[k]? = some p → g (64 * r + k) = nI p) :
    ∃ g', fM_findsRows_42 (m + 3) w g (nI n) (nI (r + 1)) (nI (64 * (r + 1))) (nI 0) = some g' ∧ (∀ j, j < 64 * (r + 1) → g' j = g j) ∧ ∀ k s, (srt (qb a r) P)[k]? = some s → g' (64 * (r + 1) + k) = nI s := by
  have hn := h.1
  have hf : P.filter (fun p => qb a r p == false) = P.filter (fun p => !qb a r p) := List.filter_congr (fun p _ => by cases qb a r p <;> rfl)
  have ht : P.filter (fun p => qb a r p == true) = P.filter (qb a r) := List.filter_congr (fun p _ => by cases qb a r p <;> rfl)
  have hs := (srt_perm (qb a r) P).length_eq
  have hs2 : (srt (qb a r) P).length = (P.filter (fun p => !qb a r p)).length + (P.filter (qb a r)).length := List.length_append
  obtain ⟨g1, e1, k1, a1⟩ := frows_51 h false hr hP hPn n 0 FU (64 * (r + 1)) g (by omega) (fu_lt (by omega)) (by omega) (by rw [List.drop_zero, hf]; omega) h5
  rw [List.drop_zero, hf] at e1 a1
  obtain ⟨g2, e2, k2, a2⟩ := frows_51 h true hr hP hPn n 0 FU (64 * (r + 1) + (P.filter (fun p => !qb a r p)).length) g1 (by omega) (fu_lt (by omega)) (by omega) (by rw [List.drop_zero, ht]; omega) (fun k p hk => by
    have := (List.getElem?_eq_some_iff.mp hk).1
    rw [k1 _ (by omega)]
    exact h5 k p hk)
  rw [List.drop_zero, ht] at e2 a2
  refine ⟨g2, ?_, fun j hj => by rw [k2 j (by omega), k1 j hj], ?_⟩
  · rw [bI_f] at e1
    rw [bI_t] at e2
    rw [show m + 3 = (m + 2) + 1 by omega, fM_findsRows_42]
    simp (disch := omega) only [jl_, nI_add, pk_sub, pk_mul, j_neg, jlt_t, jlt_f, jle_t, jle_f, jeq_t, jeq_f, jld, jst, obs, j_div, ↓reduceIte, if_true, if_false, Nat.add_zero, Nat.sub_zero, Nat.add_sub_cancel_left]
    rw [e1]
    simp (disch := omega) only [jl_, nI_add, pk_sub, pk_mul, j_neg, jlt_t, jlt_f, jle_t, jle_f, jeq_t, jeq_f, jld, jst, obs, j_div, ↓reduceIte, if_true, if_false, Nat.add_zero, Nat.sub_zero, Nat.add_sub_cancel_left]
    rw [show m + 2 = (m + 1) + 1 by omega, fM_findsRows_42]
    simp (disch := omega) only [jl_, nI_add, pk_sub, pk_mul, j_neg, jlt_t, jlt_f, jle_t, jle_f, jeq_t, jeq_f, jld, jst, obs, j_div, ↓reduceIte, if_true, if_false, Nat.add_zero, Nat.sub_zero, Nat.add_sub_cancel_left]
    rw [e2]
    simp (disch := omega) only [jl_, nI_add, pk_sub, pk_mul, j_neg, jlt_t, jlt_f, jle_t, jle_f, jeq_t, jeq_f, jld, jst, obs, j_div, ↓reduceIte, if_true, if_false, Nat.add_zero, Nat.sub_zero, Nat.add_sub_cancel_left]
    rw [fM_findsRows_42]
    simp (disch := omega) only [jl_, nI_add, pk_sub, pk_mul, j_neg, jlt_t, jlt_f, jle_t, jle_f, jeq_t, jeq_f, jld, jst, obs, j_div, ↓reduceIte, if_true, if_false, Nat.add_zero, Nat.sub_zero, Nat.add_sub_cancel_left]
  · intro k s hk
    unfold srt at hk
    rcases Nat.lt_or_ge k (P.filter (fun p => !qb a r p)).length with c | c
    · rw [List.getElem?_append_left c] at hk
      rw [k2 _ (by omega)]
      exact a1 k s hk
    · rw [List.getElem?_append_right c] at hk
      have := a2 _ s hk
      rw [show 64 * (r + 1) + (P.filter (fun p => !qb a r p)).length + (k - (P.filter (fun p => !qb a r p)).length) = 64 * (r + 1) + k by omega] at this
      exact this
theorem frows_29 (h : MW w n a) : ∀ (d r m : Nat) (g : Nat → Int32), r + d = 4 → d < m → (∀ r', r' ≤ r → ∀ k p, (rp (qb a) n r')[k]? = some p → g (64 * r' + k) = nI p) → ∃ g', fM_findsRows_29 m w g (nI n) (nI (r + 1)) = some g' ∧ MP g' a n := by
  have hn := h.1
  intro d
  induction d with
  | zero =>
    intro r m g h1 h2 h3
    obtain ⟨m, rfl⟩ : ∃ q, m = q + 1 := ⟨m - 1, by omega⟩
    have e : r = 4 := by omega
    subst e
    refine ⟨g, ?_, fun r' hr' => h3 r' (by omega)⟩
    rw [fM_findsRows_29]
    simp (disch := omega) only [jl_, nI_add, pk_sub, pk_mul, j_neg, jlt_t, jlt_f, jle_t, jle_f, jeq_t, jeq_f, jld, jst, obs, j_div, ↓reduceIte, if_true, if_false, Nat.add_zero, Nat.sub_zero, Nat.add_sub_cancel_left]
  | succ d ih =>
    intro r m g h1 h2 h3
    obtain ⟨m, rfl⟩ : ∃ q, m = q + 1 := ⟨m - 1, by omega⟩
    have hFU : FU = 3997 + 3 := rfl
    obtain ⟨g1, e1, k1, a1⟩ := frows_42 (m := 3997) h (show r < 4 by omega) (rp_len _ _ _) (fun p hp => rp_lt hp) (h3 r (by omega))
    obtain ⟨g', e2, hM⟩ := ih (r + 1) m g1 (by omega) (by omega) (fun r' hr' k p hk => by
      by_cases c : r' = r + 1
      · subst c; exact a1 k p hk
      · have := lt_of_get hk
        rw [k1 _ (by omega)]
        exact h3 r' (by omega) k p hk)
    refine ⟨g', ?_, hM⟩
    rw [← hFU] at e1
    rw [fM_findsRows_29]
    simp (disch := omega) only [jl_, nI_add, pk_sub, pk_mul, j_neg, jlt_t, jlt_f, jle_t, jle_f, jeq_t, jeq_f, jld, jst, obs, j_div, ↓reduceIte, if_true, if_false, Nat.add_zero, Nat.sub_zero, Nat.add_sub_cancel_left]
    rw [e1]
    simp (disch := omega) only [jl_, nI_add, pk_sub, pk_mul, j_neg, jlt_t, jlt_f, jle_t, jle_f, jeq_t, jeq_f, jld, jst, obs, j_div, ↓reduceIte, if_true, if_false, Nat.add_zero, Nat.sub_zero, Nat.add_sub_cancel_left]
    exact e2
theorem frows_9 (h : MW w n a) : ∀ (d k m : Nat) (g : Nat → Int32), k + d = n → d < m → (∀ j, j < k → g j = nI j) → ∃ g', fM_findsRows_9 m w g (nI n) (nI k) = some g' ∧ MP g' a n := by
  have hn := h.1
  intro d
  induction d with
  | zero =>
    intro k m g h1 h2 h3
    obtain ⟨m, rfl⟩ : ∃ q, m = q + 1 := ⟨m - 1, by omega⟩
    obtain ⟨g', e, hM⟩ := frows_29 h 4 0 FU g (by omega) (fu_lt (by omega)) (fun r' hr' k' p hk => by
      have e : r' = 0 := by omega
      subst e
      have hl := lt_of_get hk
      have hk2 : (List.range' 0 n)[k']? = some p := hk
      rw [List.getElem?_range' hl] at hk2
      simp at hk2
      subst hk2
      rw [Nat.mul_zero, Nat.zero_add]
      exact h3 k' (by omega))
    refine ⟨g', ?_, hM⟩
    rw [fM_findsRows_9]
    simp (disch := omega) only [jl_, nI_add, pk_sub, pk_mul, j_neg, jlt_t, jlt_f, jle_t, jle_f, jeq_t, jeq_f, jld, jst, obs, j_div, ↓reduceIte, if_true, if_false, Nat.add_zero, Nat.sub_zero, Nat.add_sub_cancel_left]
    exact e
  | succ d ih =>
    intro k m g h1 h2 h3
    obtain ⟨m, rfl⟩ : ∃ q, m = q + 1 := ⟨m - 1, by omega⟩
    obtain ⟨g', e, hM⟩ := ih (k + 1) m (up g k (nI k)) (by omega) (by omega) (fun j hj => by
      by_cases c : j = k
      · rw [up_eq c, c]
      · rw [up_ne c]; exact h3 j (by omega))
    refine ⟨g', ?_, hM⟩
    rw [fM_findsRows_9]
    simp (disch := omega) only [jl_, nI_add, pk_sub, pk_mul, j_neg, jlt_t, jlt_f, jle_t, jle_f, jeq_t, jeq_f, jld, jst, obs, j_div, ↓reduceIte, if_true, if_false, Nat.add_zero, Nat.sub_zero, Nat.add_sub_cancel_left]
    exact e
theorem findsRows_sp (h : MW w n a) (g : Nat → Int32) : ∃ g', fM_findsRows w g = some g' ∧ MP g' a n := by
  have hn := h.1
  obtain ⟨g', e, hM⟩ := frows_9 h n 0 FU g (by omega) (fu_lt (by omega)) (fun j hj => by omega)
  refine ⟨g', ?_, hM⟩
  unfold fM_findsRows
  simp (disch := omega) only [jl_, nI_add, pk_sub, pk_mul, j_neg, jlt_t, jlt_f, jle_t, jle_f, jeq_t, jeq_f, jld, jst, obs, j_div, ↓reduceIte, if_true, if_false, Nat.add_zero, Nat.sub_zero, Nat.add_sub_cancel_left]
  rw [h.2.2.1]
  exact e
variable {at_ : Nat → Int32}
theorem mbitAt_sp (h : MW w n a) (hM : MP at_ a n) {r k p : Nat} (hr : r < 5) (hk : (rp (qb a) n r)[k]? = some p) : fM_bitAt w at_ (nI r) (nI k) = some (bI (qb a r p)) := by
  have hn := h.1
  have hl := lt_of_get hk
  have hpn : p < n := by
    have := List.mem_of_getElem? hk
    exact rp_lt this
  unfold fM_bitAt
  simp (disch := omega) only [jl_, nI_add, pk_sub, pk_mul, j_neg, jlt_t, jlt_f, jle_t, jle_f, jeq_t, jeq_f, jld, jst, obs, j_div, ↓reduceIte, if_true, if_false, Nat.add_zero, Nat.sub_zero, Nat.add_sub_cancel_left]
  rw [hM r hr k p hk, is_sp h hpn]
  simp (disch := omega) only [jl_, nI_add, pk_sub, pk_mul, j_neg, jlt_t, jlt_f, jle_t, jle_f, jeq_t, jeq_f, jld, jst, obs, j_div, ↓reduceIte, if_true, if_false, Nat.add_zero, Nat.sub_zero, Nat.add_sub_cancel_left]
  rw [bitOf_sp hr (h.2.1 p hpn)]
  rfl
theorem counted_6 (h : MW w n a) (hM : MP at_ a n) {r x : Nat} (b : Bool) (hr : r < 5) (hx : x ≤ n) : ∀ d k m, k + d = x → d < m → fM_counted_6 m w at_ (nI r) (bI b) (nI x) (nI (ca (qb a r) (rp (qb a) n r) b k)) (nI k) = some (nI (ca (qb a r) (rp (qb a) n r) b x)) := by
  have hn := h.1
  intro d
  induction d with
  | zero =>
    intro k m h1 h2
    obtain ⟨m, rfl⟩ : ∃ q, m = q + 1 := ⟨m - 1, by omega⟩
    rw [fM_counted_6]
    simp (disch := omega) only [jl_, nI_add, pk_sub, pk_mul, j_neg, jlt_t, jlt_f, jle_t, jle_f, jeq_t, jeq_f, jld, jst, obs, j_div, ↓reduceIte, if_true, if_false, Nat.add_zero, Nat.sub_zero, Nat.add_sub_cancel_left]
    rw [show k = x by omega]
  | succ d ih =>
    intro k m h1 h2
    obtain ⟨m, rfl⟩ : ∃ q, m = q + 1 := ⟨m - 1, by omega⟩
    obtain ⟨p, hp, -⟩ := rp_get (q := qb a) (n := n) (r := r) (k := k) (by omega)
    rw [fM_counted_6, mbitAt_sp h hM hr hp]
    have e := ih (k + 1) m (by omega) (by omega)
    rw [ca_succ _ _ _ hp] at e
    cases hc : (qb a r p == b)
    · rw [hc] at e
      have hne : ¬ bI (qb a r p) = bI b := by
        revert hc
        cases qb a r p <;> cases b <;> decide
      simp (disch := omega) only [jl_, nI_add, pk_sub, pk_mul, j_neg, jlt_t, jlt_f, jle_t, jle_f, jeq_t, jeq_f, jld, jst, obs, j_div, ↓reduceIte, if_true, if_false, Nat.add_zero, Nat.sub_zero, Nat.add_sub_cancel_left]
      rw [if_neg hne]
      exact e
    · rw [hc] at e
      have he : bI (qb a r p) = bI b := by
        revert hc
        cases qb a r p <;> cases b <;> decide
      simp (disch := omega) only [jl_, nI_add, pk_sub, pk_mul, j_neg, jlt_t, jlt_f, jle_t, jle_f, jeq_t, jeq_f, jld, jst, obs, j_div, ↓reduceIte, if_true, if_false, Nat.add_zero, Nat.sub_zero, Nat.add_sub_cancel_left]
      rw [if_pos he]
      exact e
theorem counted_sp (h : MW w n a) (hM : MP at_ a n) {r x : Nat} (b : Bool) (hr : r < 5) (hx : x ≤ n) : fM_counted w at_ (nI r) (bI b) (nI x) = some (nI (ca (qb a r) (rp (qb a) n r) b x)) := by
  have hn := h.1
  have e := counted_6 h hM b hr hx x 0 FU (by omega) (fu_lt (by omega))
  rw [ca_0] at e
  exact e
theorem standsIn_2 (h : MW w n a) (hM : MP at_ a n) {r x p : Nat} (hr : r < 5) (hx : (rp (qb a) n r)[x]? = some p) : ∀ d k m, k + d = x → d < m → fM_standsIn_2 m at_ (nI r) (nI p) (nI k) = some (nI x) := by
  have hn := h.1
  have hl := lt_of_get hx
  have hpn : p < n := rp_lt (List.mem_of_getElem? hx)
  intro d
  induction d with
  | zero =>
    intro k m h1 h2
    obtain ⟨m, rfl⟩ : ∃ q, m = q + 1 := ⟨m - 1, by omega⟩
    have e : k = x := by omega
    subst e
    rw [fM_standsIn_2]
    simp (disch := omega) only [jl_, nI_add, pk_sub, pk_mul, j_neg, jlt_t, jlt_f, jle_t, jle_f, jeq_t, jeq_f, jld, jst, obs, j_div, ↓reduceIte, if_true, if_false, Nat.add_zero, Nat.sub_zero, Nat.add_sub_cancel_left]
    rw [hM r hr k p hx]
    simp (disch := omega) only [jl_, nI_add, pk_sub, pk_mul, j_neg, jlt_t, jlt_f, jle_t, jle_f, jeq_t, jeq_f, jld, jst, obs, j_div, ↓reduceIte, if_true, if_false, Nat.add_zero, Nat.sub_zero, Nat.add_sub_cancel_left]
  | succ d ih =>
    intro k m h1 h2
    obtain ⟨m, rfl⟩ : ∃ q, m = q + 1 := ⟨m - 1, by omega⟩
    obtain ⟨s, hs, hsn⟩ := rp_get (q := qb a) (n := n) (r := r) (k := k) (by omega)
    have hne : s ≠ p := by
      intro c
      subst c
      have := nd_inj (rp_nodup (qb a) n r) hs hx
      omega
    rw [fM_standsIn_2]
    simp (disch := omega) only [jl_, nI_add, pk_sub, pk_mul, j_neg, jlt_t, jlt_f, jle_t, jle_f, jeq_t, jeq_f, jld, jst, obs, j_div, ↓reduceIte, if_true, if_false, Nat.add_zero, Nat.sub_zero, Nat.add_sub_cancel_left]
    rw [hM r hr k s hs]
    simp (disch := omega) only [jl_, nI_add, pk_sub, pk_mul, j_neg, jlt_t, jlt_f, jle_t, jle_f, jeq_t, jeq_f, jld, jst, obs, j_div, ↓reduceIte, if_true, if_false, Nat.add_zero, Nat.sub_zero, Nat.add_sub_cancel_left]
    exact ih (k + 1) m (by omega) (by omega)
theorem standsIn_sp (h : MW w n a) (hM : MP at_ a n) {r x p : Nat} (hr : r < 5) (hx : (rp (qb a) n r)[x]? = some p) : fM_standsIn at_ (nI r) (nI p) = some (nI x) := by
  have hn := h.1
  have hl := lt_of_get hx
  exact standsIn_2 h hM hr hx x 0 FU (by omega) (fu_lt (by omega))
theorem rp_at {q : Nat → Nat → Bool} {n r p : Nat} (hp : p < n) : ∃ x : Nat, (rp q n r)[x]? = some p := by
  have : p ∈ rp q n r := (rp_perm q n r).mem_iff.mpr (by rw [List.mem_range'_1]; omega)
  exact List.getElem?_of_mem this
theorem byBits_4 (h : MW w n a) (hM : MP at_ a n) {p : Nat} (hp : p < n) : ∀ d r m, r + d = 5 → d < m → fM_byBits_4 m w at_ (nI p) (nI (a p / 2 ^ (5 - r))) (nI r) = some (nI (a p)) := by
  have hn := h.1
  have hap := h.2.1 p hp
  intro d
  induction d with
  | zero =>
    intro r m h1 h2
    obtain ⟨m, rfl⟩ : ∃ q, m = q + 1 := ⟨m - 1, by omega⟩
    have e : r = 5 := by omega
    subst e
    rw [fM_byBits_4]
    simp (disch := omega) only [jl_, nI_add, pk_sub, pk_mul, j_neg, jlt_t, jlt_f, jle_t, jle_f, jeq_t, jeq_f, jld, jst, obs, j_div, ↓reduceIte, if_true, if_false, Nat.add_zero, Nat.sub_zero, Nat.add_sub_cancel_left]
    simp
  | succ d ih =>
    intro r m h1 h2
    obtain ⟨m, rfl⟩ : ∃ q, m = q + 1 := ⟨m - 1, by omega⟩
    obtain ⟨x, hx⟩ := rp_at (q := qb a) (n := n) (r := r) hp
    have e := ih (r + 1) m (by omega) (by omega)
    rw [show 5 - (r + 1) = 4 - r by omega, hb_step (show r < 5 by omega)] at e
    rw [fM_byBits_4, standsIn_sp h hM (by omega) hx]
    simp (disch := omega) only [jl_, nI_add, pk_sub, pk_mul, j_neg, jlt_t, jlt_f, jle_t, jle_f, jeq_t, jeq_f, jld, jst, obs, j_div, ↓reduceIte, if_true, if_false, Nat.add_zero, Nat.sub_zero, Nat.add_sub_cancel_left]
    rw [mbitAt_sp h hM (by omega) hx, show qb a r p = hb r (a p) from rfl]
    cases hc : hb r (a p)
    · rw [hc] at e
      rw [bI_f]
      simp (disch := omega) only [jl_, nI_add, pk_sub, pk_mul, j_neg, jlt_t, jlt_f, jle_t, jle_f, jeq_t, jeq_f, jld, jst, obs, j_div, ↓reduceIte, if_true, if_false, Nat.add_zero, Nat.sub_zero, Nat.add_sub_cancel_left]
      rw [Nat.mul_comm]
      exact e
    · rw [hc] at e
      rw [bI_t]
      simp (disch := omega) only [jl_, nI_add, pk_sub, pk_mul, j_neg, jlt_t, jlt_f, jle_t, jle_f, jeq_t, jeq_f, jld, jst, obs, j_div, ↓reduceIte, if_true, if_false, Nat.add_zero, Nat.sub_zero, Nat.add_sub_cancel_left]
      rw [Nat.mul_comm]
      exact e
theorem byBits_sp (h : MW w n a) (hM : MP at_ a n) {p : Nat} (hp : p < n) : fM_byBits w at_ (nI p) = some (nI (a p)) := by
  have e := byBits_4 h hM hp 5 0 FU (by omega) (fu_lt (by omega))
  rw [show a p / 2 ^ (5 - 0) = 0 from Nat.div_eq_of_lt (h.2.1 p hp)] at e
  exact e
theorem bits_25 (h : MW w n a) (hM : MP at_ a n) {r : Nat} (hr : r < 5) : ∀ d m, d ≤ n → d < m → fM_bits_25 m w at_ (nI r) (lN (bin (((rp (qb a) n r).map (qb a r)).drop d))) (nI d - nI 1) = some (lN (bin ((rp (qb a) n r).map (qb a r))), at_) := by
  have hn := h.1
  intro d
  induction d with
  | zero =>
    intro m h1 h2
    obtain ⟨m, rfl⟩ : ∃ q, m = q + 1 := ⟨m - 1, by omega⟩
    rw [fM_bits_25, List.drop_zero, show nI 0 - nI 1 = -nI 1 from by decide, if_pos (show -nI 1 < 0 from jng (b := 1) (by omega) (by omega))]
  | succ d ih =>
    intro m h1 h2
    obtain ⟨m, rfl⟩ : ∃ q, m = q + 1 := ⟨m - 1, by omega⟩
    obtain ⟨p, hp, -⟩ := rp_get (q := qb a) (n := n) (r := r) (k := d) (by omega)
    have hl : d < ((rp (qb a) n r).map (qb a r)).length := by rw [List.length_map, rp_len]; omega
    have e := ih m (by omega) (by omega)
    have ed : ((rp (qb a) n r).map (qb a r)).drop d = qb a r p :: ((rp (qb a) n r).map (qb a r)).drop (d + 1) := by
      have e2 := List.getElem?_eq_some_iff.mp hp
      rw [List.drop_eq_getElem_cons hl, List.getElem_map, e2.2]
    rw [pk_sub (by omega), Nat.add_sub_cancel, fM_bits_25, mbitAt_sp h hM hr hp]
    rw [ed] at e
    have e3 : (2 : Int64) * lN (bin (((rp (qb a) n r).map (qb a r)).drop (d + 1))) + (bI (qb a r p)).toInt64 = lN (bin (qb a r p :: ((rp (qb a) n r).map (qb a r)).drop (d + 1))) := by
      rw [show (2 : Int64) = lN 2 from rfl, lN_mul]
      unfold bI
      rw [nI_l (by split <;> omega), lN_add, Nat.add_comm]
      rfl
    simp (disch := omega) only [obs, jl_, jlt_f]
    rw [e3, show nI d + -nI 1 = nI d - nI 1 from by rw [Int32.sub_eq_add_neg]]
    exact e
theorem mbits_sp (h : MW w n a) (hM : MP at_ a n) {r : Nat} (hr : r < 5) : fM_bits_25 FU w at_ (nI r) (0 : Int64) (nI n - nI 1) = some (lN (bin ((rp (qb a) n r).map (qb a r))), at_) := by
  have hn := h.1
  have e := bits_25 h hM hr n FU (by omega) (fu_lt (by omega))
  rw [List.drop_of_length_le (by rw [List.length_map, rp_len]; omega), show lN (bin []) = (0 : Int64) from rfl] at e
  exact e
end MR
