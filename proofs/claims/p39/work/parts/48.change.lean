/-! the calls that change -/
/-- what has been kept: w -/
def KM (w u : Nat → Int32) (ch fi : Int32) (u' : Nat → Int32) (ch' fi' : Int32) : Prop := ∃ wm : Nat → Int32, (∀ k, k < 132 → wm k = w k) ∧ fM_keepsMind u wm ch fi = some (u', ch', fi')
/-- a call that is refused changes nothing; one that is not has kept what was -/
def CH (r : Int32) (w u : Nat → Int32) (ch fi : Int32) (w' u' : Nat → Int32) (ch' fi' : Int32) : Prop :=
  (r < nI 0 ∧ (∀ k, k < 132 → w' k = w k) ∧ u' = u ∧ ch' = ch ∧ fi' = fi) ∨ (¬ r < nI 0 ∧ KM w u ch fi u' ch' fi')
theorem rem_km {w u mind u' mind' : Nat → Int32} {ch fi ch' fi' : Int32} (h : fM_remembers w u mind ch fi = some (u', mind', ch', fi')) : KM w u ch fi u' ch' fi' := by
  obtain ⟨g, e, h1⟩ := thinks_sp w mind
  unfold fM_remembers at h
  rw [e, obs] at h
  obtain ⟨t, h2, h3⟩ := ob h
  cases h3
  exact ⟨mind', h1, h2⟩
theorem CH.s {w u mind w' u' mind' : Nat → Int32} {ch fi ch' fi' r : Int32} (h0 : ¬ r < nI 0) (h : fM_remembers w u mind ch fi = some (u', mind', ch', fi')) : CH r w u ch fi w' u' ch' fi' := Or.inr ⟨h0, rem_km h⟩
theorem CH.r {w u : Nat → Int32} {ch fi r : Int32} (h0 : r < nI 0) : CH r w u ch fi w u ch fi := Or.inl ⟨h0, fun _ _ => rfl, rfl, rfl, rfl⟩
section S
variable {L : TL} {w : Nat → Int32} {R : TR} {B : TB} {n : Nat} {a : Nat → Nat} {mk : Nat → Bool} {P : TP} {u mind : Nat → Int32} {ch fi lr ld rn dn : Int32}
theorem full_sp (h : LW L w n a mk) : fL_isFull L.2.1 = bI (decide (n = 64)) := by
  have hn := h.1.1
  unfold fL_isFull
  rw [h.2.1]
  by_cases c : n = 64
  · rw [decide_eq_true c]
    simp (disch := omega) only [jl_, nI_add, pk_sub, pk_mul, j_neg, jlt_t, jlt_f, jle_t, jle_f, jeq_t, jeq_f, jld, jst, obs, j_div, ↓reduceIte, if_true, if_false, Nat.add_zero, Nat.sub_zero, Nat.add_sub_cancel_left]
    rfl
  · rw [decide_eq_false c]
    simp (disch := omega) only [jl_, nI_add, pk_sub, pk_mul, j_neg, jlt_t, jlt_f, jle_t, jle_f, jeq_t, jeq_f, jld, jst, obs, j_div, ↓reduceIte, if_true, if_false, Nat.add_zero, Nat.sub_zero, Nat.add_sub_cancel_left]
    rfl
theorem ins_cs (h : LW L w n a mk) (px vx : Int32) :
    (∃ p x, p ≤ n ∧ x < 32 ∧ n < 64 ∧ px = nI p ∧ vx = nI x ∧ fM_notInsert rn dn w px vx = some (nI 0, rn, dn)) ∨ ((px < 0 ∨ nI n < px) ∧ fM_notInsert rn dn w px vx = some (-nI 11, rn, dn)) ∨
    (∃ p, p ≤ n ∧ px = nI p ∧ fS_isWeight vx = nI 0 ∧ fM_notInsert rn dn w px vx = some (-nI 12, rn, dn)) ∨ (∃ p x, p ≤ n ∧ x < 32 ∧ n = 64 ∧ px = nI p ∧ vx = nI x ∧ fM_notInsert rn dn w px vx = some (-nI 14, nI 1, nI 64)) := by
  have hn := h.1.1
  unfold fM_notInsert fM_isNot
  simp (disch := omega) only [jl_, jld, obs]
  rw [h.1.2.2.1]
  rcases j_cases px with hx | ⟨p, hp, rfl⟩
  · right; left
    rw [isB_n hx (by omega), if_pos (by trivial)]
    exact ⟨Or.inl hx, rfl⟩
  · rw [isB_sp p 0 n hp (by omega) (by omega)]
    by_cases c : p ≤ n
    · rw [decide_eq_true (show 0 ≤ p ∧ p ≤ n by omega), bI_t, if_neg (by decide)]
      rcases weight_cs vx with ⟨x, hx, rfl, e1, e2⟩ | ⟨e1, e2⟩
      · rw [e2, if_neg (by decide)]
        by_cases c6 : n = 64
        · right; right; right
          refine ⟨p, x, c, hx, c6, rfl, rfl, ?_⟩
          rw [jeq_t c6]
        · left
          refine ⟨p, x, c, hx, by omega, rfl, rfl, ?_⟩
          rw [jeq_f c6 (by omega) (by omega)]
      · right; right; left
        refine ⟨p, c, rfl, e1, ?_⟩
        rw [e2, if_pos (by trivial)]
    · right; left
      rw [decide_eq_false (show ¬ (0 ≤ p ∧ p ≤ n) by omega), bI_f, if_pos (by trivial)]
      exact ⟨Or.inr (nI_lt (by omega) hp), rfl⟩
theorem mref_f {wy dt r d x : Int32} (h : x ≠ -nI 14) : fM_refuses wy dt r d x = some (x, wy, dt) := by
  unfold fM_refuses
  simp only [jl_]
  rw [if_neg h]
theorem mref_t {wy dt r d : Int32} : fM_refuses wy dt r d (-nI 14) = some (-nI 14, r, d) := by
  unfold fM_refuses
  simp only [jl_]
  rw [if_pos (by trivial)]
theorem st_put (h : ST L w R B) (hP : PA P u ch fi) (x : Int32) : ∃ r L' P' R' B' lr' ld' rn' dn' w' u' mind' ch' fi', fS_put L P R B lr ld x = some (r, L', P', R', B', lr', ld') ∧ fM_put lr ld rn dn w u mind ch fi x = some (r, lr', ld', rn', dn', w', u', mind', ch', fi') ∧ ST L' w' R' B' ∧ PA P' u' ch' fi' ∧ CH r w u ch fi w' u' ch' fi' := by
  obtain ⟨n, a, mk, hL, hR, hB⟩ := h
  have hn := hL.1.1
  unfold fS_put fM_put
  rw [full_sp hL]
  simp (disch := omega) only [jl_, jld, obs]
  rw [hL.1.2.2.1]
  rcases ins_cs (rn := rn) (dn := dn) hL (nI n) x with ⟨p, x, hp, hx, hlt, e1, rfl, e2⟩ | ⟨e1, e2⟩ | ⟨p, hp, e1, e3, e2⟩ | ⟨p, x, hp, hx, hlt, e1, rfl, e2⟩
  · have e : n = p := (nI_eq (by omega) (by omega)).mp e1
    subst e
    obtain ⟨W', w', c1, c2, c3⟩ := hL.come (Nat.le_refl n) hx hlt
    obtain ⟨kp, f, s, u', mind', ch', fi', k1, k2, k3⟩ := remembers_both (mind := mind) hP ⟨n, a, mk, hL⟩
    obtain ⟨R', B', f1, f2⟩ := follow_sp ⟨_, _, _, c3⟩ R B
    refine ⟨nI n, _, (kp, f, s), R', B', lr, ld, rn, dn, w', u', mind', ch', fi', ?_, ?_, f2, k3, CH.s (nI_pos (by omega)) k2⟩
    · rw [isWeight_t hx, if_neg (by decide), decide_eq_false (show ¬ n = 64 by omega), bI_f, if_pos (by trivial), k1]
      unfold fL_size
      simp only [obs]
      rw [hL.2.1] at c1 ⊢
      rw [c1]
      simp only [obs]
      rw [f1]
      simp (disch := omega) only [obs, pk_sub, Nat.add_sub_cancel]
    · rw [e2]
      simp only [obs]
      rw [if_pos (by trivial), k2]
      simp only [obs]
      rw [c2]
      simp (disch := omega) only [obs, jld]
      rw [c3.1.2.2.1, pk_sub (by omega), Nat.add_sub_cancel]
  · rcases e1 with e1 | e1
    · exact absurd e1 (nI_pos (by omega))
    · exact absurd e1 (nI_nlt (Nat.le_refl _) (by omega))
  · refine ⟨-nI 12, L, P, R, B, lr, ld, rn, dn, w, u, mind, ch, fi, ?_, ?_, ⟨n, a, mk, hL, hR, hB⟩, hP, CH.r (by decide)⟩
    · rw [e3, if_pos (by trivial)]
    · rw [e2]
      simp only [obs]
      rw [if_neg (by decide), mref_f (by decide)]
      rfl
  · refine ⟨-nI 14, L, P, R, B, nI 1, nI 64, nI 1, nI 64, w, u, mind, ch, fi, ?_, ?_, ⟨n, a, mk, hL, hR, hB⟩, hP, CH.r (by decide)⟩
    · rw [isWeight_t hx, if_neg (by decide), decide_eq_true hlt, bI_t, if_neg (by decide)]
      rfl
    · rw [e2]
      simp only [obs]
      rw [if_neg (by decide), mref_t]
      rfl
theorem st_insert (h : ST L w R B) (hP : PA P u ch fi) (px x : Int32) : ∃ r L' P' R' B' lr' ld' rn' dn' w' u' mind' ch' fi', fS_insert L P R B lr ld px x = some (r, L', P', R', B', lr', ld') ∧ fM_insert lr ld rn dn w u mind ch fi px x = some (r, lr', ld', rn', dn', w', u', mind', ch', fi') ∧ ST L' w' R' B' ∧ PA P' u' ch' fi' ∧ CH r w u ch fi w' u' ch' fi' := by
  obtain ⟨n, a, mk, hL, hR, hB⟩ := h
  have hn := hL.1.1
  unfold fS_insert fM_insert
  rw [full_sp hL]
  unfold fL_size
  rcases ins_cs (rn := rn) (dn := dn) hL px x with ⟨p, x, hp, hx, hlt, rfl, rfl, e2⟩ | ⟨e1, e2⟩ | ⟨p, hp, rfl, e3, e2⟩ | ⟨p, x, hp, hx, hlt, rfl, rfl, e2⟩
  · obtain ⟨W', w', c1, c2, c3⟩ := hL.come hp hx hlt
    obtain ⟨kp, f, s, u', mind', ch', fi', k1, k2, k3⟩ := remembers_both (mind := mind) hP ⟨n, a, mk, hL⟩
    obtain ⟨R', B', f1, f2⟩ := follow_sp ⟨_, _, _, c3⟩ R B
    refine ⟨nI (n + 1), _, (kp, f, s), R', B', lr, ld, rn, dn, w', u', mind', ch', fi', ?_, ?_, f2, k3, CH.s (nI_pos (by omega)) k2⟩
    · rw [isWeight_t hx, decide_eq_false (show ¬ n = 64 by omega), bI_f, k1, c1]
      simp only [obs]
      rw [f1, hL.2.1]
      simp (disch := omega) only [jl_, nI_add, pk_sub, pk_mul, j_neg, jlt_t, jlt_f, jle_t, jle_f, jeq_t, jeq_f, jld, jst, obs, j_div, ↓reduceIte, if_true, if_false, Nat.add_zero, Nat.sub_zero, Nat.add_sub_cancel_left]
    · rw [e2]
      simp only [obs]
      rw [if_pos (by trivial), k2]
      simp only [obs]
      rw [c2]
      simp (disch := omega) only [obs, jld, jl_]
      rw [c3.1.2.2.1]
  · refine ⟨-nI 11, L, P, R, B, lr, ld, rn, dn, w, u, mind, ch, fi, ?_, ?_, ⟨n, a, mk, hL, hR, hB⟩, hP, CH.r (by decide)⟩
    · rw [hL.2.1]
      rcases e1 with e1 | e1
      · rw [if_pos e1]
        rfl
      · rcases j_cases px with hx | ⟨p, hp, rfl⟩
        · rw [if_pos hx]
          rfl
        · have hlt : n < p := by
            rcases Nat.lt_or_ge n p with z | z
            · exact z
            · exact absurd e1 (nI_nlt z (by omega))
          simp (disch := omega) only [jl_, nI_add, pk_sub, pk_mul, j_neg, jlt_t, jlt_f, jle_t, jle_f, jeq_t, jeq_f, jld, jst, obs, j_div, ↓reduceIte, if_true, if_false, Nat.add_zero, Nat.sub_zero, Nat.add_sub_cancel_left]
    · rw [e2]
      simp only [obs]
      rw [if_neg (by decide), mref_f (by decide)]
      rfl
  · refine ⟨-nI 12, L, P, R, B, lr, ld, rn, dn, w, u, mind, ch, fi, ?_, ?_, ⟨n, a, mk, hL, hR, hB⟩, hP, CH.r (by decide)⟩
    · rw [e3, hL.2.1]
      simp (disch := omega) only [jl_, nI_add, pk_sub, pk_mul, j_neg, jlt_t, jlt_f, jle_t, jle_f, jeq_t, jeq_f, jld, jst, obs, j_div, ↓reduceIte, if_true, if_false, Nat.add_zero, Nat.sub_zero, Nat.add_sub_cancel_left]
    · rw [e2]
      simp only [obs]
      rw [if_neg (by decide), mref_f (by decide)]
      rfl
  · refine ⟨-nI 14, L, P, R, B, nI 1, nI 64, nI 1, nI 64, w, u, mind, ch, fi, ?_, ?_, ⟨n, a, mk, hL, hR, hB⟩, hP, CH.r (by decide)⟩
    · rw [isWeight_t hx, decide_eq_true hlt, bI_t, hL.2.1]
      unfold fS_refuse
      simp (disch := omega) only [jl_, nI_add, pk_sub, pk_mul, j_neg, jlt_t, jlt_f, jle_t, jle_f, jeq_t, jeq_f, jld, jst, obs, j_div, ↓reduceIte, if_true, if_false, Nat.add_zero, Nat.sub_zero, Nat.add_sub_cancel_left]
    · rw [e2]
      simp only [obs]
      rw [if_neg (by decide), mref_t]
      rfl
theorem st_take (h : ST L w R B) (hP : PA P u ch fi) (x : Int32) : ∃ r L' P' R' B' w' u' mind' ch' fi', fS_take L P R B x = some (r, L', P', R', B') ∧ fM_take w u mind ch fi x = some (r, w', u', mind', ch', fi') ∧ ST L' w' R' B' ∧ PA P' u' ch' fi' ∧ CH r w u ch fi w' u' ch' fi' := by
  obtain ⟨n, a, mk, hL, hR, hB⟩ := h
  have hn := hL.1.1
  unfold fS_take fM_take
  rcases letter_cs hL x with ⟨k, hk, rfl, e1, e2⟩ | ⟨e1, e2⟩
  · obtain ⟨W', w', c1, c2, c3⟩ := hL.leave hk
    obtain ⟨kp, f, s, u', mind', ch', fi', k1, k2, k3⟩ := remembers_both (mind := mind) hP ⟨n, a, mk, hL⟩
    obtain ⟨R', B', f1, f2⟩ := follow_sp ⟨_, _, _, c3⟩ R B
    refine ⟨nI (a k), _, (kp, f, s), R', B', w', u', mind', ch', fi', ?_, ?_, f2, k3, CH.s (nI_pos (by have := hL.1.2.1 k hk; omega)) k2⟩
    · rw [e1, if_neg (by decide), at_sp (by omega), hL.2.2.1 k hk, k1, c1]
      simp only [obs]
      rw [f1]
      rfl
    · rw [e2]
      simp only [obs]
      rw [if_neg (by decide), k2, c2]
      rfl
  · refine ⟨-nI 11, L, P, R, B, w, u, mind, ch, fi, ?_, ?_, ⟨n, a, mk, hL, hR, hB⟩, hP, CH.r (by decide)⟩
    · rw [e1, if_pos (by trivial)]
      rfl
    · rw [e2]
      simp only [obs]
      rw [if_pos (by trivial)]
      rfl
theorem swap_cs (h : LW L w n a mk) (x : Int32) :
    (∃ k, k + 1 < n ∧ x = nI k ∧ a k ≠ a (k + 1) ∧ fM_notSwap rn dn w x = some (nI 0, rn, dn)) ∨ (fL_hasNext L.2.1 x = nI 0 ∧ fM_notSwap rn dn w x = some (-nI 11, rn, dn)) ∨
    (∃ k, k + 1 < n ∧ x = nI k ∧ a k = a (k + 1) ∧ fM_notSwap rn dn w x = some (-nI 14, nI 2, nI (a k))) := by
  have hn := h.1.1
  unfold fM_notSwap fM_isNot
  rw [h.2.1]
  rcases letter_cs h x with ⟨k, hk, rfl, e1, e2⟩ | ⟨e1, e2⟩
  · rw [e2]
    simp only [jl_, obs, nI_add]
    rw [if_neg (by decide), mLetter_sp h.1 (k + 1) (by omega)]
    simp only [obs]
    by_cases c : k + 1 < n
    · rw [decide_eq_true c, bI_t, if_neg (by decide), is_sp h.1 hk, is_sp h.1 c]
      simp only [obs]
      have b1 := h.1.2.1 k hk
      have b2 := h.1.2.1 (k + 1) c
      by_cases c2 : a k = a (k + 1)
      · right; right
        refine ⟨k, c, rfl, c2, ?_⟩
        rw [jeq_t c2]
      · left
        refine ⟨k, c, rfl, c2, ?_⟩
        rw [jeq_f c2 (by omega) (by omega)]
    · right; left
      rw [decide_eq_false c, bI_f, if_pos (by trivial)]
      refine ⟨?_, rfl⟩
      unfold fL_hasNext
      simp (disch := omega) only [jl_, nI_add, pk_sub, pk_mul, j_neg, jlt_t, jlt_f, jle_t, jle_f, jeq_t, jeq_f, jld, jst, obs, j_div, ↓reduceIte, if_true, if_false, Nat.add_zero, Nat.sub_zero, Nat.add_sub_cancel_left]
  · right; left
    rw [e2]
    simp only [jl_, obs]
    rw [if_pos (by trivial)]
    refine ⟨?_, rfl⟩
    unfold fL_hasNext
    unfold fL_has at e1
    rw [h.2.1] at e1
    rcases j_cases x with hx | ⟨k, hk, rfl⟩
    · rw [if_pos hx]
      rfl
    · by_cases c : k < n
      · simp (disch := omega) only [jl_, jlt_f, jle_f] at e1
        exact absurd e1 (by decide)
      · by_cases c0 : n = 0
        · subst c0
          simp only [jl_]
          rw [show nI 0 - nI 1 = -nI 1 from by decide]
          simp (disch := omega) only [jl_, nI_add, pk_sub, pk_mul, j_neg, jlt_t, jlt_f, jle_t, jle_f, jeq_t, jeq_f, jnlt_t, jnle_t, jngt_f, jnge_f, jneq_f, jnqe_f, jld, jst, obs, j_div, ↓reduceIte, if_true, if_false, Nat.add_zero, Nat.sub_zero, Nat.add_sub_cancel_left]
        · simp (disch := omega) only [jl_, nI_add, pk_sub, pk_mul, j_neg, jlt_t, jlt_f, jle_t, jle_f, jeq_t, jeq_f, jld, jst, obs, j_div, ↓reduceIte, if_true, if_false, Nat.add_zero, Nat.sub_zero, Nat.add_sub_cancel_left]
theorem st_swap (h : ST L w R B) (hP : PA P u ch fi) (x : Int32) : ∃ r L' P' R' B' lr' ld' rn' dn' w' u' mind' ch' fi', fS_swap L P R B lr ld x = some (r, L', P', R', B', lr', ld') ∧ fM_swap lr ld rn dn w u mind ch fi x = some (r, lr', ld', rn', dn', w', u', mind', ch', fi') ∧ ST L' w' R' B' ∧ PA P' u' ch' fi' ∧ CH r w u ch fi w' u' ch' fi' := by
  obtain ⟨n, a, mk, hL, hR, hB⟩ := h
  have hn := hL.1.1
  unfold fS_swap fM_swap
  rcases swap_cs (rn := rn) (dn := dn) hL x with ⟨k, hk, rfl, hne, e2⟩ | ⟨e1, e2⟩ | ⟨k, hk, rfl, heq, e2⟩
  · obtain ⟨W', w', c1, c2, c3⟩ := hL.swap hk hne
    obtain ⟨kp, f, s, u', mind', ch', fi', k1, k2, k3⟩ := remembers_both (mind := mind) hP ⟨n, a, mk, hL⟩
    obtain ⟨R', B', f1, f2⟩ := follow_sp ⟨_, _, _, c3⟩ R B
    have b1 := hL.1.2.1 k (by omega)
    have b2 := hL.1.2.1 (k + 1) (by omega)
    refine ⟨nI (a (k + 1)), _, (kp, f, s), R', B', lr, ld, rn, dn, w', u', mind', ch', fi', ?_, ?_, f2, k3, CH.s (nI_pos (by omega)) k2⟩
    · have e9 : fL_hasNext L.2.1 (nI k) = nI 1 := by
        unfold fL_hasNext
        rw [hL.2.1]
        simp (disch := omega) only [jl_, nI_add, pk_sub, pk_mul, j_neg, jlt_t, jlt_f, jle_t, jle_f, jeq_t, jeq_f, jld, jst, obs, j_div, ↓reduceIte, if_true, if_false, Nat.add_zero, Nat.sub_zero, Nat.add_sub_cancel_left]
      have hw := c3.2.2.1 k (by omega)
      rw [up_ne (show k ≠ k + 1 by omega), up_eq rfl] at hw
      have hw2 : W' k = nI (a (k + 1)) := hw
      rw [e9, if_neg (by decide), at_sp (by omega), hL.2.2.1 k (by omega)]
      simp only [jl_, nI_add]
      rw [at_sp (by omega), hL.2.2.1 (k + 1) (by omega)]
      simp (disch := omega) only [obs, jeq_f]
      rw [k1]
      simp only [obs]
      rw [c1]
      simp only [obs]
      rw [f1]
      simp only [obs]
      rw [at_sp (by omega), hw2]
      rfl
    · rw [e2]
      simp only [obs]
      rw [if_pos (by trivial), k2, c2]
      rfl
  · refine ⟨-nI 11, L, P, R, B, lr, ld, rn, dn, w, u, mind, ch, fi, ?_, ?_, ⟨n, a, mk, hL, hR, hB⟩, hP, CH.r (by decide)⟩
    · rw [e1, if_pos (by trivial)]
      rfl
    · rw [e2]
      simp only [obs]
      rw [if_neg (by decide), mref_f (by decide)]
      rfl
  · refine ⟨-nI 14, L, P, R, B, nI 2, nI (a k), nI 2, nI (a k), w, u, mind, ch, fi, ?_, ?_, ⟨n, a, mk, hL, hR, hB⟩, hP, CH.r (by decide)⟩
    · have e9 : fL_hasNext L.2.1 (nI k) = nI 1 := by
        unfold fL_hasNext
        rw [hL.2.1]
        simp (disch := omega) only [jl_, nI_add, pk_sub, pk_mul, j_neg, jlt_t, jlt_f, jle_t, jle_f, jeq_t, jeq_f, jld, jst, obs, j_div, ↓reduceIte, if_true, if_false, Nat.add_zero, Nat.sub_zero, Nat.add_sub_cancel_left]
      rw [e9, if_neg (by decide), at_sp (by omega), hL.2.2.1 k (by omega)]
      simp only [jl_, nI_add]
      rw [at_sp (by omega), hL.2.2.1 (k + 1) (by omega)]
      simp only [obs]
      rw [if_pos (by rw [heq])]
      rfl
    · rw [e2]
      simp only [obs]
      rw [if_neg (by decide), mref_t]
      rfl
theorem mark_cs (h : LW L w n a mk) (x : Int32) (b : Bool) :
    (∃ k, 1 ≤ k ∧ k < 64 ∧ x = nI k ∧ mk k ≠ b ∧ fM_notMark rn dn w x (bI b) = some (nI 0, rn, dn)) ∨ (fS_isMarkPlace x = nI 0 ∧ fM_notMark rn dn w x (bI b) = some (-nI 11, rn, dn)) ∨
    (∃ k, 1 ≤ k ∧ k < 64 ∧ x = nI k ∧ mk k = b ∧ fM_notMark rn dn w x (bI b) = some (-nI 14, nI 3, nI k)) := by
  unfold fM_notMark fM_isNot
  simp only [jl_]
  rcases j_cases x with hx | ⟨k, hk, rfl⟩
  · right; left
    rw [isB_n hx (by omega), if_pos (by trivial)]
    exact ⟨mkPlace_n hx, rfl⟩
  · rw [isB_sp k 1 63 hk (by omega) (by omega), mkPlace_sp k hk]
    by_cases c : 1 ≤ k ∧ k < 64
    · rw [decide_eq_true (show 1 ≤ k ∧ k ≤ 63 by omega), bI_t, if_neg (by decide), hasMark_sp h c.1 c.2]
      simp only [obs]
      by_cases c2 : mk k = b
      · right; right
        refine ⟨k, c.1, c.2, rfl, c2, ?_⟩
        rw [if_pos (by rw [c2])]
      · left
        refine ⟨k, c.1, c.2, rfl, c2, ?_⟩
        rw [if_neg (fun e => c2 (bI_eq.mp e))]
    · right; left
      rw [decide_eq_false (show ¬ (1 ≤ k ∧ k ≤ 63) by omega), bI_f, if_pos (by trivial), decide_eq_false c]
      exact ⟨rfl, rfl⟩
theorem st_mark (h : ST L w R B) (hP : PA P u ch fi) (x : Int32) (b : Bool) : ∃ r L' P' R' B' lr' ld' rn' dn' w' u' mind' ch' fi', fS_mark L P R B lr ld x (bI b) = some (r, L', P', R', B', lr', ld') ∧ fM_mark lr ld rn dn w u mind ch fi x (bI b) = some (r, lr', ld', rn', dn', w', u', mind', ch', fi') ∧ ST L' w' R' B' ∧ PA P' u' ch' fi' ∧ CH r w u ch fi w' u' ch' fi' := by
  obtain ⟨n, a, mk, hL, hR, hB⟩ := h
  have hn := hL.1.1
  unfold fS_mark fM_mark
  rcases mark_cs (rn := rn) (dn := dn) hL x b with ⟨k, hk1, hk2, rfl, hne, e2⟩ | ⟨e1, e2⟩ | ⟨k, hk1, hk2, rfl, heq, e2⟩
  · obtain ⟨w', c1, c2, c3⟩ := hL.mark hk1 hk2 hne
    obtain ⟨kp, f, s, u', mind', ch', fi', k1, k2, k3⟩ := remembers_both (mind := mind) hP ⟨n, a, mk, hL⟩
    obtain ⟨R', B', f1, f2⟩ := follow_sp ⟨_, _, _, c3⟩ R B
    refine ⟨nI (cn (upB mk k b) 0 64), _, (kp, f, s), R', B', lr, ld, rn, dn, w', u', mind', ch', fi', ?_, ?_, f2, k3, CH.s (nI_pos (by have := cn_le (upB mk k b) 0 64; omega)) k2⟩
    · rw [mkPlace_sp k (by omega), decide_eq_true (show 1 ≤ k ∧ k < 64 from ⟨hk1, hk2⟩), bI_t, if_neg (by decide), isMarked_sp hL.2.2.2.1 hk1 hk2, if_neg (fun e => hne (bI_eq.mp e)), k1]
      simp only [obs]
      rw [c1]
      simp only [obs]
      rw [f1]
      simp only [obs]
      rw [marked_sp (mk := upB mk k b) rfl]
    · rw [e2]
      simp only [obs]
      rw [if_pos (by trivial), k2, c2]
      rfl
  · refine ⟨-nI 11, L, P, R, B, lr, ld, rn, dn, w, u, mind, ch, fi, ?_, ?_, ⟨n, a, mk, hL, hR, hB⟩, hP, CH.r (by decide)⟩
    · rw [e1, if_pos (by trivial)]
      rfl
    · rw [e2]
      simp only [obs]
      rw [if_neg (by decide), mref_f (by decide)]
      rfl
  · refine ⟨-nI 14, L, P, R, B, nI 3, nI k, nI 3, nI k, w, u, mind, ch, fi, ?_, ?_, ⟨n, a, mk, hL, hR, hB⟩, hP, CH.r (by decide)⟩
    · rw [mkPlace_sp k (by omega), decide_eq_true (show 1 ≤ k ∧ k < 64 from ⟨hk1, hk2⟩), bI_t, if_neg (by decide), isMarked_sp hL.2.2.2.1 hk1 hk2, if_pos (by rw [heq])]
      rfl
    · rw [e2]
      simp only [obs]
      rw [if_neg (by decide), mref_t]
      rfl
theorem st_undo (h : ST L w R B) (hP : PA P u ch fi) : ∃ r L' P' R' B' w' ch', fS_undo L P R B = some (r, L', P', R', B') ∧ fM_undo w u ch fi = some (r, w', ch') ∧ ST L' w' R' B' ∧ PA P' u ch' fi := by
  rcases undo_both (w := w) hP L with ⟨e1, e2⟩ | ⟨c, L', w', hc, e1, e2, hL', hP', e3, e4⟩
  · refine ⟨-nI 15, L, P, R, B, w, ch, ?_, ?_, h, hP⟩
    · unfold fS_undo fP_giveBack
      rw [e1]
      simp only [jl_]
      rw [if_pos (by trivial)]
      simp only [obs]
      rw [if_pos (by trivial), ← e1]
    · unfold fM_undo
      rw [e2]
      rfl
  · obtain ⟨R', B', f1, f2⟩ := follow_sp hL' R B
    refine ⟨nI c, L', (P.1, P.2.1, nI c), R', B', w', nI c, ?_, e4, f2, hP'⟩
    unfold fS_undo fP_size
    rw [e3]
    simp only [obs]
    rw [if_neg (by decide)]
    have f3 : fS_follow (L'.1, L'.2.1, L'.2.2.1, L'.2.2.2.1, L'.2.2.2.2.1, L'.2.2.2.2.2) R B = some (R', B') := f1
    rw [f3]
    rfl
theorem st_save (h : ST L w R B) (Sn : TL) (i : Int32) (sr : Nat → Int32) (i2 : Int32) : ∃ r S' sr', fS_save L Sn i = some (r, S', nI 1) ∧ fM_save w sr i2 = some (r, sr', nI 1) ∧ LX S' sr' := by
  obtain ⟨n, a, mk, hL, hR, hB⟩ := h
  obtain ⟨W', e1, e2⟩ := hL.like Sn
  obtain ⟨g, e3, -, e4⟩ := save_2 (w := w) (i := i2) 132 0 FU sr (by omega) (fu_lt (by omega))
  refine ⟨nI n, (W', L.2), g, ?_, ?_, n, a, mk, e2.cong (fun k hk => e4 k (by omega) hk)⟩
  · unfold fS_save fL_size
    rw [e1, hL.2.1]
    simp only [obs, jl_]
    rw [← hL.2.1]
  · unfold fM_save
    simp only [jl_]
    rw [e3, hL.1.2.2.1]
theorem st_restore (h : ST L w R B) (hP : PA P u ch fi) {Sn : TL} {i : Int32} {sr : Nat → Int32} (hi : i = nI 0 ∨ (i = nI 1 ∧ LX Sn sr)) : ∃ r L' P' R' B' w' ch' fi', fS_restore L Sn i P R B = some (r, L', P', R', B') ∧ fM_restore w sr ch fi i = some (r, w', ch', fi') ∧ ST L' w' R' B' ∧ PA P' u ch' fi' := by
  unfold fS_restore fM_restore
  rcases hi with rfl | ⟨rfl, n, a, mk, hS⟩
  · exact ⟨-nI 15, L, P, R, B, w, ch, fi, rfl, rfl, h, hP⟩
  · obtain ⟨W', e1, e2⟩ := hS.like L
    obtain ⟨g, e3, -, e4⟩ := restore_12 (w := sr) (c := ch) (f := fi) (i := nI 1) 132 0 FU w (by omega) (fu_lt (by omega))
    have e5 : LW (W', Sn.2) g n a mk := e2.cong (fun k hk => e4 k (by omega) hk)
    obtain ⟨R', B', f1, f2⟩ := follow_sp ⟨n, a, mk, e5⟩ R B
    obtain ⟨c, g1, g2, -, hg1, -, e6, -, -, -, -⟩ := hP
    refine ⟨nI n, _, (P.1, P.2.1, nI 0), R', B', g, nI 0, nI 0, ?_, ?_, f2, ⟨0, g1, 0, by omega, hg1, by omega, e6, rfl, rfl, rfl, fun j hj => by omega⟩⟩
    · rw [if_neg (by decide), e1]
      unfold fP_forget fL_size
      simp only [obs, jl_]
      have f3 : fS_follow (W', Sn.2.1, Sn.2.2.1, Sn.2.2.2.1, Sn.2.2.2.2.1, Sn.2.2.2.2.2) R B = some (R', B') := f1
      rw [f3]
      simp only [obs]
      exact congrArg (fun z => some (z, (W', Sn.2), (P.1, P.2.1, nI 0), R', B')) hS.2.1
    · rw [if_neg (by decide)]
      simp only [jl_]
      rw [e3, e5.1.2.2.1]
end S
