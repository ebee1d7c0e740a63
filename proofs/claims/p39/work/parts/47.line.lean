/-! lines, accounts, balance, shares -/
theorem chr_sp {q : Nat} (h : q < 65536) : ((nI q).toUInt32 % 65536).toInt32 = nI q := by
  rw [pk_char, pk_tn (show q < 2 ^ 32 by omega), Nat.mod_eq_of_lt h]
def LI (N : TN) (c2 : Nat → Int32) (l2 : Int32) : Prop := ∃ l, l ≤ 128 ∧ N.2 = nI l ∧ l2 = nI l ∧ ∀ k, k < l → N.1 k = c2 k
theorem nwrite_sp {c : Nat → Int32} {l : Nat} {x : Int32} (h : l < 128) : fN_write c (nI l) x = some (up c l x, nI (l + 1)) := by
  unfold fN_write
  simp (disch := omega) only [jl_, nI_add, pk_sub, pk_mul, j_neg, jlt_t, jlt_f, jle_t, jle_f, jeq_t, jeq_f, jld, jst, obs, j_div, ↓reduceIte, if_true, if_false, Nat.add_zero, Nat.sub_zero, Nat.add_sub_cancel_left]
theorem mwrite_sp {c : Nat → Int32} {l q : Nat} (h : l < 128) (hq : q < 65536) : fM_writes c (nI l) (nI q) = some (up c l (nI q), nI (l + 1)) := by
  unfold fM_writes
  rw [chr_sp hq]
  simp (disch := omega) only [jl_, nI_add, pk_sub, pk_mul, j_neg, jlt_t, jlt_f, jle_t, jle_f, jeq_t, jeq_f, jld, jst, obs, j_div, ↓reduceIte, if_true, if_false, Nat.add_zero, Nat.sub_zero, Nat.add_sub_cancel_left]
theorem up_both {c c2 : Nat → Int32} {l : Nat} {x : Int32} (h : ∀ k, k < l → c k = c2 k) : ∀ k, k < l + 1 → up c l x k = up c2 l x k := fun k hk => by
  by_cases e : k = l
  · rw [up_eq e, up_eq e]
  · rw [up_ne e, up_ne e, h k (by omega)]
def dg (v : Nat) : Nat := if 10 ≤ v then 97 + v - 10 else 48 + v
theorem dg_lt {v : Nat} (h : v < 32) : dg v < 65536 := by unfold dg; split <;> omega
theorem digitOf_sp {v : Nat} (h : v < 32) : fS_digitOf (nI v) = nI (dg v) := by
  unfold fS_digitOf dg
  by_cases c : 10 ≤ v
  · rw [if_pos c]
    simp (disch := omega) only [jl_, nI_add, pk_sub, pk_mul, j_neg, jlt_t, jlt_f, jle_t, jle_f, jeq_t, jeq_f, jld, jst, obs, j_div, ↓reduceIte, if_true, if_false, Nat.add_zero, Nat.sub_zero, Nat.add_sub_cancel_left]
  · rw [if_neg c]
    simp (disch := omega) only [jl_, nI_add, pk_sub, pk_mul, j_neg, jlt_t, jlt_f, jle_t, jle_f, jeq_t, jeq_f, jld, jst, obs, j_div, ↓reduceIte, if_true, if_false, Nat.add_zero, Nat.sub_zero, Nat.add_sub_cancel_left]
theorem tell_out {L : TL} {w : Nat → Int32} {n : Nat} {a : Nat → Nat} {mk : Nat → Bool} (h : LW L w n a mk) : ∀ d k m m' l (c c2 : Nat → Int32), k + d = n → d < m → d < m' → l ≤ 2 * k → (∀ j, j < l → c j = c2 j) →
    ∃ r N' c2', fS_tell_9 m L (c, nI l) (nI k) = some (r, N') ∧ fM_tell_7 m' w c2 (nI l) (nI k) = some (r, c2', N'.2) ∧ LI N' c2' N'.2 := by
  have hn := h.1.1
  intro d
  induction d with
  | zero =>
    intro k m m' l c c2 h1 h2 h3 h4 h5
    obtain ⟨m, rfl⟩ : ∃ q, m = q + 1 := ⟨m - 1, by omega⟩
    obtain ⟨m', rfl⟩ : ∃ q, m' = q + 1 := ⟨m' - 1, by omega⟩
    refine ⟨nI l, (c, nI l), c2, ?_, ?_, l, by omega, rfl, rfl, h5⟩
    · rw [fS_tell_9, h.2.1]
      unfold fL_size fN_size
      simp (disch := omega) only [jl_, nI_add, pk_sub, pk_mul, j_neg, jlt_t, jlt_f, jle_t, jle_f, jeq_t, jeq_f, jld, jst, obs, j_div, ↓reduceIte, if_true, if_false, Nat.add_zero, Nat.sub_zero, Nat.add_sub_cancel_left]
    · rw [fM_tell_7]
      simp (disch := omega) only [jl_, nI_add, pk_sub, pk_mul, j_neg, jlt_t, jlt_f, jle_t, jle_f, jeq_t, jeq_f, jld, jst, obs, j_div, ↓reduceIte, if_true, if_false, Nat.add_zero, Nat.sub_zero, Nat.add_sub_cancel_left]
      rw [h.1.2.2.1]
      simp (disch := omega) only [jl_, nI_add, pk_sub, pk_mul, j_neg, jlt_t, jlt_f, jle_t, jle_f, jeq_t, jeq_f, jld, jst, obs, j_div, ↓reduceIte, if_true, if_false, Nat.add_zero, Nat.sub_zero, Nat.add_sub_cancel_left]
  | succ d ih =>
    intro k m m' l c c2 h1 h2 h3 h4 h5
    obtain ⟨m, rfl⟩ : ∃ q, m = q + 1 := ⟨m - 1, by omega⟩
    obtain ⟨m', rfl⟩ : ∃ q, m' = q + 1 := ⟨m' - 1, by omega⟩
    have ha := h.1.2.1 k (by omega)
    have hat : fL_at L.1 (nI k) = some (nI (a k)) := by rw [at_sp (by omega), h.2.2.1 k (by omega)]
    have hd := dg_lt ha
    have hM : ∀ (q : Nat) (x : Nat → Int32), q < 128 → (if nI 10 ≤ nI (a k) then Option.bind (fM_writes x (nI q) (nI 97 + nI (a k) - nI 10)) fun t7 => fM_tell_7 m' w t7.1 t7.2 (nI (k + 1)) else Option.bind (fM_writes x (nI q) (nI 48 + nI (a k))) fun t7 => fM_tell_7 m' w t7.1 t7.2 (nI (k + 1))) = fM_tell_7 m' w (up x q (nI (dg (a k)))) (nI (q + 1)) (nI (k + 1)) := by
      intro q x hq
      unfold dg at hd ⊢
      by_cases c9 : 10 ≤ a k
      · rw [if_pos c9] at hd ⊢
        rw [jle_t c9 (by omega)]
        simp (disch := omega) only [nI_add, pk_sub]
        rw [mwrite_sp hq hd]
        rfl
      · rw [if_neg c9] at hd ⊢
        rw [jle_f (by omega) (by omega)]
        simp (disch := omega) only [nI_add, pk_sub]
        rw [mwrite_sp hq hd]
        rfl
    rw [fS_tell_9, fM_tell_7, h.2.1, hat]
    unfold fL_size
    by_cases hk : k = 0
    · obtain ⟨r, N', c2', f1, f2, f3⟩ := ih (k + 1) m m' (l + 1) (up c l (nI (dg (a k)))) (up c2 l (nI (dg (a k)))) (by omega) (by omega) (by omega) (by omega) (up_both h5)
      refine ⟨r, N', c2', ?_, ?_, f3⟩
      · simp (disch := omega) only [jl_, jle_f, jle_t, obs, nI_add]
        rw [digitOf_sp ha, nwrite_sp (by omega)]
        exact f1
      · simp (disch := omega) only [jl_, jle_f, jle_t, jld, obs, nI_add]
        rw [h.1.2.2.1, jle_f (by omega) (by omega), is_sp h.1 (by omega)]
        simp only [obs]
        rw [hM l c2 (by omega)]
        exact f2
    · have hmk := isMarked_sp h.2.2.2.1 (show 1 ≤ k by omega) (show k < 64 by omega)
      have hbg := mbegins_sp h (show k < 64 by omega)
      rw [bg_s mk hk] at hbg
      rw [hmk, hbg]
      cases hb : mk k
      · obtain ⟨r, N', c2', f1, f2, f3⟩ := ih (k + 1) m m' (l + 1) (up c l (nI (dg (a k)))) (up c2 l (nI (dg (a k)))) (by omega) (by omega) (by omega) (by omega) (up_both h5)
        refine ⟨r, N', c2', ?_, ?_, f3⟩
        · rw [bI_f]
          simp (disch := omega) only [jl_, jle_f, if_true, obs, nI_add]
          rw [digitOf_sp ha, nwrite_sp (by omega)]
          exact f1
        · rw [bI_f]
          simp (disch := omega) only [jl_, jle_f, if_true, jld, obs, nI_add]
          rw [h.1.2.2.1, jle_f (by omega) (by omega), is_sp h.1 (by omega)]
          simp only [obs]
          rw [hM l c2 (by omega)]
          exact f2
      · obtain ⟨r, N', c2', f1, f2, f3⟩ := ih (k + 1) m m' (l + 1 + 1) (up (up c l (nI 124)) (l + 1) (nI (dg (a k)))) (up (up c2 l (nI 124)) (l + 1) (nI (dg (a k)))) (by omega) (by omega) (by omega) (by omega) (up_both (up_both h5))
        refine ⟨r, N', c2', ?_, ?_, f3⟩
        · rw [bI_t]
          simp (disch := omega) only [jl_, jle_f, jeq_f, obs, nI_add]
          rw [nwrite_sp (by omega)]
          simp only [obs]
          rw [digitOf_sp ha, nwrite_sp (by omega)]
          exact f1
        · rw [bI_t]
          simp (disch := omega) only [jl_, jle_f, jeq_f, jld, obs, nI_add]
          rw [h.1.2.2.1, jle_f (by omega) (by omega), mwrite_sp (by omega) (by omega), is_sp h.1 (by omega)]
          simp only [obs]
          rw [hM (l + 1) (up c2 l (nI 124)) (by omega)]
          exact f2
section S
variable {L : TL} {w : Nat → Int32} {R : TR} {B : TB}
theorem st_tell (h : ST L w R B) (N : TN) (c2 : Nat → Int32) (l2 : Int32) : ∃ r N' c2', fS_tell L N = some (r, N') ∧ fM_tell w c2 l2 = some (r, c2', N'.2) ∧ LI N' c2' N'.2 := by
  obtain ⟨n, a, mk, h, hR, hB⟩ := h
  have hn := h.1.1
  obtain ⟨r, N', c2', f1, f2, f3⟩ := tell_out h n 0 FU FU 0 N.1 c2 (by omega) (fu_lt (by omega)) (fu_lt (by omega)) (by omega) (fun j hj => by omega)
  refine ⟨r, N', c2', ?_, ?_, f3⟩
  · unfold fS_tell fN_empty
    simp only [obs, jl_]
    exact f1
  · unfold fM_tell
    simp only [jl_]
    exact f2
theorem tellRow_out {n : Nat} {a : Nat → Nat} {mk : Nat → Bool} (h : LW L w n a mk) (hR : RO R n a) {at_ : Nat → Int32} (hM : MP at_ a n) {r : Nat} (hr : r < 5) : ∀ d k m m' l (c c2 : Nat → Int32), k + d = n → d < m → d < m' → l ≤ 2 * k → (∀ j, j < l → c j = c2 j) →
    ∃ z N' c2', fS_tellRow_19 m L R (c, nI l) (nI r) (nI k) = some (z, N') ∧ fM_tellRow_21 m' w at_ c2 (nI l) (nI r) (nI k) = some (z, at_, c2', N'.2) ∧ LI N' c2' N'.2 := by
  have hn := h.1.1
  intro d
  induction d with
  | zero =>
    intro k m m' l c c2 h1 h2 h3 h4 h5
    obtain ⟨m, rfl⟩ : ∃ q, m = q + 1 := ⟨m - 1, by omega⟩
    obtain ⟨m', rfl⟩ : ∃ q, m' = q + 1 := ⟨m' - 1, by omega⟩
    refine ⟨nI l, (c, nI l), c2, ?_, ?_, l, by omega, rfl, rfl, h5⟩
    · rw [fS_tellRow_19, h.2.1]
      unfold fL_size fN_size
      simp (disch := omega) only [jl_, nI_add, pk_sub, pk_mul, j_neg, jlt_t, jlt_f, jle_t, jle_f, jeq_t, jeq_f, jld, jst, obs, j_div, ↓reduceIte, if_true, if_false, Nat.add_zero, Nat.sub_zero, Nat.add_sub_cancel_left]
    · rw [fM_tellRow_21]
      simp (disch := omega) only [jl_, nI_add, pk_sub, pk_mul, j_neg, jlt_t, jlt_f, jle_t, jle_f, jeq_t, jeq_f, jld, jst, obs, j_div, ↓reduceIte, if_true, if_false, Nat.add_zero, Nat.sub_zero, Nat.add_sub_cancel_left]
      rw [h.1.2.2.1]
      simp (disch := omega) only [jl_, nI_add, pk_sub, pk_mul, j_neg, jlt_t, jlt_f, jle_t, jle_f, jeq_t, jeq_f, jld, jst, obs, j_div, ↓reduceIte, if_true, if_false, Nat.add_zero, Nat.sub_zero, Nat.add_sub_cancel_left]
  | succ d ih =>
    intro k m m' l c c2 h1 h2 h3 h4 h5
    obtain ⟨m, rfl⟩ : ∃ q, m = q + 1 := ⟨m - 1, by omega⟩
    obtain ⟨m', rfl⟩ : ∃ q, m' = q + 1 := ⟨m' - 1, by omega⟩
    obtain ⟨p, hp, -⟩ := rp_get (q := qb a) (n := n) (r := r) (k := k) (by omega)
    have b1 := bitAt_sp hR.1 hr hp
    have b2 := mbitAt_sp h.1 hM hr hp
    have hz : (48 + if qb a r p then 1 else 0) < 65536 := by split <;> omega
    unfold bI at b1 b2
    rw [fS_tellRow_19, fM_tellRow_21, h.2.1, hR.2, b1, b2]
    unfold fL_size
    by_cases hk : k % 8 = 0 ∧ k ≠ 0
    · obtain ⟨z, N', c2', f1, f2, f3⟩ := ih (k + 1) m m' (l + 1 + 1) (up (up c l (nI 32)) (l + 1) (nI (48 + if qb a r p then 1 else 0))) (up (up c2 l (nI 32)) (l + 1) (nI (48 + if qb a r p then 1 else 0))) (by omega) (by omega) (by omega) (by omega) (up_both (up_both h5))
      refine ⟨z, N', c2', ?_, ?_, f3⟩
      · simp (disch := omega) only [jl_, jle_f, pk_rem, obs, nI_add]
        rw [hk.1, jeq_t rfl, nwrite_sp (by omega)]
        simp only [obs]
        rw [nwrite_sp (by omega)]
        exact f1
      · simp (disch := omega) only [jl_, jld, jle_f, pk_rem, obs, nI_add]
        rw [h.1.2.2.1, jle_f (by omega) (by omega), hk.1, jeq_t rfl, mwrite_sp (by omega) (by omega)]
        simp only [obs]
        rw [mwrite_sp (by omega) hz]
        exact f2
    · obtain ⟨z, N', c2', f1, f2, f3⟩ := ih (k + 1) m m' (l + 1) (up c l (nI (48 + if qb a r p then 1 else 0))) (up c2 l (nI (48 + if qb a r p then 1 else 0))) (by omega) (by omega) (by omega) (by omega) (up_both h5)
      refine ⟨z, N', c2', ?_, ?_, f3⟩
      · by_cases c0 : k = 0
        · simp (disch := omega) only [jl_, jle_f, jle_t, obs, nI_add]
          rw [nwrite_sp (by omega)]
          exact f1
        · simp (disch := omega) only [jl_, jle_f, pk_rem, jeq_f, obs, nI_add]
          rw [nwrite_sp (by omega)]
          exact f1
      · by_cases c0 : k = 0
        · simp (disch := omega) only [jl_, jld, jle_f, jle_t, obs, nI_add]
          rw [h.1.2.2.1, jle_f (by omega) (by omega), mwrite_sp (by omega) hz]
          exact f2
        · simp (disch := omega) only [jl_, jld, jle_f, pk_rem, jeq_f, obs, nI_add]
          rw [h.1.2.2.1, jle_f (by omega) (by omega), mwrite_sp (by omega) hz]
          exact f2
theorem st_tellRow (h : ST L w R B) (x : Int32) (at_ : Nat → Int32) (N : TN) (c2 : Nat → Int32) (l2 : Int32) (hL : LI N c2 l2) : ∃ r N' at' c2' l2', fS_tellRow L R N x = some (r, N') ∧ fM_tellRow w at_ c2 l2 x = some (r, at', c2', l2') ∧ LI N' c2' l2' := by
  obtain ⟨n, a, mk, h, hR, hB⟩ := h
  have hn := h.1.1
  obtain ⟨g, eg, hg⟩ := findsRows_sp h.1 at_
  unfold fS_tellRow fM_tellRow
  rcases row_cs x with ⟨r, hr, rfl, e1, e2⟩ | ⟨e1, e2⟩
  · obtain ⟨z, N', c2', f1, f2, f3⟩ := tellRow_out h hR hg hr n 0 FU FU 0 N.1 c2 (by omega) (fu_lt (by omega)) (fu_lt (by omega)) (by omega) (fun j hj => by omega)
    refine ⟨z, N', g, c2', N'.2, ?_, ?_, f3⟩
    · rw [e1]
      unfold fN_empty
      simp (disch := omega) only [jl_, jeq_f, obs]
      exact f1
    · rw [e2, eg]
      simp (disch := omega) only [jl_, jeq_f, obs]
      exact f2
  · exact ⟨-nI 11, N, at_, c2, l2, by rw [e1]; rfl, by rw [e2]; rfl, hL⟩
theorem st_character {N : TN} {c2 : Nat → Int32} {l2 : Int32} (hL : LI N c2 l2) (x : Int32) : ∃ r, fS_character N x = some r ∧ fM_character c2 l2 x = some r := by
  obtain ⟨l, hl, e1, e2, h⟩ := hL
  unfold fS_character fM_character fN_size fN_codeAt
  rw [e1, e2]
  simp only [jl_]
  rcases j_cases x with hx | ⟨k, hk, rfl⟩
  · rw [if_pos (show x < nI 0 from hx), isB_n hx (by omega)]
    exact ⟨-nI 11, rfl, rfl⟩
  · by_cases c : k < l
    · refine ⟨N.1 k, ?_, ?_⟩
      · simp (disch := omega) only [jl_, nI_add, pk_sub, pk_mul, j_neg, jlt_t, jlt_f, jle_t, jle_f, jeq_t, jeq_f, jld, jst, obs, j_div, ↓reduceIte, if_true, if_false, Nat.add_zero, Nat.sub_zero, Nat.add_sub_cancel_left]
      · rw [pk_sub (by omega), isB_sp k 0 (l - 1) hk (by omega) (by omega), decide_eq_true (show 0 ≤ k ∧ k ≤ l - 1 by omega), bI_t]
        simp (disch := omega) only [jl_, nI_add, pk_sub, pk_mul, j_neg, jlt_t, jlt_f, jle_t, jle_f, jeq_t, jeq_f, jld, jst, obs, j_div, ↓reduceIte, if_true, if_false, Nat.add_zero, Nat.sub_zero, Nat.add_sub_cancel_left]
        rw [h k c]
    · refine ⟨-nI 11, ?_, ?_⟩
      · simp (disch := omega) only [jl_, nI_add, pk_sub, pk_mul, j_neg, jlt_t, jlt_f, jle_t, jle_f, jeq_t, jeq_f, jld, jst, obs, j_div, ↓reduceIte, if_true, if_false, Nat.add_zero, Nat.sub_zero, Nat.add_sub_cancel_left]
      · by_cases c0 : l = 0
        · rw [c0, show nI 0 - nI 1 = -nI 1 from by decide]
          unfold fM_isBetween
          simp (disch := omega) only [jl_, nI_add, pk_sub, pk_mul, j_neg, jlt_t, jlt_f, jle_t, jle_f, jeq_t, jeq_f, jnlt_t, jnle_t, jngt_f, jnge_f, jneq_f, jnqe_f, jld, jst, obs, j_div, ↓reduceIte, if_true, if_false, Nat.add_zero, Nat.sub_zero, Nat.add_sub_cancel_left]
        · rw [pk_sub (by omega), isB_sp k 0 (l - 1) hk (by omega) (by omega), decide_eq_false (show ¬ (0 ≤ k ∧ k ≤ l - 1) by omega)]
          rfl
theorem total_4 {W : Nat → Int32} {n : Nat} {a : Nat → Nat} (hn : n ≤ 64) (hw : ∀ k, k < n → W k = nI (a k)) : ∀ d k m s, k + d = n → d < m → fL_total_4 m W (nI n) (nI s) (nI k) = some (nI (s + sm a k d)) := by
  intro d
  induction d with
  | zero =>
    intro k m s h1 h2
    obtain ⟨m, rfl⟩ : ∃ q, m = q + 1 := ⟨m - 1, by omega⟩
    rw [fL_total_4]
    simp (disch := omega) only [jl_, nI_add, pk_sub, pk_mul, j_neg, jlt_t, jlt_f, jle_t, jle_f, jeq_t, jeq_f, jld, jst, obs, j_div, ↓reduceIte, if_true, if_false, Nat.add_zero, Nat.sub_zero, Nat.add_sub_cancel_left]
    rfl
  | succ d ih =>
    intro k m s h1 h2
    obtain ⟨m, rfl⟩ : ∃ q, m = q + 1 := ⟨m - 1, by omega⟩
    rw [fL_total_4, at_sp (by omega), hw k (by omega), sm_s]
    simp (disch := omega) only [jl_, nI_add, pk_sub, pk_mul, j_neg, jlt_t, jlt_f, jle_t, jle_f, jeq_t, jeq_f, jld, jst, obs, j_div, ↓reduceIte, if_true, if_false, Nat.add_zero, Nat.sub_zero, Nat.add_sub_cancel_left]
    rw [ih (k + 1) m (s + a k) (by omega) (by omega), Nat.add_assoc]
theorem total_sp {W : Nat → Int32} {n : Nat} {a : Nat → Nat} (hn : n ≤ 64) (hw : ∀ k, k < n → W k = nI (a k)) : fL_total W (nI n) = some (nI (sm a 0 n)) := by
  have e := total_4 hn hw n 0 FU 0 (by omega) (fu_lt (by omega))
  rw [Nat.zero_add] at e
  exact e
theorem onesOf_sp {n : Nat} {a : Nat → Nat} (hR : RO R n a) {r : Nat} (hr : r < 5) : fR_onesOf R.1 (nI r) = some (nI (ca (qb a r) (rp (qb a) n r) true n)) := by
  have hn := hR.1.1
  unfold fR_onesOf fR_wholeRow
  rw [isRow_t hr]
  simp (disch := omega) only [jl_, nI_add, pk_sub, pk_mul, j_neg, jlt_t, jlt_f, jle_t, jle_f, jeq_t, jeq_f, jld, jst, obs, j_div, ↓reduceIte, if_true, if_false, Nat.add_zero, Nat.sub_zero, Nat.add_sub_cancel_left]
  rw [(hR.1.2 r hr).1, jb_all (by rw [List.length_map, rp_len]; exact hn), List.countP_map, ca_all _ _ _ (by rw [rp_len]; omega)]
  exact congrArg (fun z => some (nI z)) (List.countP_congr (fun p _ => by cases h : qb a r p <;> simp [h]))
theorem ones_both {n : Nat} {a : Nat → Nat} (h : MW w n a) (hR : RO R n a) {at_ : Nat → Int32} (hM : MP at_ a n) : ∀ d r m m' (s : Int32), r + d = 5 → d < m → d < m' → ∃ z, fR_onesOfAll_4 m R.1 s (nI r) = some z ∧ fM_ones_8 m' w at_ s (nI r) = some (z, at_) := by
  have hn := h.1
  intro d
  induction d with
  | zero =>
    intro r m m' s h1 h2 h3
    obtain ⟨m, rfl⟩ : ∃ q, m = q + 1 := ⟨m - 1, by omega⟩
    obtain ⟨m', rfl⟩ : ∃ q, m' = q + 1 := ⟨m' - 1, by omega⟩
    refine ⟨s, ?_, ?_⟩
    · rw [fR_onesOfAll_4]
      simp (disch := omega) only [jl_, nI_add, pk_sub, pk_mul, j_neg, jlt_t, jlt_f, jle_t, jle_f, jeq_t, jeq_f, jld, jst, obs, j_div, ↓reduceIte, if_true, if_false, Nat.add_zero, Nat.sub_zero, Nat.add_sub_cancel_left]
    · rw [fM_ones_8]
      simp (disch := omega) only [jl_, nI_add, pk_sub, pk_mul, j_neg, jlt_t, jlt_f, jle_t, jle_f, jeq_t, jeq_f, jld, jst, obs, j_div, ↓reduceIte, if_true, if_false, Nat.add_zero, Nat.sub_zero, Nat.add_sub_cancel_left]
  | succ d ih =>
    intro r m m' s h1 h2 h3
    obtain ⟨m, rfl⟩ : ∃ q, m = q + 1 := ⟨m - 1, by omega⟩
    obtain ⟨m', rfl⟩ : ∃ q, m' = q + 1 := ⟨m' - 1, by omega⟩
    obtain ⟨z, f1, f2⟩ := ih (r + 1) m m' (s + nI (ca (qb a r) (rp (qb a) n r) true n)) (by omega) (by omega) (by omega)
    have e5 := counted_sp h hM true (show r < 5 by omega) (Nat.le_refl n)
    rw [bI_t] at e5
    refine ⟨z, ?_, ?_⟩
    · rw [fR_onesOfAll_4, onesOf_sp hR (by omega)]
      simp (disch := omega) only [jl_, nI_add, pk_sub, pk_mul, j_neg, jlt_t, jlt_f, jle_t, jle_f, jeq_t, jeq_f, jld, jst, obs, j_div, ↓reduceIte, if_true, if_false, Nat.add_zero, Nat.sub_zero, Nat.add_sub_cancel_left]
      exact f1
    · rw [fM_ones_8]
      simp (disch := omega) only [jl_, nI_add, pk_sub, pk_mul, j_neg, jlt_t, jlt_f, jle_t, jle_f, jeq_t, jeq_f, jld, jst, obs, j_div, ↓reduceIte, if_true, if_false, Nat.add_zero, Nat.sub_zero, Nat.add_sub_cancel_left]
      rw [h.2.2.1, e5]
      simp (disch := omega) only [jl_, nI_add, pk_sub, pk_mul, j_neg, jlt_t, jlt_f, jle_t, jle_f, jeq_t, jeq_f, jld, jst, obs, j_div, ↓reduceIte, if_true, if_false, Nat.add_zero, Nat.sub_zero, Nat.add_sub_cancel_left]
      exact f2
theorem st_account (h : ST L w R B) (P : TP) (Y : TY) (T : TT) (ch : Int32) (at_ : Nat → Int32) (len : Int32) (hP : P.2.2 = ch) (hT : T.2.1 = len) (x : Int32) : ∃ r Y' at', fS_account L P R B Y T x = some (r, Y') ∧ fM_account w ch at_ len x = some (r, at') := by
  obtain ⟨n, a, mk, h, hR, hB⟩ := h
  have hn := h.1.1
  obtain ⟨g, eg, hg⟩ := findsRows_sp h.1 at_
  unfold fS_account fM_account fL_size fL_came fL_left fL_swaps fB_number fT_size fP_size
  rw [mbags_sp h, mmarked_sp h.2.2.2.2.1 h.2.2.2.2.2.1, marked_sp h.2.2.2.1, hB.2.2.1, hP, hT, h.2.1, total_sp hn h.2.2.1, h.2.2.2.2.2.2.1, h.2.2.2.2.2.2.2.1, h.2.2.2.2.2.2.2.2]
  have l0 : ldA w 132 (0 : Int32) = some (w 0) := jld (k := 0) (by omega) (by omega)
  have l1 : ldA w 132 (1 : Int32) = some (w 1) := jld (k := 1) (by omega) (by omega)
  have l2 : ldA w 132 (2 : Int32) = some (w 2) := jld (k := 2) (by omega) (by omega)
  have l3 : ldA w 132 (3 : Int32) = some (w 3) := jld (k := 3) (by omega) (by omega)
  rw [l0, l1, l2, l3, h.1.2.2.1]
  by_cases c0 : x = (0 : Int32)
  · rw [if_pos c0, if_pos c0]
    exact ⟨_, Y, at_, rfl, rfl⟩
  rw [if_neg c0, if_neg c0]
  by_cases c1 : x = (1 : Int32)
  · rw [if_pos c1, if_pos c1]
    simp only [obs, jl_]
    rw [sum_sp h.1 (Nat.zero_le n) (Nat.le_refl n), Nat.sub_zero]
    exact ⟨_, Y, at_, rfl, rfl⟩
  rw [if_neg c1, if_neg c1]
  by_cases c2 : x = (2 : Int32)
  · rw [if_pos c2, if_pos c2]
    exact ⟨_, Y, at_, rfl, rfl⟩
  rw [if_neg c2, if_neg c2]
  by_cases c3 : x = (3 : Int32)
  · rw [if_pos c3, if_pos c3]
    exact ⟨_, Y, at_, rfl, rfl⟩
  rw [if_neg c3, if_neg c3]
  by_cases c4 : x = (4 : Int32)
  · rw [if_pos c4, if_pos c4]
    exact ⟨_, Y, at_, rfl, rfl⟩
  rw [if_neg c4, if_neg c4]
  by_cases c5 : x = (5 : Int32)
  · rw [if_pos c5, if_pos c5]
    exact ⟨_, Y, at_, rfl, rfl⟩
  rw [if_neg c5, if_neg c5]
  by_cases c6 : x = (6 : Int32)
  · rw [if_pos c6, if_pos c6]
    obtain ⟨g1, eg1, hg1⟩ := yfill_sp (a := a) hn h.2.2.1 h.1.2.1 (Nat.zero_le n) (Nat.le_refl n) Y
    obtain ⟨z, z1, z2⟩ := unlike_sp h.1 (Nat.zero_le n) (Nat.le_refl n) hg1
    simp only [obs, jl_]
    rw [eg1]
    simp only [obs]
    rw [z1, z2]
    exact ⟨z, g1, at_, rfl, rfl⟩
  rw [if_neg c6, if_neg c6]
  by_cases c7 : x = (7 : Int32)
  · rw [if_pos c7, if_pos c7]
    exact ⟨_, Y, at_, rfl, rfl⟩
  rw [if_neg c7, if_neg c7]
  by_cases c8 : x = (8 : Int32)
  · rw [if_pos c8, if_pos c8]
    obtain ⟨z, z1, z2⟩ := ones_both h.1 hR hg 5 0 FU FU (nI 0) (by omega) (fu_lt (by omega)) (fu_lt (by omega))
    have z3 : fR_onesOfAll R.1 = some z := by
      unfold fR_onesOfAll
      simp only [jl_]
      exact z1
    have z4 : fM_ones w at_ = some (z, g) := by
      unfold fM_ones
      rw [eg]
      simp only [jl_, obs]
      exact z2
    rw [z3, z4]
    exact ⟨z, Y, g, rfl, rfl⟩
  rw [if_neg c8, if_neg c8]
  by_cases c9 : x = (9 : Int32)
  · rw [if_pos c9, if_pos c9]
    exact ⟨_, Y, at_, rfl, rfl⟩
  rw [if_neg c9, if_neg c9]
  by_cases c10 : x = (10 : Int32)
  · rw [if_pos c10, if_pos c10]
    exact ⟨_, Y, at_, rfl, rfl⟩
  rw [if_neg c10, if_neg c10]
  exact ⟨-nI 12, Y, at_, rfl, rfl⟩
/-! balance -/
theorem weightsAlike {n : Nat} {a : Nat → Nat} {mk : Nat → Bool} (h : LW L w n a mk) (hR : RO R n a) : ∀ d k m, k + d = n → d < m → fS_areWeightsAlike_2 m L R (nI k) = some (nI 1) := by
  have hn := h.1.1
  intro d
  induction d with
  | zero =>
    intro k m h1 h2
    obtain ⟨m, rfl⟩ : ∃ q, m = q + 1 := ⟨m - 1, by omega⟩
    rw [fS_areWeightsAlike_2, h.2.1]
    unfold fL_size
    simp (disch := omega) only [jl_, nI_add, pk_sub, pk_mul, j_neg, jlt_t, jlt_f, jle_t, jle_f, jeq_t, jeq_f, jld, jst, obs, j_div, ↓reduceIte, if_true, if_false, Nat.add_zero, Nat.sub_zero, Nat.add_sub_cancel_left]
  | succ d ih =>
    intro k m h1 h2
    obtain ⟨m, rfl⟩ : ∃ q, m = q + 1 := ⟨m - 1, by omega⟩
    rw [fS_areWeightsAlike_2, h.2.1, hR.2, weightOf_sp hR.1 (show k < n by omega) (h.1.2.1 k (by omega)), at_sp (by omega), h.2.2.1 k (by omega)]
    unfold fL_size
    simp (disch := omega) only [jl_, jle_f, obs, nI_add]
    rw [if_pos (by trivial)]
    exact ih (k + 1) m (by omega) (by omega)
theorem countsAlike_9 {n : Nat} {a : Nat → Nat} {mk : Nat → Bool} (h : LW L w n a mk) (hR : RO R n a) {r : Nat} (hr : r < 5) : ∀ d k m, n < k + 8 * d → d < m → k < 1000 → fS_areCountsAlike_9 m L R (nI r) (nI k) = some (Sum.inr ()) := by
  have hn := h.1.1
  intro d
  induction d with
  | zero =>
    intro k m h1 h2 h3
    obtain ⟨m, rfl⟩ : ∃ q, m = q + 1 := ⟨m - 1, by omega⟩
    rw [fS_areCountsAlike_9, h.2.1]
    unfold fL_size
    simp (disch := omega) only [jl_, nI_add, pk_sub, pk_mul, j_neg, jlt_t, jlt_f, jle_t, jle_f, jeq_t, jeq_f, jld, jst, obs, j_div, ↓reduceIte, if_true, if_false, Nat.add_zero, Nat.sub_zero, Nat.add_sub_cancel_left]
  | succ d ih =>
    intro k m h1 h2 h3
    obtain ⟨m, rfl⟩ : ∃ q, m = q + 1 := ⟨m - 1, by omega⟩
    rw [fS_areCountsAlike_9, h.2.1, hR.2]
    unfold fL_size
    by_cases c : n < k
    · simp (disch := omega) only [jl_, nI_add, pk_sub, pk_mul, j_neg, jlt_t, jlt_f, jle_t, jle_f, jeq_t, jeq_f, jld, jst, obs, j_div, ↓reduceIte, if_true, if_false, Nat.add_zero, Nat.sub_zero, Nat.add_sub_cancel_left]
    · have a1 := ahead_sp hR.1 true hr (show k ≤ n by omega)
      have a2 := aheadOneByOne_sp hR.1 true hr (show k ≤ n by omega)
      have a3 := ahead_sp hR.1 false hr (show k ≤ n by omega)
      have a4 := aheadOneByOne_sp hR.1 false hr (show k ≤ n by omega)
      rw [bI_t] at a1 a2
      rw [bI_f] at a3 a4
      simp (disch := omega) only [jl_, jlt_f, nI_add]
      rw [a1, a2, a3, a4]
      simp only [obs]
      rw [if_pos (by trivial), if_pos (by trivial)]
      exact ih (k + 8) m (by omega) (by omega) (by omega)
theorem countsAlike_2 {n : Nat} {a : Nat → Nat} {mk : Nat → Bool} (h : LW L w n a mk) (hR : RO R n a) : ∀ d r m, r + d = 5 → d < m → fS_areCountsAlike_2 m L R (nI r) = some (nI 1) := by
  have hn := h.1.1
  intro d
  induction d with
  | zero =>
    intro r m h1 h2
    obtain ⟨m, rfl⟩ : ∃ q, m = q + 1 := ⟨m - 1, by omega⟩
    rw [fS_areCountsAlike_2]
    simp (disch := omega) only [jl_, nI_add, pk_sub, pk_mul, j_neg, jlt_t, jlt_f, jle_t, jle_f, jeq_t, jeq_f, jld, jst, obs, j_div, ↓reduceIte, if_true, if_false, Nat.add_zero, Nat.sub_zero, Nat.add_sub_cancel_left]
  | succ d ih =>
    intro r m h1 h2
    obtain ⟨m, rfl⟩ : ∃ q, m = q + 1 := ⟨m - 1, by omega⟩
    have e9 := countsAlike_9 h hR (show r < 5 by omega) 9 0 FU (by omega) (fu_lt (by omega)) (by omega)
    rw [fS_areCountsAlike_2]
    simp (disch := omega) only [jl_, jle_f, nI_add]
    rw [e9]
    simp only [obs, Sum.elim]
    exact ih (r + 1) m (by omega) (by omega)
theorem sizesAlike {n : Nat} {a : Nat → Nat} {mk : Nat → Bool} (h : LW L w n a mk) (hR : RO R n a) {s : Nat → Int32} (hs : ∀ j, j < n - 0 → ∃ v, v < 32 ∧ fZ_at s (nI (n - 0)) (nI j) = some (nI v) ∧ IsQ a (List.range' 0 (n - 0)) j v) : ∀ d k m, k + d = n → d < m → fS_areSizesAlike_23 m L R (s, nI n) (nI n) (nI k) = some (nI 1, (s, nI n)) := by
  have hn := h.1.1
  intro d
  induction d with
  | zero =>
    intro k m h1 h2
    obtain ⟨m, rfl⟩ : ∃ q, m = q + 1 := ⟨m - 1, by omega⟩
    rw [fS_areSizesAlike_23]
    simp (disch := omega) only [jl_, nI_add, pk_sub, pk_mul, j_neg, jlt_t, jlt_f, jle_t, jle_f, jeq_t, jeq_f, jld, jst, obs, j_div, ↓reduceIte, if_true, if_false, Nat.add_zero, Nat.sub_zero, Nat.add_sub_cancel_left]
  | succ d ih =>
    intro k m h1 h2
    obtain ⟨m, rfl⟩ : ∃ q, m = q + 1 := ⟨m - 1, by omega⟩
    obtain ⟨v, hv, e1, e2⟩ := hs k (by omega)
    obtain ⟨v', e3, hv', e4⟩ := bySize_sp hR.1 h.1.2.1 (Nat.zero_le n) (Nat.le_refl n) (j := k) (by omega)
    rw [Nat.sub_zero] at e1 e2 e4
    have e5 := e2.one e4
    subst e5
    rw [fS_areSizesAlike_23, hR.2]
    simp (disch := omega) only [jl_, jle_f, nI_add]
    rw [e1, e3]
    simp only [obs]
    rw [if_pos (by trivial)]
    exact ih (k + 1) m (by omega) (by omega)
theorem lettersOf_4 {n : Nat} {a : Nat → Nat} {mk : Nat → Bool} (hB : BG B.1 B.2.1 B.2.2.1 B.2.2.2 (bg mk) n a) : ∀ d j m k, j + d = cn (bg mk) 0 n → d < m → IsB (bg mk) n j k → fS_lettersOfBags_4 m B (nI k) (nI j) = some (nI n) := by
  have hn := hB.1
  have hN := cn0_le (bg mk) n
  intro d
  induction d with
  | zero =>
    intro j m k h1 h2 h3
    obtain ⟨m, rfl⟩ : ∃ q, m = q + 1 := ⟨m - 1, by omega⟩
    rw [fS_lettersOfBags_4, hB.2.2.1, h3.stop (by omega)]
    unfold fB_number
    simp (disch := omega) only [jl_, nI_add, pk_sub, pk_mul, j_neg, jlt_t, jlt_f, jle_t, jle_f, jeq_t, jeq_f, jld, jst, obs, j_div, ↓reduceIte, if_true, if_false, Nat.add_zero, Nat.sub_zero, Nat.add_sub_cancel_left]
  | succ d ih =>
    intro j m k h1 h2 h3
    obtain ⟨m, rfl⟩ : ∃ q, m = q + 1 := ⟨m - 1, by omega⟩
    obtain ⟨k', hk'⟩ := IsB.ex (bg mk) n (j + 1)
    have hle := h3.le hk'
    have e := ih (j + 1) m k' (by omega) (by omega) hk'
    rw [fS_lettersOfBags_4, endOf_sp hB hk' (by omega), beginOf_sp hB h3 (by omega), hB.2.2.1]
    unfold fB_number
    simp (disch := omega) only [jl_, jle_f, nI_add, obs, pk_sub]
    rw [show k + (k' - k) = k' by omega]
    exact e
theorem mbal_104 {n : Nat} {a : Nat → Nat} {mk : Nat → Bool} (h : LW L w n a mk) {at_ : Nat → Int32} (g : Bool) : ∀ d j m k, j + d = cn (bg mk) 0 n → d < m → IsB (bg mk) n j k → fM_isBalanced_104 m w at_ (bI g) (nI k) (nI j) = some (bI g, at_) := by
  have hn := h.1.1
  have hN := cn0_le (bg mk) n
  intro d
  induction d with
  | zero =>
    intro j m k h1 h2 h3
    obtain ⟨m, rfl⟩ : ∃ q, m = q + 1 := ⟨m - 1, by omega⟩
    rw [fM_isBalanced_104, mbags_sp h, h3.stop (by omega)]
    simp (disch := omega) only [jl_, jle_t, obs, jld]
    rw [h.1.2.2.1]
    cases g
    · rw [bI_f]
      simp (disch := omega) only [jl_, nI_add, pk_sub, pk_mul, j_neg, jlt_t, jlt_f, jle_t, jle_f, jeq_t, jeq_f, jld, jst, obs, j_div, ↓reduceIte, if_true, if_false, Nat.add_zero, Nat.sub_zero, Nat.add_sub_cancel_left]
    · rw [bI_t]
      simp (disch := omega) only [jl_, nI_add, pk_sub, pk_mul, j_neg, jlt_t, jlt_f, jle_t, jle_f, jeq_t, jeq_f, jld, jst, obs, j_div, ↓reduceIte, if_true, if_false, Nat.add_zero, Nat.sub_zero, Nat.add_sub_cancel_left]
  | succ d ih =>
    intro j m k h1 h2 h3
    obtain ⟨m, rfl⟩ : ∃ q, m = q + 1 := ⟨m - 1, by omega⟩
    obtain ⟨k', hk'⟩ := IsB.ex (bg mk) n (j + 1)
    have hle := h3.le hk'
    have e := ih (j + 1) m k' (by omega) (by omega) hk'
    rw [fM_isBalanced_104, mbags_sp h, sizeOf_sp h h3 hk' (by omega)]
    simp (disch := omega) only [jl_, jle_f, nI_add, obs]
    rw [show k + (k' - k) = k' by omega]
    exact e
theorem mbal_36 {n : Nat} {a : Nat → Nat} {mk : Nat → Bool} (h : LW L w n a mk) (hR : RO R n a) {at_ : Nat → Int32} (hM : MP at_ a n) (g : Bool) : ∀ d k m, k + d = n → d < m → fM_isBalanced_36 m w at_ (bI g) (nI 0) (nI k) = some (bI g, at_) := by
  have hn := h.1.1
  have hN := cn0_le (bg mk) n
  intro d
  induction d with
  | zero =>
    intro k m h1 h2
    obtain ⟨m, rfl⟩ : ∃ q, m = q + 1 := ⟨m - 1, by omega⟩
    rw [fM_isBalanced_36]
    simp (disch := omega) only [jl_, jld, obs]
    rw [h.1.2.2.1, jle_t (by omega) (by omega)]
    exact mbal_104 h g (cn (bg mk) 0 n) 0 FU 0 (by omega) (fu_lt (by omega)) (IsB.zero (bg_0 mk) n)
  | succ d ih =>
    intro k m h1 h2
    obtain ⟨m, rfl⟩ : ∃ q, m = q + 1 := ⟨m - 1, by omega⟩
    have e := ih (k + 1) m (by omega) (by omega)
    obtain ⟨v', e3, hv', e4⟩ := bySize_sp hR.1 h.1.2.1 (Nat.zero_le n) (Nat.le_refl n) (j := k) (by omega)
    have m1 := mbySize_sp h.1 (Nat.zero_le n) (Nat.le_refl n) e4 (by omega) hv'
    have m2 := sizeAgain_sp h.1 (Nat.zero_le n) (Nat.le_refl n) (by omega) e4
    rw [fM_isBalanced_36]
    simp (disch := omega) only [jl_, jld, obs, nI_add]
    rw [h.1.2.2.1, jle_f (by omega) (by omega)]
    cases g
    · rw [bI_f] at e ⊢
      rw [if_pos (by trivial)]
      exact e
    · rw [bI_t] at e ⊢
      rw [if_neg (by decide), byBits_sp h.1 hM (by omega), is_sp h.1 (by omega)]
      simp only [obs]
      rw [if_pos (by trivial), m1]
      simp only [obs]
      rw [m2]
      simp only [obs]
      rw [if_pos (by trivial)]
      exact e
theorem st_isBalanced (h : ST L w R B) (Z : TZ) (at_ : Nat → Int32) : ∃ r Z' at', fS_isBalanced L R B Z = some (r, Z') ∧ fM_isBalanced w at_ = some (r, at') := by
  obtain ⟨n, a, mk, h, hR, hB⟩ := h
  have hn := h.1.1
  have hN := cn0_le (bg mk) n
  obtain ⟨g, eg, hg⟩ := findsRows_sp h.1 at_
  obtain ⟨s', e3, h3⟩ := zfill_sp (a := a) hn h.2.2.1 h.1.2.1 (Nat.zero_le n) (Nat.le_refl n) Z.1 Z.2
  unfold fS_isBalanced fM_isBalanced fL_size fL_came fL_left
  rw [eg, h.2.1, h.2.2.2.2.2.2.1, h.2.2.2.2.2.2.2.1]
  simp (disch := omega) only [jl_, jld, obs]
  rw [h.1.2.2.1]
  by_cases c : nI n = w 1 - w 2
  · rw [if_pos c, if_pos c]
    have b1 : fS_areWeightsAlike L R = some (nI 1) := weightsAlike h hR n 0 FU (by omega) (fu_lt (by omega))
    have b2 : fS_areCountsAlike L R = some (nI 1) := countsAlike_2 h hR 5 0 FU (by omega) (fu_lt (by omega))
    have b3 : fS_areSizesAlike L R Z = some (nI 1, (s', nI n)) := by
      unfold fS_areSizesAlike fL_size
      rw [h.2.1]
      simp only [jl_]
      rw [e3]
      simp only [obs]
      rw [Nat.sub_zero]
      exact sizesAlike h hR h3 n 0 FU (by omega) (fu_lt (by omega))
    have b4 : fS_lettersOfBags B = some (nI n) := lettersOf_4 hB (cn (bg mk) 0 n) 0 FU 0 (by omega) (fu_lt (by omega)) (IsB.zero (bg_0 mk) n)
    have m1 := mbal_36 h hR hg true n 0 FU (by omega) (fu_lt (by omega))
    rw [bI_t] at m1
    refine ⟨nI 1, (s', nI n), g, ?_, m1⟩
    rw [b1]
    simp (disch := omega) only [obs, jeq_f]
    rw [b2]
    simp (disch := omega) only [obs, jeq_f]
    rw [b3]
    simp (disch := omega) only [obs, jeq_f]
    rw [b4]
    simp only [obs]
    rw [if_pos (by trivial)]
  · rw [if_neg c, if_neg c]
    have m1 := mbal_36 h hR hg false n 0 FU (by omega) (fu_lt (by omega))
    rw [bI_f] at m1
    exact ⟨nI 0, Z, g, rfl, m1⟩
/-! shares -/
theorem dvD_sp (x : Int32) {y : Int32} (hy : y ≠ 0) : ∃ v, dvD (FP.i2d x) (FP.i2d y) = some v := by
  have h : FP.Core.dIsNaN (FP.Core.ddiv (FP.Core.i2d x) (FP.Core.i2d y)) = false := FP.Core.ddiv_out (FP.Core.i2d_fin x).notNaN (FP.Core.i2d_fin y) (fun z => FP.Core.i2d_ne_zero hy ((FP.Core.zero_bits2 _).mp z))
  refine ⟨FP.ddiv (FP.i2d x) (FP.i2d y), ?_⟩
  unfold dvD
  refine if_pos ?_
  show FP.Core.ddiv (FP.Core.i2d x) (FP.Core.i2d y) &&& 0x7fffffffffffffff ≤ 0x7ff0000000000000
  generalize FP.Core.ddiv (FP.Core.i2d x) (FP.Core.i2d y) = z at h
  have h2 : ¬ 9218868437227405312 < z.toNat % 2 ^ 63 := fun q => by
    rw [(FP.Core.isNaN_bits z).mpr q] at h
    cases h
  rw [UInt64.le_iff_toNat_le, UInt64.toNat_and, show (0x7fffffffffffffff : UInt64).toNat = 2 ^ 63 - 1 from rfl, Nat.and_two_pow_sub_one_eq_mod, show (0x7ff0000000000000 : UInt64).toNat = 9218868437227405312 from rfl]
  omega
theorem dvF_sp (x : Int32) {y : Int32} (hy : y ≠ 0) : ∃ v, dvF (FP.i2f x) (FP.i2f y) = some v := by
  have h : FP.Core.fIsNaN (FP.Core.fdiv (FP.Core.i2f x) (FP.Core.i2f y)) = false := FP.Core.fdiv_out (FP.Core.i2f_fin x).notNaN (FP.Core.i2f_fin y) (fun z => FP.Core.i2f_ne_zero hy ((FP.Core.zero_bits232 _).mp z))
  refine ⟨FP.fdiv (FP.i2f x) (FP.i2f y), ?_⟩
  unfold dvF
  refine if_pos ?_
  show FP.Core.fdiv (FP.Core.i2f x) (FP.Core.i2f y) &&& 0x7fffffff ≤ 0x7f800000
  generalize FP.Core.fdiv (FP.Core.i2f x) (FP.Core.i2f y) = z at h
  have h2 : ¬ 2139095040 < z.toNat % 2 ^ 31 := fun q => by
    rw [(FP.Core.isNaN_bits32 z).mpr q] at h
    cases h
  rw [UInt32.le_iff_toNat_le, UInt32.toNat_and, show (0x7fffffff : UInt32).toNat = 2 ^ 31 - 1 from rfl, Nat.and_two_pow_sub_one_eq_mod, show (0x7f800000 : UInt32).toNat = 2139095040 from rfl]
  omega
theorem st_meanWeight (h : ST L w R B) : ∃ r, fS_meanWeight L = some r ∧ fM_meanWeight w = some r := by
  obtain ⟨n, a, mk, h, hR, hB⟩ := h
  have hn := h.1.1
  unfold fS_meanWeight fM_meanWeight fL_size
  rw [h.2.1, total_sp hn h.2.2.1]
  simp (disch := omega) only [jl_, jld, obs]
  rw [h.1.2.2.1, sum_sp h.1 (Nat.zero_le n) (Nat.le_refl n), Nat.sub_zero]
  by_cases c : n = 0
  · subst c
    exact ⟨FP.dconst0, rfl, rfl⟩
  · obtain ⟨v, hv⟩ := dvD_sp (nI (sm a 0 n)) (y := nI n) (nI_ne0 (by omega) (by omega))
    rw [jle_f (by omega) (by omega), jeq_f c (by omega) (by omega)]
    simp only [obs]
    rw [hv]
    exact ⟨v, rfl, rfl⟩
theorem st_oneShare (h : ST L w R B) (x : Int32) (at_ : Nat → Int32) : ∃ r at', fS_oneShare L R x = some r ∧ fM_oneShare w at_ x = some (r, at') := by
  obtain ⟨n, a, mk, h, hR, hB⟩ := h
  have hn := h.1.1
  obtain ⟨g, eg, hg⟩ := findsRows_sp h.1 at_
  unfold fS_oneShare fM_oneShare fL_size
  rcases row_cs x with ⟨r, hr, rfl, e1, e2⟩ | ⟨e1, e2⟩
  · rw [e1, e2, h.2.1, onesOf_sp hR hr, eg]
    simp (disch := omega) only [jl_, jld, obs, jeq_f]
    rw [h.1.2.2.1]
    have e5 := counted_sp h.1 hg true hr (Nat.le_refl n)
    rw [bI_t] at e5
    by_cases c : n = 0
    · subst c
      exact ⟨FP.fconst0, at_, rfl, rfl⟩
    · obtain ⟨v, hv⟩ := dvF_sp (nI (ca (qb a r) (rp (qb a) n r) true n)) (y := nI n) (nI_ne0 (by omega) (by omega))
      rw [jle_f (by omega) (by omega), jeq_f c (by omega) (by omega), e5]
      simp only [obs]
      rw [hv]
      exact ⟨v, g, rfl, rfl⟩
  · rw [e1, e2]
    exact ⟨FP.fconst0, at_, rfl, rfl⟩
end S
