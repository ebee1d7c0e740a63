/-! how texts are read -/
def ch (c : Nat → Int32) (len k : Nat) : Int32 := if k < len then c k else -nI 1
def TXr (c c2 : Nat → Int32) (len : Nat) : Prop := len ≤ 60 ∧ ∀ k, k < len → c k = c2 k ∧ ∃ q, q < 128 ∧ c k = nI q
theorem up_up (f : Nat → Int32) (k : Nat) (x y : Int32) : up (up f k x) k y = up f k y := by
  funext j
  by_cases e : j = k
  · rw [up_eq e, up_eq e]
  · rw [up_ne e, up_ne e, up_ne e]
section T
variable {c c2 : Nat → Int32} {len k : Nat}
theorem ch_lt {q : Nat} (e : ch c len k = nI q) (hq : q < 2147483648) : k < len := by
  unfold ch at e
  by_cases h : k < len
  · exact h
  · rw [if_neg h] at e
    exact absurd e (jnn_ne (jng (by omega) (by omega)) hq)
theorem codeAt_sp (h : TXr c c2 len) (hk : k < 2147483648) : fT_codeAt c (nI len) (nI k) = some (ch c len k) := by
  have hl := h.1
  unfold fT_codeAt ch
  by_cases q : k < len
  · rw [if_pos q]
    simp (disch := omega) only [jl_, nI_add, pk_sub, pk_mul, j_neg, jlt_t, jlt_f, jle_t, jle_f, jeq_t, jeq_f, jld, jst, obs, j_div, ↓reduceIte, if_true, if_false, Nat.add_zero, Nat.sub_zero, Nat.add_sub_cancel_left]
  · rw [if_neg q]
    simp (disch := omega) only [jl_, nI_add, pk_sub, pk_mul, j_neg, jlt_t, jlt_f, jle_t, jle_f, jeq_t, jeq_f, jld, jst, obs, j_div, ↓reduceIte, if_true, if_false, Nat.add_zero, Nat.sub_zero, Nat.add_sub_cancel_left]
theorem sign_sp (h : TXr c c2 len) (hk : k < 2147483648) : fM_sign c2 (nI len) (nI k) = some (ch c len k) := by
  have hl := h.1
  unfold fM_sign ch
  by_cases q : k < len
  · rw [if_pos q, (h.2 k q).1]
    simp (disch := omega) only [jl_, nI_add, pk_sub, pk_mul, j_neg, jlt_t, jlt_f, jle_t, jle_f, jeq_t, jeq_f, jld, jst, obs, j_div, ↓reduceIte, if_true, if_false, Nat.add_zero, Nat.sub_zero, Nat.add_sub_cancel_left]
  · rw [if_neg q]
    simp (disch := omega) only [jl_, nI_add, pk_sub, pk_mul, j_neg, jlt_t, jlt_f, jle_t, jle_f, jeq_t, jeq_f, jld, jst, obs, j_div, ↓reduceIte, if_true, if_false, Nat.add_zero, Nat.sub_zero, Nat.add_sub_cancel_left]
theorem rs_t (h : TXr c c2 len) (hk : k < 2147483648) {x : Int32} (e : ch c len k = x) : fT_readSign c (nI len) (nI k) x = some (nI 1, nI (k + 1)) := by
  unfold fT_readSign
  rw [codeAt_sp h hk]
  simp only [obs, jl_, nI_add]
  rw [if_pos e]
theorem rs_f (h : TXr c c2 len) (hk : k < 2147483648) {x : Int32} (e : ch c len k ≠ x) : fT_readSign c (nI len) (nI k) x = some (nI 0, nI k) := by
  unfold fT_readSign
  rw [codeAt_sp h hk]
  simp only [obs, jl_, nI_add]
  rw [if_neg e]
theorem rd_t (h : TXr c c2 len) (hk : k < 2147483648) {x : Int32} (e : ch c len k = x) : fM_reads c2 (nI len) (nI k) x = some (nI 1, nI (k + 1)) := by
  unfold fM_reads
  rw [sign_sp h hk]
  simp only [obs, jl_, nI_add]
  rw [if_pos e]
theorem rd_f (h : TXr c c2 len) (hk : k < 2147483648) {x : Int32} (e : ch c len k ≠ x) : fM_reads c2 (nI len) (nI k) x = some (nI 0, nI k) := by
  unfold fM_reads
  rw [sign_sp h hk]
  simp only [obs, jl_, nI_add]
  rw [if_neg e]
theorem dig_cs (h : TXr c c2 len) (hk : k < 2147483647) :
    (∃ v, v < 10 ∧ k < len ∧ fT_digitAt c (nI len) (nI k) = some (nI v) ∧ ∀ (g : Nat → Int32) (s : Nat), s < 2 → fM_readsDigit c2 (nI len) (nI k) g (nI s) = some (nI 1, nI (k + 1), up g s (nI v))) ∨
    (fT_digitAt c (nI len) (nI k) = some (-nI 1) ∧ ∀ (g : Nat → Int32) (s : Nat), s < 2 → fM_readsDigit c2 (nI len) (nI k) g (nI s) = some (nI 0, nI k, g)) := by
  unfold fT_digitAt fM_readsDigit
  rw [codeAt_sp h (by omega), sign_sp h (by omega)]
  simp only [obs, jl_, nI_add]
  by_cases q : k < len
  · obtain ⟨v, hv, e⟩ := (h.2 k q).2
    have e2 : ch c len k = nI v := by unfold ch; rw [if_pos q, e]
    rw [e2, isB_sp v 48 57 (by omega) (by omega) (by omega)]
    by_cases c9 : 48 ≤ v ∧ v ≤ 57
    · left
      refine ⟨v - 48, by omega, q, ?_, fun g s hs => ?_⟩
      · simp (disch := omega) only [jl_, nI_add, pk_sub, pk_mul, j_neg, jlt_t, jlt_f, jle_t, jle_f, jeq_t, jeq_f, jld, jst, obs, j_div, ↓reduceIte, if_true, if_false, Nat.add_zero, Nat.sub_zero, Nat.add_sub_cancel_left]
      · rw [decide_eq_true c9, bI_t]
        simp (disch := omega) only [jl_, nI_add, pk_sub, pk_mul, j_neg, jlt_t, jlt_f, jle_t, jle_f, jeq_t, jeq_f, jld, jst, obs, j_div, ↓reduceIte, if_true, if_false, Nat.add_zero, Nat.sub_zero, Nat.add_sub_cancel_left]
    · right
      refine ⟨?_, fun g s hs => ?_⟩
      · by_cases c8 : v < 48
        · simp (disch := omega) only [jl_, nI_add, pk_sub, pk_mul, j_neg, jlt_t, jlt_f, jle_t, jle_f, jeq_t, jeq_f, jld, jst, obs, j_div, ↓reduceIte, if_true, if_false, Nat.add_zero, Nat.sub_zero, Nat.add_sub_cancel_left]
        · simp (disch := omega) only [jl_, nI_add, pk_sub, pk_mul, j_neg, jlt_t, jlt_f, jle_t, jle_f, jeq_t, jeq_f, jld, jst, obs, j_div, ↓reduceIte, if_true, if_false, Nat.add_zero, Nat.sub_zero, Nat.add_sub_cancel_left]
      · rw [decide_eq_false c9, bI_f, if_pos (by trivial)]
  · have e2 : ch c len k = -nI 1 := by unfold ch; rw [if_neg q]
    right
    rw [e2]
    refine ⟨?_, fun g s hs => ?_⟩
    · rw [if_pos (jnn_lt (jng (by omega) (by omega)) (by omega))]
    · unfold fM_isBetween
      rw [if_pos (jnn_lt (jng (by omega) (by omega)) (by omega))]
      simp only [jl_]
      rw [if_pos (by trivial)]
theorem rdn_f (h : TXr c c2 len) (hk : k < 2147483648) (e : ch c len k ≠ nI 32) (g : Nat → Int32) (s : Int32) : fM_readsNumber c2 (nI len) (nI k) g s = some (nI 0, nI k, g) := by
  unfold fM_readsNumber
  simp only [jl_]
  rw [rd_f h hk e]
  simp only [obs]
  rw [if_pos (by trivial)]
theorem num_cs (h : TXr c c2 len) (hk : k < 2000000000) (e : ch c len k = nI 32) :
    (∃ v k', v < 100 ∧ k + 1 < k' ∧ k' ≤ len ∧ (∀ l : Int32, fT_readNumber c (nI len) (nI (k + 1)) l = some (nI 1, nI k', nI v)) ∧ ∀ (g : Nat → Int32) (s : Nat), s < 2 → fM_readsNumber c2 (nI len) (nI k) g (nI s) = some (nI 1, nI k', up g s (nI v))) ∨
    ((∀ l : Int32, fT_readNumber c (nI len) (nI (k + 1)) l = some (nI 0, nI (k + 1), l)) ∧ ∀ (g : Nat → Int32) (s : Nat), s < 2 → fM_readsNumber c2 (nI len) (nI k) g (nI s) = some (nI 0, nI (k + 1), g)) := by
  have hl := h.1
  unfold fT_readNumber fM_readsNumber
  simp only [jl_, nI_add]
  rw [rd_t h (by omega) e]
  simp only [obs]
  rcases dig_cs (k := k + 1) h (by omega) with ⟨v, hv, hk1, d1, d2⟩ | ⟨d1, d2⟩
  · rw [d1]
    rcases dig_cs (k := k + 1 + 1) h (by omega) with ⟨v2, hv2, hk2, d3, d4⟩ | ⟨d3, d4⟩
    · left
      refine ⟨v * 10 + v2, k + 1 + 1 + 1, by omega, by omega, by omega, fun l => ?_, fun g s hs => ?_⟩
      · simp (disch := omega) only [obs, jle_t]
        rw [d3]
        simp (disch := omega) only [jl_, nI_add, pk_sub, pk_mul, j_neg, jlt_t, jlt_f, jle_t, jle_f, jeq_t, jeq_f, jld, jst, obs, j_div, ↓reduceIte, if_true, if_false, Nat.add_zero, Nat.sub_zero, Nat.add_sub_cancel_left]
      · rw [if_neg (by decide), d2 g s hs]
        simp only [obs]
        rw [if_neg (by decide), jld hs (by omega)]
        simp only [obs]
        rw [d4 _ s hs]
        simp only [obs]
        rw [if_neg (by decide), jld hs (by omega)]
        simp only [obs]
        rw [jst hs (by omega), up_up, up_up, up_eq rfl, up_eq rfl, pk_mul, nI_add, show v2 + 10 * v = v * 10 + v2 by omega]
        rfl
    · left
      refine ⟨v, k + 1 + 1, by omega, by omega, by omega, fun l => ?_, fun g s hs => ?_⟩
      · simp (disch := omega) only [obs, jle_t]
        rw [d3]
        simp only [obs]
        rw [if_pos (jng (by omega) (by omega))]
      · rw [if_neg (by decide), d2 g s hs]
        simp only [obs]
        rw [if_neg (by decide), jld hs (by omega)]
        simp only [obs]
        rw [d4 _ s hs]
        simp only [obs]
        rw [if_pos (by trivial)]
  · right
    rw [d1]
    refine ⟨fun l => ?_, fun g s hs => ?_⟩
    · simp only [obs]
      rw [jz_f (by omega) (by omega)]
    · rw [if_neg (by decide), d2 g s hs]
      simp only [obs]
      rw [if_pos (by trivial)]
theorem rw_t (h : TXr c c2 len) {m i idx : Nat} (hm : 0 < m) (hk : k < 2147483648) {x : Int32} (hi : ¬ strLen i ≤ nI idx) (hx : strAt i (nI idx) = some x) (e : ch c len k = x) : fT_readWord_2 m c (nI len) (nI k) i (nI idx) = fT_readWord_2 (m - 1) c (nI len) (nI (k + 1)) i (nI (idx + 1)) := by
  obtain ⟨m, rfl⟩ : ∃ q, m = q + 1 := ⟨m - 1, by omega⟩
  rw [fT_readWord_2, if_neg hi, hx]
  simp only [obs]
  rw [rs_t h hk e]
  simp only [obs]
  rw [if_neg (by decide), Nat.add_sub_cancel]
  simp only [jl_, nI_add]
theorem rw_f (h : TXr c c2 len) {m i idx : Nat} (hm : 0 < m) (hk : k < 2147483648) {x : Int32} (hi : ¬ strLen i ≤ nI idx) (hx : strAt i (nI idx) = some x) (e : ch c len k ≠ x) : fT_readWord_2 m c (nI len) (nI k) i (nI idx) = some (nI 0, nI k) := by
  obtain ⟨m, rfl⟩ : ∃ q, m = q + 1 := ⟨m - 1, by omega⟩
  rw [fT_readWord_2, if_neg hi, hx]
  simp only [obs]
  rw [rs_f h hk e]
  simp only [obs]
  rw [if_pos (by trivial)]
  rfl
theorem rw_e {m i idx : Nat} (hm : 0 < m) (hi : strLen i ≤ nI idx) (he : strEmp i = 0) : fT_readWord_2 m c (nI len) (nI k) i (nI idx) = some (nI 1, nI k) := by
  obtain ⟨m, rfl⟩ : ∃ q, m = q + 1 := ⟨m - 1, by omega⟩
  rw [fT_readWord_2, if_pos hi, if_pos he]
  rfl
/-- one order, read: ok, to k', with numbers x and y -/
def K6 (z : Int32) : Prop := z = nI 99 ∨ z = nI 105 ∨ z = nI 109 ∨ z = nI 111 ∨ z = nI 112 ∨ z = nI 115
def OC (c c2 : Nat → Int32) (len k : Nat) (ok : Bool) (k' x y : Nat) : Prop :=
  (∀ (K F S : Nat → Int32) (j : Nat) (l : Int32), (ok = true → j < 10) → ∃ l', fT_readOrder c (nI len) K F S (nI j) (nI k) l = some (if ok = true then (nI 1, up K j (ch c len k), up F j (nI x), up S j (nI y), nI (j + 1), nI k', l') else (nI 0, K, F, S, nI j, nI k', l'))) ∧
  (∀ (g : Nat → Int32) (s : Int32), ∃ g', fM_readsOrder c2 (nI len) (nI k) g s = some (bI ok, nI k', g', ch c len k) ∧ (ok = true → g' 0 = nI x ∧ (ch c len k = nI 105 → g' 1 = nI y))) ∧
  k ≤ k' ∧ k' ≤ len ∧ (ok = true → k + 5 ≤ k' ∧ K6 (ch c len k) ∧ x < 100 ∧ y < 100)
theorem OC.fail {k' : Nat} (h1 : ∀ (K F S : Nat → Int32) (j : Nat) (l : Int32), ∃ l', fT_readOrder c (nI len) K F S (nI j) (nI k) l = some (nI 0, K, F, S, nI j, nI k', l')) (h2 : ∀ (g : Nat → Int32) (s : Int32), ∃ g', fM_readsOrder c2 (nI len) (nI k) g s = some (nI 0, nI k', g', ch c len k)) (h3 : k ≤ k') (h4 : k' ≤ len) : ∃ ok k' x y, OC c c2 len k ok k' x y :=
  ⟨false, k', 0, 0, fun K F S j l _ => h1 K F S j l, fun g s => by
    obtain ⟨g', e⟩ := h2 g s
    exact ⟨g', e, fun h => by cases h⟩, h3, h4, fun h => by cases h⟩
theorem OC.good {k' x y : Nat} (h1 : ∀ (K F S : Nat → Int32) (j : Nat) (l : Int32), j < 10 → ∃ l', fT_readOrder c (nI len) K F S (nI j) (nI k) l = some (nI 1, up K j (ch c len k), up F j (nI x), up S j (nI y), nI (j + 1), nI k', l')) (h2 : ∀ (g : Nat → Int32) (s : Int32), ∃ g', fM_readsOrder c2 (nI len) (nI k) g s = some (nI 1, nI k', g', ch c len k) ∧ g' 0 = nI x ∧ (ch c len k = nI 105 → g' 1 = nI y)) (h3 : k + 5 ≤ k') (h4 : k' ≤ len) (h5 : K6 (ch c len k)) (hx : x < 100) (hy : y < 100) : ∃ ok k' x y, OC c c2 len k ok k' x y :=
  ⟨true, k', x, y, fun K F S j l hj => h1 K F S j l (hj rfl), fun g s => by
    obtain ⟨g', e, e1, e2⟩ := h2 g s
    exact ⟨g', e, fun _ => ⟨e1, e2⟩⟩, by omega, h4, fun _ => ⟨h3, h5, hx, hy⟩⟩
/-! the class' order, by what its parts say -/
theorem add_sp {K F S : Nat → Int32} {j : Nat} {x y z : Int32} (hj : j < 10) : fT_addOrder K F S (nI j) x y z = some (up K j x, up F j y, up S j z, nI (j + 1)) := by
  unfold fT_addOrder
  simp (disch := omega) only [jl_, nI_add, pk_sub, pk_mul, j_neg, jlt_t, jlt_f, jle_t, jle_f, jeq_t, jeq_f, jld, jst, obs, j_div, ↓reduceIte, if_true, if_false, Nat.add_zero, Nat.sub_zero, Nat.add_sub_cancel_left]
theorem ord_w (h : TXr c c2 len) (hk : k < 2147483648) {k1 : Nat} (hw : fT_readWord c (nI len) (nI k) (fT_wordOf (ch c len k)) = some (nI 0, nI k1)) (K F S : Nat → Int32) (j : Nat) (l : Int32) : ∃ l', fT_readOrder c (nI len) K F S (nI j) (nI k) l = some (nI 0, K, F, S, nI j, nI k1, l') := by
  refine ⟨l, ?_⟩
  unfold fT_readOrder
  rw [codeAt_sp h hk]
  simp only [obs]
  rw [hw]
  simp only [obs]
  rw [if_pos (by trivial)]
  rfl
theorem ord_n (h : TXr c c2 len) (hk : k < 2147483648) {k1 : Nat} (hw : fT_readWord c (nI len) (nI k) (fT_wordOf (ch c len k)) = some (nI 1, nI k1)) (hn : ∀ l : Int32, fT_readNumber c (nI len) (nI k1) l = some (nI 0, nI k1, l)) (K F S : Nat → Int32) (j : Nat) (l : Int32) : ∃ l', fT_readOrder c (nI len) K F S (nI j) (nI k) l = some (nI 0, K, F, S, nI j, nI k1, l') := by
  refine ⟨l, ?_⟩
  unfold fT_readOrder
  rw [codeAt_sp h hk]
  simp only [obs]
  rw [hw]
  simp only [obs]
  rw [if_neg (by decide), hn]
  simp only [obs]
  rw [if_pos (by trivial)]
  rfl
theorem ord_ok (h : TXr c c2 len) (hk : k < 2147483648) {k1 k2 v : Nat} (hi : ch c len k ≠ nI 105) (hw : fT_readWord c (nI len) (nI k) (fT_wordOf (ch c len k)) = some (nI 1, nI k1)) (hn : ∀ l : Int32, fT_readNumber c (nI len) (nI k1) l = some (nI 1, nI k2, nI v)) (K F S : Nat → Int32) (j : Nat) (l : Int32) (hj : j < 10) : ∃ l', fT_readOrder c (nI len) K F S (nI j) (nI k) l = some (nI 1, up K j (ch c len k), up F j (nI v), up S j (nI v), nI (j + 1), nI k2, l') := by
  refine ⟨nI v, ?_⟩
  unfold fT_readOrder
  rw [codeAt_sp h hk]
  simp only [obs]
  rw [hw]
  simp only [obs]
  rw [if_neg (by decide), hn]
  simp only [obs, jl_]
  rw [if_neg (by decide), if_neg hi, add_sp hj]
  rfl
theorem ord_i (h : TXr c c2 len) (hk : k < 2147483648) {k1 k2 v : Nat} (hi : ch c len k = nI 105) (hw : fT_readWord c (nI len) (nI k) (fT_wordOf (ch c len k)) = some (nI 1, nI k1)) (hn : ∀ l : Int32, fT_readNumber c (nI len) (nI k1) l = some (nI 1, nI k2, nI v)) (hk2 : k2 < 2147483648) (K F S : Nat → Int32) (j : Nat) (l : Int32) :
    (ch c len k2 ≠ nI 32 → fT_readOrder c (nI len) K F S (nI j) (nI k) l = some (nI 0, K, F, S, nI j, nI k2, nI v)) ∧
    (ch c len k2 = nI 32 → (∀ l : Int32, fT_readNumber c (nI len) (nI (k2 + 1)) l = some (nI 0, nI (k2 + 1), l)) → fT_readOrder c (nI len) K F S (nI j) (nI k) l = some (nI 0, K, F, S, nI j, nI (k2 + 1), nI v)) ∧
    ∀ k3 y : Nat, ch c len k2 = nI 32 → (∀ l : Int32, fT_readNumber c (nI len) (nI (k2 + 1)) l = some (nI 1, nI k3, nI y)) → j < 10 → fT_readOrder c (nI len) K F S (nI j) (nI k) l = some (nI 1, up K j (ch c len k), up F j (nI v), up S j (nI y), nI (j + 1), nI k3, nI y) := by
  unfold fT_readOrder
  rw [codeAt_sp h hk]
  simp only [obs]
  rw [hw]
  simp only [obs]
  rw [if_neg (by decide), hn]
  simp only [obs, jl_]
  rw [if_neg (by decide), if_pos hi]
  refine ⟨fun e => ?_, fun e e2 => ?_, fun k3 y e e2 hj => ?_⟩
  · rw [rs_f h hk2 e]
    simp only [obs]
    rw [if_pos (by trivial)]
  · rw [rs_t h hk2 e]
    simp only [obs]
    rw [if_neg (by decide), e2]
    simp only [obs]
    rw [if_pos (by trivial)]
  · rw [rs_t h hk2 e]
    simp only [obs]
    rw [if_neg (by decide), e2]
    simp only [obs]
    rw [if_neg (by decide), add_sp hj]
    rfl

theorem order_c (h : TXr c c2 len) (hk : k ≤ len) (e0 : ch c len k = nI 99) : ∃ ok k' x y, OC c c2 len k ok k' x y := by
  have hl := h.1
  have hw9 : fT_wordOf (ch c len k) = 5 := by rw [e0]; rfl
  have p0 := ch_lt e0 (by omega)
  by_cases e1 : ch c len (k + 1) = nI 108
  · have p1 := ch_lt e1 (by omega)
    by_cases e2 : ch c len (k + 1 + 1) = nI 101
    · have p2 := ch_lt e2 (by omega)
      by_cases e3 : ch c len (k + 1 + 1 + 1) = nI 97
      · have p3 := ch_lt e3 (by omega)
        by_cases e4 : ch c len (k + 1 + 1 + 1 + 1) = nI 114
        · have p4 := ch_lt e4 (by omega)
          by_cases e5 : ch c len (k + 1 + 1 + 1 + 1 + 1) = nI 32
          · have p5 := ch_lt e5 (by omega)
            have hw : fT_readWord c (nI len) (nI k) (fT_wordOf (ch c len k)) = some (nI 1, nI (k + 1 + 1 + 1 + 1 + 1 + 1)) := by
              rw [hw9]
              unfold fT_readWord
              show fT_readWord_2 FU c (nI len) (nI k) 5 (nI 0) = _
              rw [rw_t h (x := nI 99) (by unfold FU; omega) (by omega) (by decide) (by decide) e0]
              rw [rw_t h (x := nI 108) (by unfold FU; omega) (by omega) (by decide) (by decide) e1]
              rw [rw_t h (x := nI 101) (by unfold FU; omega) (by omega) (by decide) (by decide) e2]
              rw [rw_t h (x := nI 97) (by unfold FU; omega) (by omega) (by decide) (by decide) e3]
              rw [rw_t h (x := nI 114) (by unfold FU; omega) (by omega) (by decide) (by decide) e4]
              rw [rw_t h (x := nI 32) (by unfold FU; omega) (by omega) (by decide) (by decide) e5]
              rw [rw_e (by unfold FU; omega) (by decide) (by decide)]
            rcases num_cs h (by omega) e5 with ⟨v, k2, hv, q1, q2, n1, n2⟩ | ⟨n1, n2⟩
            · refine OC.good (fun K F S j l hj => ord_ok h (by omega) (by rw [e0]; decide) hw n1 K F S j l hj) (fun g s => ⟨up g 0 (nI v), ?_, up_eq rfl, fun z => absurd (e0.symm.trans z) (by decide)⟩) (by omega) q2 (by rw [e0]; unfold K6; decide) hv hv
              unfold fM_readsOrder
              rw [sign_sp h (by omega), obs, e0]
              rw [if_pos (by decide)]
              simp only [jl_, nI_add]
              rw [rd_t h (by omega) e1]
              simp only [obs]
              rw [if_neg (by decide)]
              rw [rd_t h (by omega) e2]
              simp only [obs]
              rw [if_neg (by decide)]
              rw [rd_t h (by omega) e3]
              simp only [obs]
              rw [if_neg (by decide)]
              rw [rd_t h (by omega) e4]
              simp only [obs]
              rw [if_neg (by decide)]
              rw [n2 g 0 (by omega)]
              simp only [obs]
              rw [if_neg (by decide)]
            · refine OC.fail (fun K F S j l => ord_n h (by omega) hw n1 K F S j l) (fun g s => ⟨g, ?_⟩) (by omega) (by omega)
              unfold fM_readsOrder
              rw [sign_sp h (by omega), obs, e0]
              rw [if_pos (by decide)]
              simp only [jl_, nI_add]
              rw [rd_t h (by omega) e1]
              simp only [obs]
              rw [if_neg (by decide)]
              rw [rd_t h (by omega) e2]
              simp only [obs]
              rw [if_neg (by decide)]
              rw [rd_t h (by omega) e3]
              simp only [obs]
              rw [if_neg (by decide)]
              rw [rd_t h (by omega) e4]
              simp only [obs]
              rw [if_neg (by decide)]
              rw [n2 g 0 (by omega)]
              simp only [obs]
              rw [if_pos (by trivial)]
          · skip
            refine OC.fail (k' := k + 1 + 1 + 1 + 1 + 1) (fun K F S j l => ord_w h (by omega) ?_ K F S j l) (fun g s => ⟨g, ?_⟩) (by omega) (by omega)
            · rw [hw9]
              unfold fT_readWord
              show fT_readWord_2 FU c (nI len) (nI k) 5 (nI 0) = _
              rw [rw_t h (x := nI 99) (by unfold FU; omega) (by omega) (by decide) (by decide) e0]
              rw [rw_t h (x := nI 108) (by unfold FU; omega) (by omega) (by decide) (by decide) e1]
              rw [rw_t h (x := nI 101) (by unfold FU; omega) (by omega) (by decide) (by decide) e2]
              rw [rw_t h (x := nI 97) (by unfold FU; omega) (by omega) (by decide) (by decide) e3]
              rw [rw_t h (x := nI 114) (by unfold FU; omega) (by omega) (by decide) (by decide) e4]
              rw [rw_f h (x := nI 32) (by unfold FU; omega) (by omega) (by decide) (by decide) e5]
            · unfold fM_readsOrder
              rw [sign_sp h (by omega), obs, e0]
              rw [if_pos (by decide)]
              simp only [jl_, nI_add]
              rw [rd_t h (by omega) e1]
              simp only [obs]
              rw [if_neg (by decide)]
              rw [rd_t h (by omega) e2]
              simp only [obs]
              rw [if_neg (by decide)]
              rw [rd_t h (by omega) e3]
              simp only [obs]
              rw [if_neg (by decide)]
              rw [rd_t h (by omega) e4]
              simp only [obs]
              rw [if_neg (by decide)]
              rw [rdn_f h (by omega) e5]
              simp only [obs]
              rw [if_pos (by trivial)]
        · skip
          refine OC.fail (k' := k + 1 + 1 + 1 + 1) (fun K F S j l => ord_w h (by omega) ?_ K F S j l) (fun g s => ⟨g, ?_⟩) (by omega) (by omega)
          · rw [hw9]
            unfold fT_readWord
            show fT_readWord_2 FU c (nI len) (nI k) 5 (nI 0) = _
            rw [rw_t h (x := nI 99) (by unfold FU; omega) (by omega) (by decide) (by decide) e0]
            rw [rw_t h (x := nI 108) (by unfold FU; omega) (by omega) (by decide) (by decide) e1]
            rw [rw_t h (x := nI 101) (by unfold FU; omega) (by omega) (by decide) (by decide) e2]
            rw [rw_t h (x := nI 97) (by unfold FU; omega) (by omega) (by decide) (by decide) e3]
            rw [rw_f h (x := nI 114) (by unfold FU; omega) (by omega) (by decide) (by decide) e4]
          · unfold fM_readsOrder
            rw [sign_sp h (by omega), obs, e0]
            rw [if_pos (by decide)]
            simp only [jl_, nI_add]
            rw [rd_t h (by omega) e1]
            simp only [obs]
            rw [if_neg (by decide)]
            rw [rd_t h (by omega) e2]
            simp only [obs]
            rw [if_neg (by decide)]
            rw [rd_t h (by omega) e3]
            simp only [obs]
            rw [if_neg (by decide)]
            rw [rd_f h (by omega) e4]
            simp only [obs]
            rw [if_pos (by trivial)]
      · skip
        refine OC.fail (k' := k + 1 + 1 + 1) (fun K F S j l => ord_w h (by omega) ?_ K F S j l) (fun g s => ⟨g, ?_⟩) (by omega) (by omega)
        · rw [hw9]
          unfold fT_readWord
          show fT_readWord_2 FU c (nI len) (nI k) 5 (nI 0) = _
          rw [rw_t h (x := nI 99) (by unfold FU; omega) (by omega) (by decide) (by decide) e0]
          rw [rw_t h (x := nI 108) (by unfold FU; omega) (by omega) (by decide) (by decide) e1]
          rw [rw_t h (x := nI 101) (by unfold FU; omega) (by omega) (by decide) (by decide) e2]
          rw [rw_f h (x := nI 97) (by unfold FU; omega) (by omega) (by decide) (by decide) e3]
        · unfold fM_readsOrder
          rw [sign_sp h (by omega), obs, e0]
          rw [if_pos (by decide)]
          simp only [jl_, nI_add]
          rw [rd_t h (by omega) e1]
          simp only [obs]
          rw [if_neg (by decide)]
          rw [rd_t h (by omega) e2]
          simp only [obs]
          rw [if_neg (by decide)]
          rw [rd_f h (by omega) e3]
          simp only [obs]
          rw [if_pos (by trivial)]
    · skip
      refine OC.fail (k' := k + 1 + 1) (fun K F S j l => ord_w h (by omega) ?_ K F S j l) (fun g s => ⟨g, ?_⟩) (by omega) (by omega)
      · rw [hw9]
        unfold fT_readWord
        show fT_readWord_2 FU c (nI len) (nI k) 5 (nI 0) = _
        rw [rw_t h (x := nI 99) (by unfold FU; omega) (by omega) (by decide) (by decide) e0]
        rw [rw_t h (x := nI 108) (by unfold FU; omega) (by omega) (by decide) (by decide) e1]
        rw [rw_f h (x := nI 101) (by unfold FU; omega) (by omega) (by decide) (by decide) e2]
      · unfold fM_readsOrder
        rw [sign_sp h (by omega), obs, e0]
        rw [if_pos (by decide)]
        simp only [jl_, nI_add]
        rw [rd_t h (by omega) e1]
        simp only [obs]
        rw [if_neg (by decide)]
        rw [rd_f h (by omega) e2]
        simp only [obs]
        rw [if_pos (by trivial)]
  · skip
    refine OC.fail (k' := k + 1) (fun K F S j l => ord_w h (by omega) ?_ K F S j l) (fun g s => ⟨g, ?_⟩) (by omega) (by omega)
    · rw [hw9]
      unfold fT_readWord
      show fT_readWord_2 FU c (nI len) (nI k) 5 (nI 0) = _
      rw [rw_t h (x := nI 99) (by unfold FU; omega) (by omega) (by decide) (by decide) e0]
      rw [rw_f h (x := nI 108) (by unfold FU; omega) (by omega) (by decide) (by decide) e1]
    · unfold fM_readsOrder
      rw [sign_sp h (by omega), obs, e0]
      rw [if_pos (by decide)]
      simp only [jl_, nI_add]
      rw [rd_f h (by omega) e1]
      simp only [obs]
      rw [if_pos (by trivial)]
theorem order_i (h : TXr c c2 len) (hk : k ≤ len) (e0 : ch c len k = nI 105) : ∃ ok k' x y, OC c c2 len k ok k' x y := by
  have hl := h.1
  have hw9 : fT_wordOf (ch c len k) = 1 := by rw [e0]; rfl
  have p0 := ch_lt e0 (by omega)
  by_cases e1 : ch c len (k + 1) = nI 110
  · have p1 := ch_lt e1 (by omega)
    by_cases e2 : ch c len (k + 1 + 1) = nI 32
    · have p2 := ch_lt e2 (by omega)
      have hw : fT_readWord c (nI len) (nI k) (fT_wordOf (ch c len k)) = some (nI 1, nI (k + 1 + 1 + 1)) := by
        rw [hw9]
        unfold fT_readWord
        show fT_readWord_2 FU c (nI len) (nI k) 1 (nI 0) = _
        rw [rw_t h (x := nI 105) (by unfold FU; omega) (by omega) (by decide) (by decide) e0]
        rw [rw_t h (x := nI 110) (by unfold FU; omega) (by omega) (by decide) (by decide) e1]
        rw [rw_t h (x := nI 32) (by unfold FU; omega) (by omega) (by decide) (by decide) e2]
        rw [rw_e (by unfold FU; omega) (by decide) (by decide)]
      rcases num_cs h (by omega) e2 with ⟨v, k2, hv, q1, q2, n1, n2⟩ | ⟨n1, n2⟩
      · have hi := fun K F S j l => ord_i h (by omega) e0 hw n1 (by omega) K F S j l
        by_cases e9 : ch c len k2 = nI 32
        · have p9 := ch_lt e9 (by omega)
          rcases num_cs h (by omega) e9 with ⟨v3, k3, hv3, q3, q4, n3, n4⟩ | ⟨n3, n4⟩
          · refine OC.good (fun K F S j l hj => ⟨_, (hi K F S j l).2.2 k3 v3 e9 n3 hj⟩) (fun g s => ⟨up (up g 0 (nI v)) 1 (nI v3), ?_, by rw [up_ne (by omega), up_eq rfl], fun _ => up_eq rfl⟩) (by omega) q4 (by rw [e0]; unfold K6; decide) hv hv3
            unfold fM_readsOrder
            rw [sign_sp h (by omega), obs, e0]
            rw [if_neg (by decide), if_pos (by decide)]
            simp only [jl_, nI_add]
            rw [rd_t h (by omega) e1]
            simp only [obs]
            rw [if_neg (by decide)]
            rw [n2 g 0 (by omega)]
            simp only [obs]
            rw [if_neg (by decide), n4 _ 1 (by omega)]
            simp only [obs]
            rw [if_neg (by decide)]
          · refine OC.fail (fun K F S j l => ⟨_, (hi K F S j l).2.1 e9 n3⟩) (fun g s => ⟨up g 0 (nI v), ?_⟩) (by omega) (by omega)
            unfold fM_readsOrder
            rw [sign_sp h (by omega), obs, e0]
            rw [if_neg (by decide), if_pos (by decide)]
            simp only [jl_, nI_add]
            rw [rd_t h (by omega) e1]
            simp only [obs]
            rw [if_neg (by decide)]
            rw [n2 g 0 (by omega)]
            simp only [obs]
            rw [if_neg (by decide), n4 _ 1 (by omega)]
            simp only [obs]
            rw [if_pos (by trivial)]
        · refine OC.fail (fun K F S j l => ⟨_, (hi K F S j l).1 e9⟩) (fun g s => ⟨up g 0 (nI v), ?_⟩) (by omega) (by omega)
          unfold fM_readsOrder
          rw [sign_sp h (by omega), obs, e0]
          rw [if_neg (by decide), if_pos (by decide)]
          simp only [jl_, nI_add]
          rw [rd_t h (by omega) e1]
          simp only [obs]
          rw [if_neg (by decide)]
          rw [n2 g 0 (by omega)]
          simp only [obs]
          rw [if_neg (by decide), rdn_f h (by omega) e9]
          simp only [obs]
          rw [if_pos (by trivial)]
      · refine OC.fail (fun K F S j l => ord_n h (by omega) hw n1 K F S j l) (fun g s => ⟨g, ?_⟩) (by omega) (by omega)
        unfold fM_readsOrder
        rw [sign_sp h (by omega), obs, e0]
        rw [if_neg (by decide), if_pos (by decide)]
        simp only [jl_, nI_add]
        rw [rd_t h (by omega) e1]
        simp only [obs]
        rw [if_neg (by decide)]
        rw [n2 g 0 (by omega)]
        simp only [obs]
        rw [if_pos (by trivial)]
    · skip
      refine OC.fail (k' := k + 1 + 1) (fun K F S j l => ord_w h (by omega) ?_ K F S j l) (fun g s => ⟨g, ?_⟩) (by omega) (by omega)
      · rw [hw9]
        unfold fT_readWord
        show fT_readWord_2 FU c (nI len) (nI k) 1 (nI 0) = _
        rw [rw_t h (x := nI 105) (by unfold FU; omega) (by omega) (by decide) (by decide) e0]
        rw [rw_t h (x := nI 110) (by unfold FU; omega) (by omega) (by decide) (by decide) e1]
        rw [rw_f h (x := nI 32) (by unfold FU; omega) (by omega) (by decide) (by decide) e2]
      · unfold fM_readsOrder
        rw [sign_sp h (by omega), obs, e0]
        rw [if_neg (by decide), if_pos (by decide)]
        simp only [jl_, nI_add]
        rw [rd_t h (by omega) e1]
        simp only [obs]
        rw [if_neg (by decide)]
        rw [rdn_f h (by omega) e2]
        simp only [obs]
        rw [if_pos (by trivial)]
  · skip
    refine OC.fail (k' := k + 1) (fun K F S j l => ord_w h (by omega) ?_ K F S j l) (fun g s => ⟨g, ?_⟩) (by omega) (by omega)
    · rw [hw9]
      unfold fT_readWord
      show fT_readWord_2 FU c (nI len) (nI k) 1 (nI 0) = _
      rw [rw_t h (x := nI 105) (by unfold FU; omega) (by omega) (by decide) (by decide) e0]
      rw [rw_f h (x := nI 110) (by unfold FU; omega) (by omega) (by decide) (by decide) e1]
    · unfold fM_readsOrder
      rw [sign_sp h (by omega), obs, e0]
      rw [if_neg (by decide), if_pos (by decide)]
      simp only [jl_, nI_add]
      rw [rd_f h (by omega) e1]
      simp only [obs]
      rw [if_pos (by trivial)]
theorem order_m (h : TXr c c2 len) (hk : k ≤ len) (e0 : ch c len k = nI 109) : ∃ ok k' x y, OC c c2 len k ok k' x y := by
  have hl := h.1
  have hw9 : fT_wordOf (ch c len k) = 4 := by rw [e0]; rfl
  have p0 := ch_lt e0 (by omega)
  by_cases e1 : ch c len (k + 1) = nI 97
  · have p1 := ch_lt e1 (by omega)
    by_cases e2 : ch c len (k + 1 + 1) = nI 114
    · have p2 := ch_lt e2 (by omega)
      by_cases e3 : ch c len (k + 1 + 1 + 1) = nI 107
      · have p3 := ch_lt e3 (by omega)
        by_cases e4 : ch c len (k + 1 + 1 + 1 + 1) = nI 32
        · have p4 := ch_lt e4 (by omega)
          have hw : fT_readWord c (nI len) (nI k) (fT_wordOf (ch c len k)) = some (nI 1, nI (k + 1 + 1 + 1 + 1 + 1)) := by
            rw [hw9]
            unfold fT_readWord
            show fT_readWord_2 FU c (nI len) (nI k) 4 (nI 0) = _
            rw [rw_t h (x := nI 109) (by unfold FU; omega) (by omega) (by decide) (by decide) e0]
            rw [rw_t h (x := nI 97) (by unfold FU; omega) (by omega) (by decide) (by decide) e1]
            rw [rw_t h (x := nI 114) (by unfold FU; omega) (by omega) (by decide) (by decide) e2]
            rw [rw_t h (x := nI 107) (by unfold FU; omega) (by omega) (by decide) (by decide) e3]
            rw [rw_t h (x := nI 32) (by unfold FU; omega) (by omega) (by decide) (by decide) e4]
            rw [rw_e (by unfold FU; omega) (by decide) (by decide)]
          rcases num_cs h (by omega) e4 with ⟨v, k2, hv, q1, q2, n1, n2⟩ | ⟨n1, n2⟩
          · refine OC.good (fun K F S j l hj => ord_ok h (by omega) (by rw [e0]; decide) hw n1 K F S j l hj) (fun g s => ⟨up g 0 (nI v), ?_, up_eq rfl, fun z => absurd (e0.symm.trans z) (by decide)⟩) (by omega) q2 (by rw [e0]; unfold K6; decide) hv hv
            unfold fM_readsOrder
            rw [sign_sp h (by omega), obs, e0]
            rw [if_neg (by decide), if_neg (by decide), if_pos (by decide)]
            simp only [jl_, nI_add]
            rw [rd_t h (by omega) e1]
            simp only [obs]
            rw [if_neg (by decide)]
            rw [rd_t h (by omega) e2]
            simp only [obs]
            rw [if_neg (by decide)]
            rw [rd_t h (by omega) e3]
            simp only [obs]
            rw [if_neg (by decide)]
            rw [n2 g 0 (by omega)]
            simp only [obs]
            rw [if_neg (by decide)]
          · refine OC.fail (fun K F S j l => ord_n h (by omega) hw n1 K F S j l) (fun g s => ⟨g, ?_⟩) (by omega) (by omega)
            unfold fM_readsOrder
            rw [sign_sp h (by omega), obs, e0]
            rw [if_neg (by decide), if_neg (by decide), if_pos (by decide)]
            simp only [jl_, nI_add]
            rw [rd_t h (by omega) e1]
            simp only [obs]
            rw [if_neg (by decide)]
            rw [rd_t h (by omega) e2]
            simp only [obs]
            rw [if_neg (by decide)]
            rw [rd_t h (by omega) e3]
            simp only [obs]
            rw [if_neg (by decide)]
            rw [n2 g 0 (by omega)]
            simp only [obs]
            rw [if_pos (by trivial)]
        · skip
          refine OC.fail (k' := k + 1 + 1 + 1 + 1) (fun K F S j l => ord_w h (by omega) ?_ K F S j l) (fun g s => ⟨g, ?_⟩) (by omega) (by omega)
          · rw [hw9]
            unfold fT_readWord
            show fT_readWord_2 FU c (nI len) (nI k) 4 (nI 0) = _
            rw [rw_t h (x := nI 109) (by unfold FU; omega) (by omega) (by decide) (by decide) e0]
            rw [rw_t h (x := nI 97) (by unfold FU; omega) (by omega) (by decide) (by decide) e1]
            rw [rw_t h (x := nI 114) (by unfold FU; omega) (by omega) (by decide) (by decide) e2]
            rw [rw_t h (x := nI 107) (by unfold FU; omega) (by omega) (by decide) (by decide) e3]
            rw [rw_f h (x := nI 32) (by unfold FU; omega) (by omega) (by decide) (by decide) e4]
          · unfold fM_readsOrder
            rw [sign_sp h (by omega), obs, e0]
            rw [if_neg (by decide), if_neg (by decide), if_pos (by decide)]
            simp only [jl_, nI_add]
            rw [rd_t h (by omega) e1]
            simp only [obs]
            rw [if_neg (by decide)]
            rw [rd_t h (by omega) e2]
            simp only [obs]
            rw [if_neg (by decide)]
            rw [rd_t h (by omega) e3]
            simp only [obs]
            rw [if_neg (by decide)]
            rw [rdn_f h (by omega) e4]
            simp only [obs]
            rw [if_pos (by trivial)]
      · skip
        refine OC.fail (k' := k + 1 + 1 + 1) (fun K F S j l => ord_w h (by omega) ?_ K F S j l) (fun g s => ⟨g, ?_⟩) (by omega) (by omega)
        · rw [hw9]
          unfold fT_readWord
          show fT_readWord_2 FU c (nI len) (nI k) 4 (nI 0) = _
          rw [rw_t h (x := nI 109) (by unfold FU; omega) (by omega) (by decide) (by decide) e0]
          rw [rw_t h (x := nI 97) (by unfold FU; omega) (by omega) (by decide) (by decide) e1]
          rw [rw_t h (x := nI 114) (by unfold FU; omega) (by omega) (by decide) (by decide) e2]
          rw [rw_f h (x := nI 107) (by unfold FU; omega) (by omega) (by decide) (by decide) e3]
        · unfold fM_readsOrder
          rw [sign_sp h (by omega), obs, e0]
          rw [if_neg (by decide), if_neg (by decide), if_pos (by decide)]
          simp only [jl_, nI_add]
          rw [rd_t h (by omega) e1]
          simp only [obs]
          rw [if_neg (by decide)]
          rw [rd_t h (by omega) e2]
          simp only [obs]
          rw [if_neg (by decide)]
          rw [rd_f h (by omega) e3]
          simp only [obs]
          rw [if_pos (by trivial)]
    · skip
      refine OC.fail (k' := k + 1 + 1) (fun K F S j l => ord_w h (by omega) ?_ K F S j l) (fun g s => ⟨g, ?_⟩) (by omega) (by omega)
      · rw [hw9]
        unfold fT_readWord
        show fT_readWord_2 FU c (nI len) (nI k) 4 (nI 0) = _
        rw [rw_t h (x := nI 109) (by unfold FU; omega) (by omega) (by decide) (by decide) e0]
        rw [rw_t h (x := nI 97) (by unfold FU; omega) (by omega) (by decide) (by decide) e1]
        rw [rw_f h (x := nI 114) (by unfold FU; omega) (by omega) (by decide) (by decide) e2]
      · unfold fM_readsOrder
        rw [sign_sp h (by omega), obs, e0]
        rw [if_neg (by decide), if_neg (by decide), if_pos (by decide)]
        simp only [jl_, nI_add]
        rw [rd_t h (by omega) e1]
        simp only [obs]
        rw [if_neg (by decide)]
        rw [rd_f h (by omega) e2]
        simp only [obs]
        rw [if_pos (by trivial)]
  · skip
    refine OC.fail (k' := k + 1) (fun K F S j l => ord_w h (by omega) ?_ K F S j l) (fun g s => ⟨g, ?_⟩) (by omega) (by omega)
    · rw [hw9]
      unfold fT_readWord
      show fT_readWord_2 FU c (nI len) (nI k) 4 (nI 0) = _
      rw [rw_t h (x := nI 109) (by unfold FU; omega) (by omega) (by decide) (by decide) e0]
      rw [rw_f h (x := nI 97) (by unfold FU; omega) (by omega) (by decide) (by decide) e1]
    · unfold fM_readsOrder
      rw [sign_sp h (by omega), obs, e0]
      rw [if_neg (by decide), if_neg (by decide), if_pos (by decide)]
      simp only [jl_, nI_add]
      rw [rd_f h (by omega) e1]
      simp only [obs]
      rw [if_pos (by trivial)]
theorem order_o (h : TXr c c2 len) (hk : k ≤ len) (e0 : ch c len k = nI 111) : ∃ ok k' x y, OC c c2 len k ok k' x y := by
  have hl := h.1
  have hw9 : fT_wordOf (ch c len k) = 2 := by rw [e0]; rfl
  have p0 := ch_lt e0 (by omega)
  by_cases e1 : ch c len (k + 1) = nI 117
  · have p1 := ch_lt e1 (by omega)
    by_cases e2 : ch c len (k + 1 + 1) = nI 116
    · have p2 := ch_lt e2 (by omega)
      by_cases e3 : ch c len (k + 1 + 1 + 1) = nI 32
      · have p3 := ch_lt e3 (by omega)
        have hw : fT_readWord c (nI len) (nI k) (fT_wordOf (ch c len k)) = some (nI 1, nI (k + 1 + 1 + 1 + 1)) := by
          rw [hw9]
          unfold fT_readWord
          show fT_readWord_2 FU c (nI len) (nI k) 2 (nI 0) = _
          rw [rw_t h (x := nI 111) (by unfold FU; omega) (by omega) (by decide) (by decide) e0]
          rw [rw_t h (x := nI 117) (by unfold FU; omega) (by omega) (by decide) (by decide) e1]
          rw [rw_t h (x := nI 116) (by unfold FU; omega) (by omega) (by decide) (by decide) e2]
          rw [rw_t h (x := nI 32) (by unfold FU; omega) (by omega) (by decide) (by decide) e3]
          rw [rw_e (by unfold FU; omega) (by decide) (by decide)]
        rcases num_cs h (by omega) e3 with ⟨v, k2, hv, q1, q2, n1, n2⟩ | ⟨n1, n2⟩
        · refine OC.good (fun K F S j l hj => ord_ok h (by omega) (by rw [e0]; decide) hw n1 K F S j l hj) (fun g s => ⟨up g 0 (nI v), ?_, up_eq rfl, fun z => absurd (e0.symm.trans z) (by decide)⟩) (by omega) q2 (by rw [e0]; unfold K6; decide) hv hv
          unfold fM_readsOrder
          rw [sign_sp h (by omega), obs, e0]
          rw [if_neg (by decide), if_neg (by decide), if_neg (by decide), if_pos (by decide)]
          simp only [jl_, nI_add]
          rw [rd_t h (by omega) e1]
          simp only [obs]
          rw [if_neg (by decide)]
          rw [rd_t h (by omega) e2]
          simp only [obs]
          rw [if_neg (by decide)]
          rw [n2 g 0 (by omega)]
          simp only [obs]
          rw [if_neg (by decide)]
        · refine OC.fail (fun K F S j l => ord_n h (by omega) hw n1 K F S j l) (fun g s => ⟨g, ?_⟩) (by omega) (by omega)
          unfold fM_readsOrder
          rw [sign_sp h (by omega), obs, e0]
          rw [if_neg (by decide), if_neg (by decide), if_neg (by decide), if_pos (by decide)]
          simp only [jl_, nI_add]
          rw [rd_t h (by omega) e1]
          simp only [obs]
          rw [if_neg (by decide)]
          rw [rd_t h (by omega) e2]
          simp only [obs]
          rw [if_neg (by decide)]
          rw [n2 g 0 (by omega)]
          simp only [obs]
          rw [if_pos (by trivial)]
      · skip
        refine OC.fail (k' := k + 1 + 1 + 1) (fun K F S j l => ord_w h (by omega) ?_ K F S j l) (fun g s => ⟨g, ?_⟩) (by omega) (by omega)
        · rw [hw9]
          unfold fT_readWord
          show fT_readWord_2 FU c (nI len) (nI k) 2 (nI 0) = _
          rw [rw_t h (x := nI 111) (by unfold FU; omega) (by omega) (by decide) (by decide) e0]
          rw [rw_t h (x := nI 117) (by unfold FU; omega) (by omega) (by decide) (by decide) e1]
          rw [rw_t h (x := nI 116) (by unfold FU; omega) (by omega) (by decide) (by decide) e2]
          rw [rw_f h (x := nI 32) (by unfold FU; omega) (by omega) (by decide) (by decide) e3]
        · unfold fM_readsOrder
          rw [sign_sp h (by omega), obs, e0]
          rw [if_neg (by decide), if_neg (by decide), if_neg (by decide), if_pos (by decide)]
          simp only [jl_, nI_add]
          rw [rd_t h (by omega) e1]
          simp only [obs]
          rw [if_neg (by decide)]
          rw [rd_t h (by omega) e2]
          simp only [obs]
          rw [if_neg (by decide)]
          rw [rdn_f h (by omega) e3]
          simp only [obs]
          rw [if_pos (by trivial)]
    · skip
      refine OC.fail (k' := k + 1 + 1) (fun K F S j l => ord_w h (by omega) ?_ K F S j l) (fun g s => ⟨g, ?_⟩) (by omega) (by omega)
      · rw [hw9]
        unfold fT_readWord
        show fT_readWord_2 FU c (nI len) (nI k) 2 (nI 0) = _
        rw [rw_t h (x := nI 111) (by unfold FU; omega) (by omega) (by decide) (by decide) e0]
        rw [rw_t h (x := nI 117) (by unfold FU; omega) (by omega) (by decide) (by decide) e1]
        rw [rw_f h (x := nI 116) (by unfold FU; omega) (by omega) (by decide) (by decide) e2]
      · unfold fM_readsOrder
        rw [sign_sp h (by omega), obs, e0]
        rw [if_neg (by decide), if_neg (by decide), if_neg (by decide), if_pos (by decide)]
        simp only [jl_, nI_add]
        rw [rd_t h (by omega) e1]
        simp only [obs]
        rw [if_neg (by decide)]
        rw [rd_f h (by omega) e2]
        simp only [obs]
        rw [if_pos (by trivial)]
  · skip
    refine OC.fail (k' := k + 1) (fun K F S j l => ord_w h (by omega) ?_ K F S j l) (fun g s => ⟨g, ?_⟩) (by omega) (by omega)
    · rw [hw9]
      unfold fT_readWord
      show fT_readWord_2 FU c (nI len) (nI k) 2 (nI 0) = _
      rw [rw_t h (x := nI 111) (by unfold FU; omega) (by omega) (by decide) (by decide) e0]
      rw [rw_f h (x := nI 117) (by unfold FU; omega) (by omega) (by decide) (by decide) e1]
    · unfold fM_readsOrder
      rw [sign_sp h (by omega), obs, e0]
      rw [if_neg (by decide), if_neg (by decide), if_neg (by decide), if_pos (by decide)]
      simp only [jl_, nI_add]
      rw [rd_f h (by omega) e1]
      simp only [obs]
      rw [if_pos (by trivial)]
theorem order_p (h : TXr c c2 len) (hk : k ≤ len) (e0 : ch c len k = nI 112) : ∃ ok k' x y, OC c c2 len k ok k' x y := by
  have hl := h.1
  have hw9 : fT_wordOf (ch c len k) = 0 := by rw [e0]; rfl
  have p0 := ch_lt e0 (by omega)
  by_cases e1 : ch c len (k + 1) = nI 117
  · have p1 := ch_lt e1 (by omega)
    by_cases e2 : ch c len (k + 1 + 1) = nI 116
    · have p2 := ch_lt e2 (by omega)
      by_cases e3 : ch c len (k + 1 + 1 + 1) = nI 32
      · have p3 := ch_lt e3 (by omega)
        have hw : fT_readWord c (nI len) (nI k) (fT_wordOf (ch c len k)) = some (nI 1, nI (k + 1 + 1 + 1 + 1)) := by
          rw [hw9]
          unfold fT_readWord
          show fT_readWord_2 FU c (nI len) (nI k) 0 (nI 0) = _
          rw [rw_t h (x := nI 112) (by unfold FU; omega) (by omega) (by decide) (by decide) e0]
          rw [rw_t h (x := nI 117) (by unfold FU; omega) (by omega) (by decide) (by decide) e1]
          rw [rw_t h (x := nI 116) (by unfold FU; omega) (by omega) (by decide) (by decide) e2]
          rw [rw_t h (x := nI 32) (by unfold FU; omega) (by omega) (by decide) (by decide) e3]
          rw [rw_e (by unfold FU; omega) (by decide) (by decide)]
        rcases num_cs h (by omega) e3 with ⟨v, k2, hv, q1, q2, n1, n2⟩ | ⟨n1, n2⟩
        · refine OC.good (fun K F S j l hj => ord_ok h (by omega) (by rw [e0]; decide) hw n1 K F S j l hj) (fun g s => ⟨up g 0 (nI v), ?_, up_eq rfl, fun z => absurd (e0.symm.trans z) (by decide)⟩) (by omega) q2 (by rw [e0]; unfold K6; decide) hv hv
          unfold fM_readsOrder
          rw [sign_sp h (by omega), obs, e0]
          rw [if_neg (by decide), if_neg (by decide), if_neg (by decide), if_neg (by decide), if_pos (by decide)]
          simp only [jl_, nI_add]
          rw [rd_t h (by omega) e1]
          simp only [obs]
          rw [if_neg (by decide)]
          rw [rd_t h (by omega) e2]
          simp only [obs]
          rw [if_neg (by decide)]
          rw [n2 g 0 (by omega)]
          simp only [obs]
          rw [if_neg (by decide)]
        · refine OC.fail (fun K F S j l => ord_n h (by omega) hw n1 K F S j l) (fun g s => ⟨g, ?_⟩) (by omega) (by omega)
          unfold fM_readsOrder
          rw [sign_sp h (by omega), obs, e0]
          rw [if_neg (by decide), if_neg (by decide), if_neg (by decide), if_neg (by decide), if_pos (by decide)]
          simp only [jl_, nI_add]
          rw [rd_t h (by omega) e1]
          simp only [obs]
          rw [if_neg (by decide)]
          rw [rd_t h (by omega) e2]
          simp only [obs]
          rw [if_neg (by decide)]
          rw [n2 g 0 (by omega)]
          simp only [obs]
          rw [if_pos (by trivial)]
      · skip
        refine OC.fail (k' := k + 1 + 1 + 1) (fun K F S j l => ord_w h (by omega) ?_ K F S j l) (fun g s => ⟨g, ?_⟩) (by omega) (by omega)
        · rw [hw9]
          unfold fT_readWord
          show fT_readWord_2 FU c (nI len) (nI k) 0 (nI 0) = _
          rw [rw_t h (x := nI 112) (by unfold FU; omega) (by omega) (by decide) (by decide) e0]
          rw [rw_t h (x := nI 117) (by unfold FU; omega) (by omega) (by decide) (by decide) e1]
          rw [rw_t h (x := nI 116) (by unfold FU; omega) (by omega) (by decide) (by decide) e2]
          rw [rw_f h (x := nI 32) (by unfold FU; omega) (by omega) (by decide) (by decide) e3]
        · unfold fM_readsOrder
          rw [sign_sp h (by omega), obs, e0]
          rw [if_neg (by decide), if_neg (by decide), if_neg (by decide), if_neg (by decide), if_pos (by decide)]
          simp only [jl_, nI_add]
          rw [rd_t h (by omega) e1]
          simp only [obs]
          rw [if_neg (by decide)]
          rw [rd_t h (by omega) e2]
          simp only [obs]
          rw [if_neg (by decide)]
          rw [rdn_f h (by omega) e3]
          simp only [obs]
          rw [if_pos (by trivial)]
    · skip
      refine OC.fail (k' := k + 1 + 1) (fun K F S j l => ord_w h (by omega) ?_ K F S j l) (fun g s => ⟨g, ?_⟩) (by omega) (by omega)
      · rw [hw9]
        unfold fT_readWord
        show fT_readWord_2 FU c (nI len) (nI k) 0 (nI 0) = _
        rw [rw_t h (x := nI 112) (by unfold FU; omega) (by omega) (by decide) (by decide) e0]
        rw [rw_t h (x := nI 117) (by unfold FU; omega) (by omega) (by decide) (by decide) e1]
        rw [rw_f h (x := nI 116) (by unfold FU; omega) (by omega) (by decide) (by decide) e2]
      · unfold fM_readsOrder
        rw [sign_sp h (by omega), obs, e0]
        rw [if_neg (by decide), if_neg (by decide), if_neg (by decide), if_neg (by decide), if_pos (by decide)]
        simp only [jl_, nI_add]
        rw [rd_t h (by omega) e1]
        simp only [obs]
        rw [if_neg (by decide)]
        rw [rd_f h (by omega) e2]
        simp only [obs]
        rw [if_pos (by trivial)]
  · skip
    refine OC.fail (k' := k + 1) (fun K F S j l => ord_w h (by omega) ?_ K F S j l) (fun g s => ⟨g, ?_⟩) (by omega) (by omega)
    · rw [hw9]
      unfold fT_readWord
      show fT_readWord_2 FU c (nI len) (nI k) 0 (nI 0) = _
      rw [rw_t h (x := nI 112) (by unfold FU; omega) (by omega) (by decide) (by decide) e0]
      rw [rw_f h (x := nI 117) (by unfold FU; omega) (by omega) (by decide) (by decide) e1]
    · unfold fM_readsOrder
      rw [sign_sp h (by omega), obs, e0]
      rw [if_neg (by decide), if_neg (by decide), if_neg (by decide), if_neg (by decide), if_pos (by decide)]
      simp only [jl_, nI_add]
      rw [rd_f h (by omega) e1]
      simp only [obs]
      rw [if_pos (by trivial)]
theorem order_s (h : TXr c c2 len) (hk : k ≤ len) (e0 : ch c len k = nI 115) : ∃ ok k' x y, OC c c2 len k ok k' x y := by
  have hl := h.1
  have hw9 : fT_wordOf (ch c len k) = 3 := by rw [e0]; rfl
  have p0 := ch_lt e0 (by omega)
  by_cases e1 : ch c len (k + 1) = nI 119
  · have p1 := ch_lt e1 (by omega)
    by_cases e2 : ch c len (k + 1 + 1) = nI 97
    · have p2 := ch_lt e2 (by omega)
      by_cases e3 : ch c len (k + 1 + 1 + 1) = nI 112
      · have p3 := ch_lt e3 (by omega)
        by_cases e4 : ch c len (k + 1 + 1 + 1 + 1) = nI 32
        · have p4 := ch_lt e4 (by omega)
          have hw : fT_readWord c (nI len) (nI k) (fT_wordOf (ch c len k)) = some (nI 1, nI (k + 1 + 1 + 1 + 1 + 1)) := by
            rw [hw9]
            unfold fT_readWord
            show fT_readWord_2 FU c (nI len) (nI k) 3 (nI 0) = _
            rw [rw_t h (x := nI 115) (by unfold FU; omega) (by omega) (by decide) (by decide) e0]
            rw [rw_t h (x := nI 119) (by unfold FU; omega) (by omega) (by decide) (by decide) e1]
            rw [rw_t h (x := nI 97) (by unfold FU; omega) (by omega) (by decide) (by decide) e2]
            rw [rw_t h (x := nI 112) (by unfold FU; omega) (by omega) (by decide) (by decide) e3]
            rw [rw_t h (x := nI 32) (by unfold FU; omega) (by omega) (by decide) (by decide) e4]
            rw [rw_e (by unfold FU; omega) (by decide) (by decide)]
          rcases num_cs h (by omega) e4 with ⟨v, k2, hv, q1, q2, n1, n2⟩ | ⟨n1, n2⟩
          · refine OC.good (fun K F S j l hj => ord_ok h (by omega) (by rw [e0]; decide) hw n1 K F S j l hj) (fun g s => ⟨up g 0 (nI v), ?_, up_eq rfl, fun z => absurd (e0.symm.trans z) (by decide)⟩) (by omega) q2 (by rw [e0]; unfold K6; decide) hv hv
            unfold fM_readsOrder
            rw [sign_sp h (by omega), obs, e0]
            rw [if_neg (by decide), if_neg (by decide), if_neg (by decide), if_neg (by decide), if_neg (by decide), if_pos (by decide)]
            simp only [jl_, nI_add]
            rw [rd_t h (by omega) e1]
            simp only [obs]
            rw [if_neg (by decide)]
            rw [rd_t h (by omega) e2]
            simp only [obs]
            rw [if_neg (by decide)]
            rw [rd_t h (by omega) e3]
            simp only [obs]
            rw [if_neg (by decide)]
            rw [n2 g 0 (by omega)]
            simp only [obs]
            rw [if_neg (by decide)]
          · refine OC.fail (fun K F S j l => ord_n h (by omega) hw n1 K F S j l) (fun g s => ⟨g, ?_⟩) (by omega) (by omega)
            unfold fM_readsOrder
            rw [sign_sp h (by omega), obs, e0]
            rw [if_neg (by decide), if_neg (by decide), if_neg (by decide), if_neg (by decide), if_neg (by decide), if_pos (by decide)]
            simp only [jl_, nI_add]
            rw [rd_t h (by omega) e1]
            simp only [obs]
            rw [if_neg (by decide)]
            rw [rd_t h (by omega) e2]
            simp only [obs]
            rw [if_neg (by decide)]
            rw [rd_t h (by omega) e3]
            simp only [obs]
            rw [if_neg (by decide)]
            rw [n2 g 0 (by omega)]
            simp only [obs]
            rw [if_pos (by trivial)]
        · skip
          refine OC.fail (k' := k + 1 + 1 + 1 + 1) (fun K F S j l => ord_w h (by omega) ?_ K F S j l) (fun g s => ⟨g, ?_⟩) (by omega) (by omega)
          · rw [hw9]
            unfold fT_readWord
            show fT_readWord_2 FU c (nI len) (nI k) 3 (nI 0) = _
            rw [rw_t h (x := nI 115) (by unfold FU; omega) (by omega) (by decide) (by decide) e0]
            rw [rw_t h (x := nI 119) (by unfold FU; omega) (by omega) (by decide) (by decide) e1]
            rw [rw_t h (x := nI 97) (by unfold FU; omega) (by omega) (by decide) (by decide) e2]
            rw [rw_t h (x := nI 112) (by unfold FU; omega) (by omega) (by decide) (by decide) e3]
            rw [rw_f h (x := nI 32) (by unfold FU; omega) (by omega) (by decide) (by decide) e4]
          · unfold fM_readsOrder
            rw [sign_sp h (by omega), obs, e0]
            rw [if_neg (by decide), if_neg (by decide), if_neg (by decide), if_neg (by decide), if_neg (by decide), if_pos (by decide)]
            simp only [jl_, nI_add]
            rw [rd_t h (by omega) e1]
            simp only [obs]
            rw [if_neg (by decide)]
            rw [rd_t h (by omega) e2]
            simp only [obs]
            rw [if_neg (by decide)]
            rw [rd_t h (by omega) e3]
            simp only [obs]
            rw [if_neg (by decide)]
            rw [rdn_f h (by omega) e4]
            simp only [obs]
            rw [if_pos (by trivial)]
      · skip
        refine OC.fail (k' := k + 1 + 1 + 1) (fun K F S j l => ord_w h (by omega) ?_ K F S j l) (fun g s => ⟨g, ?_⟩) (by omega) (by omega)
        · rw [hw9]
          unfold fT_readWord
          show fT_readWord_2 FU c (nI len) (nI k) 3 (nI 0) = _
          rw [rw_t h (x := nI 115) (by unfold FU; omega) (by omega) (by decide) (by decide) e0]
          rw [rw_t h (x := nI 119) (by unfold FU; omega) (by omega) (by decide) (by decide) e1]
          rw [rw_t h (x := nI 97) (by unfold FU; omega) (by omega) (by decide) (by decide) e2]
          rw [rw_f h (x := nI 112) (by unfold FU; omega) (by omega) (by decide) (by decide) e3]
        · unfold fM_readsOrder
          rw [sign_sp h (by omega), obs, e0]
          rw [if_neg (by decide), if_neg (by decide), if_neg (by decide), if_neg (by decide), if_neg (by decide), if_pos (by decide)]
          simp only [jl_, nI_add]
          rw [rd_t h (by omega) e1]
          simp only [obs]
          rw [if_neg (by decide)]
          rw [rd_t h (by omega) e2]
          simp only [obs]
          rw [if_neg (by decide)]
          rw [rd_f h (by omega) e3]
          simp only [obs]
          rw [if_pos (by trivial)]
    · skip
      refine OC.fail (k' := k + 1 + 1) (fun K F S j l => ord_w h (by omega) ?_ K F S j l) (fun g s => ⟨g, ?_⟩) (by omega) (by omega)
      · rw [hw9]
        unfold fT_readWord
        show fT_readWord_2 FU c (nI len) (nI k) 3 (nI 0) = _
        rw [rw_t h (x := nI 115) (by unfold FU; omega) (by omega) (by decide) (by decide) e0]
        rw [rw_t h (x := nI 119) (by unfold FU; omega) (by omega) (by decide) (by decide) e1]
        rw [rw_f h (x := nI 97) (by unfold FU; omega) (by omega) (by decide) (by decide) e2]
      · unfold fM_readsOrder
        rw [sign_sp h (by omega), obs, e0]
        rw [if_neg (by decide), if_neg (by decide), if_neg (by decide), if_neg (by decide), if_neg (by decide), if_pos (by decide)]
        simp only [jl_, nI_add]
        rw [rd_t h (by omega) e1]
        simp only [obs]
        rw [if_neg (by decide)]
        rw [rd_f h (by omega) e2]
        simp only [obs]
        rw [if_pos (by trivial)]
  · skip
    refine OC.fail (k' := k + 1) (fun K F S j l => ord_w h (by omega) ?_ K F S j l) (fun g s => ⟨g, ?_⟩) (by omega) (by omega)
    · rw [hw9]
      unfold fT_readWord
      show fT_readWord_2 FU c (nI len) (nI k) 3 (nI 0) = _
      rw [rw_t h (x := nI 115) (by unfold FU; omega) (by omega) (by decide) (by decide) e0]
      rw [rw_f h (x := nI 119) (by unfold FU; omega) (by omega) (by decide) (by decide) e1]
    · unfold fM_readsOrder
      rw [sign_sp h (by omega), obs, e0]
      rw [if_neg (by decide), if_neg (by decide), if_neg (by decide), if_neg (by decide), if_neg (by decide), if_pos (by decide)]
      simp only [jl_, nI_add]
      rw [rd_f h (by omega) e1]
      simp only [obs]
      rw [if_pos (by trivial)]
theorem order_x (h : TXr c c2 len) (hk : k ≤ len) (e0 : ¬ K6 (ch c len k)) : ∃ ok k' x y, OC c c2 len k ok k' x y := by
  have hl := h.1
  have n1 : ch c len k ≠ 99 := fun e => e0 (Or.inl e)
  have n2 : ch c len k ≠ 105 := fun e => e0 (Or.inr (Or.inl e))
  have n3 : ch c len k ≠ 109 := fun e => e0 (Or.inr (Or.inr (Or.inl e)))
  have n4 : ch c len k ≠ 111 := fun e => e0 (Or.inr (Or.inr (Or.inr (Or.inl e))))
  have n5 : ch c len k ≠ 112 := fun e => e0 (Or.inr (Or.inr (Or.inr (Or.inr (Or.inl e)))))
  have n6 : ch c len k ≠ 115 := fun e => e0 (Or.inr (Or.inr (Or.inr (Or.inr (Or.inr e)))))
  have hw9 : fT_wordOf (ch c len k) = 6 := by
    unfold fT_wordOf
    rw [if_neg n1, if_neg n2, if_neg n3, if_neg n4, if_neg n5, if_neg n6]
  refine OC.fail (k' := k) (fun K F S j l => ord_w h (by omega) ?_ K F S j l) (fun g s => ⟨g, ?_⟩) (Nat.le_refl _) hk
  · rw [hw9]
    unfold fT_readWord
    rw [show FU = 3999 + 1 from rfl, fT_readWord_2, if_pos (by decide), if_neg (by decide)]
    rfl
  · unfold fM_readsOrder
    rw [sign_sp h (by omega), obs, if_neg n1, if_neg n2, if_neg n3, if_neg n4, if_neg n5, if_neg n6]
    simp only [jl_, nI_add]
    rw [pk_sub (by omega), Nat.add_sub_cancel]
theorem order_ex (h : TXr c c2 len) (hk : k ≤ len) : ∃ ok k' x y, OC c c2 len k ok k' x y := by
  by_cases e : K6 (ch c len k)
  · rcases e with e | e | e | e | e | e
    · exact order_c h hk e
    · exact order_i h hk e
    · exact order_m h hk e
    · exact order_o h hk e
    · exact order_p h hk e
    · exact order_s h hk e
  · exact order_x h hk e
end T
