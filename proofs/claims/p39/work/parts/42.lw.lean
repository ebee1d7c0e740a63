/-! the letters of the class beside those of the reference -/
theorem cn_r (f : Nat → Bool) (k d : Nat) : cn f k (d + 1) = cn f k d + if f (k + d) then 1 else 0 := by
  unfold cn
  rw [List.range'_concat, List.countP_append]
  simp
theorem cn_mono (f : Nat → Bool) (k : Nat) {x y : Nat} (h : x ≤ y) : cn f k x ≤ cn f k y := by
  obtain ⟨d, rfl⟩ : ∃ d, y = x + d := ⟨y - x, by omega⟩
  induction d with
  | zero => exact Nat.le_refl _
  | succ d ih =>
    rw [← Nat.add_assoc, cn_r]
    have := ih (by omega)
    omega
theorem sm_r (f : Nat → Nat) (k d : Nat) : sm f k (d + 1) = sm f k d + f (k + d) := by
  unfold sm
  rw [List.range'_concat, List.map_append, List.sum_append]
  simp
theorem cn_congr {f g : Nat → Bool} {k d : Nat} (h : ∀ p, k ≤ p → p < k + d → f p = g p) : cn f k d = cn g k d := by
  unfold cn
  refine List.countP_congr (fun p hp => ?_)
  rw [List.mem_range'_1] at hp
  rw [h p hp.1 hp.2]
def MK (mk : Nat → Bool) : List Bool := (List.range' 0 64).map mk
theorem MK_len (mk : Nat → Bool) : (MK mk).length = 64 := by unfold MK; rw [List.length_map, List.length_range']
theorem MK_get (mk : Nat → Bool) {k : Nat} (h : k < 64) : (MK mk).getD k false = mk k := by
  unfold MK
  simp [List.getD, List.getElem?_map, List.getElem?_range' h]
theorem MK_get2 (mk : Nat → Bool) {k : Nat} (h : 64 ≤ k) : (MK mk).getD k false = false := by
  have : (MK mk)[k]? = none := List.getElem?_eq_none (by rw [MK_len]; exact h)
  simp [List.getD, this]
theorem MK_cn (mk : Nat → Bool) : (MK mk).countP id = cn mk 0 64 := by
  unfold MK cn
  rw [List.countP_map]
  rfl
def upB (f : Nat → Bool) (k : Nat) (b : Bool) : Nat → Bool := fun j => if j = k then b else f j
theorem MK_flip {mk : Nat → Bool} {k : Nat} (h : k < 64) : bin (MK mk) ^^^ 2 ^ k = bin (MK (upB mk k (!mk k))) := by
  apply Nat.eq_of_testBit_eq
  intro i
  rw [fb_bit_flip, bin_testBit, bin_testBit]
  by_cases hi : i < 64
  · rw [MK_get _ hi, MK_get _ hi]
    unfold upB
    by_cases c : i = k
    · subst c; simp
    · simp [c]
  · rw [MK_get2 _ (by omega), MK_get2 _ (by omega)]
    simp [show ¬ i = k by omega]
def LW (L : TL) (w : Nat → Int32) (n : Nat) (a : Nat → Nat) (mk : Nat → Bool) : Prop :=
  MW w n a ∧ L.2.1 = nI n ∧ (∀ k, k < n → L.1 k = nI (a k)) ∧ L.2.2.1 = lN (bin (MK mk)) ∧ mk 0 = false ∧ (∀ k, 1 ≤ k → k < 64 → w (68 + k) = bI (mk k)) ∧ L.2.2.2.1 = w 1 ∧ L.2.2.2.2.1 = w 2 ∧ L.2.2.2.2.2 = w 3
theorem bI_eq {a b : Bool} : bI a = bI b ↔ a = b := by cases a <;> cases b <;> decide
theorem bI0 {b : Bool} : (bI b = 0) ↔ b = false := by cases b <;> decide
theorem mkPlace_sp (k : Nat) (h : k < 2147483648) : fS_isMarkPlace (nI k) = bI (decide (1 ≤ k ∧ k < 64)) := by
  unfold fS_isMarkPlace
  by_cases c : 1 ≤ k ∧ k < 64
  · rw [decide_eq_true c]
    simp (disch := omega) only [jl_, nI_add, pk_sub, pk_mul, j_neg, jlt_t, jlt_f, jle_t, jle_f, jeq_t, jeq_f, jld, jst, obs, j_div, ↓reduceIte, if_true, if_false, Nat.add_zero, Nat.sub_zero, Nat.add_sub_cancel_left]
    rfl
  · rw [decide_eq_false c]
    by_cases c1 : k < 1
    · simp (disch := omega) only [jl_, nI_add, pk_sub, pk_mul, j_neg, jlt_t, jlt_f, jle_t, jle_f, jeq_t, jeq_f, jld, jst, obs, j_div, ↓reduceIte, if_true, if_false, Nat.add_zero, Nat.sub_zero, Nat.add_sub_cancel_left]
      rfl
    · simp (disch := omega) only [jl_, nI_add, pk_sub, pk_mul, j_neg, jlt_t, jlt_f, jle_t, jle_f, jeq_t, jeq_f, jld, jst, obs, j_div, ↓reduceIte, if_true, if_false, Nat.add_zero, Nat.sub_zero, Nat.add_sub_cancel_left]
      rfl
theorem mkPlace_n {x : Int32} (h : x < 0) : fS_isMarkPlace x = nI 0 := by
  unfold fS_isMarkPlace
  simp only [jl_]
  rw [if_pos (jnn_lt h (show 1 < 2147483648 by omega))]
theorem isMarked_sp {M : Int64} {mk : Nat → Bool} (hM : M = lN (bin (MK mk))) {k : Nat} (h1 : 1 ≤ k) (h : k < 64) : fL_isMarkedAt M (nI k) = bI (mk k) := by
  subst hM
  unfold fL_isMarkedAt
  rw [mkPlace_sp k (by omega), decide_eq_true (show 1 ≤ k ∧ k < 64 from ⟨h1, h⟩), if_neg (by decide), jb_bit (by rw [MK_len]; omega) h, MK_get _ h]
  cases mk k <;> decide
theorem isMarked_0 {M : Int64} {x : Int32} (h : fS_isMarkPlace x = nI 0) : fL_isMarkedAt M x = nI 0 := by
  unfold fL_isMarkedAt
  simp only [jl_]
  rw [if_pos h]
theorem marked_sp {M : Int64} {mk : Nat → Bool} (hM : M = lN (bin (MK mk))) : fL_marked M = nI (cn mk 0 64) := by
  subst hM
  unfold fL_marked
  rw [jb_all (by rw [MK_len]; omega), MK_cn]
theorem setMark_sp {M : Int64} {mk : Nat → Bool} (hM : M = lN (bin (MK mk))) {k : Nat} (h1 : 1 ≤ k) (h : k < 64) (b : Bool) (hb : mk k ≠ b) : fL_setMark M (nI k) (bI b) = some (nI 1, lN (bin (MK (upB mk k b)))) := by
  unfold fL_setMark
  rw [isMarked_sp hM h1 h, mkPlace_sp k (by omega), decide_eq_true (show 1 ≤ k ∧ k < 64 from ⟨h1, h⟩), if_neg (by decide), if_neg (fun e => hb (bI_eq.mp e)), hM, show (1 : Int64) = lN 1 from rfl, wb_shl 1 h, Nat.one_mul, fb_xorL, MK_flip h]
  have : (!mk k) = b := by cases hh : mk k <;> cases b <;> simp_all
  rw [this]
  rfl
theorem setMark_f {M : Int64} {mk : Nat → Bool} (hM : M = lN (bin (MK mk))) {k : Nat} (h1 : 1 ≤ k) (h : k < 64) (b : Bool) (hb : mk k = b) : fL_setMark M (nI k) (bI b) = some (nI 0, M) := by
  unfold fL_setMark
  rw [isMarked_sp hM h1 h, mkPlace_sp k (by omega), decide_eq_true (show 1 ≤ k ∧ k < 64 from ⟨h1, h⟩), if_neg (by decide), if_pos (by rw [hb])]
  rfl
theorem setMark_n {M : Int64} {x b : Int32} (h : fS_isMarkPlace x = nI 0) : fL_setMark M x b = some (nI 0, M) := by
  unfold fL_setMark
  simp only [jl_]
  rw [if_pos h]
/-! the letters change -/
theorem lay_sp {w : Nat → Int32} {k : Nat} {x : Int32} (h : k < 64) : fL_lay w (nI k) x = some (up w k x) := by
  unfold fL_lay
  simp (disch := omega) only [jl_, nI_add, pk_sub, pk_mul, j_neg, jlt_t, jlt_f, jle_t, jle_f, jeq_t, jeq_f, jld, jst, obs, j_div, ↓reduceIte, if_true, if_false, Nat.add_zero, Nat.sub_zero, Nat.add_sub_cancel_left]
def insf {α : Type} (f : Nat → α) (p k : Nat) (x : α) : Nat → α := fun j => if j < p then f j else if j = p then x else if j ≤ k then f (j - 1) else f j
theorem insf_0 {α : Type} (f : Nat → α) (p : Nat) (x : α) (j : Nat) : up f p x j = insf f p p x j := by
  unfold insf
  by_cases c1 : j < p
  · rw [if_pos c1, up_ne (by omega)]
  · rw [if_neg c1]
    by_cases c2 : j = p
    · rw [if_pos c2, up_eq c2]
    · rw [if_neg c2, up_ne c2, if_neg (by omega)]
theorem insf_step {α : Type} (f : Nat → α) {p k : Nat} (x : α) (h : p < k) (j : Nat) : insf (up f k (f (k - 1))) p (k - 1) x j = insf f p k x j := by
  unfold insf
  by_cases c1 : j < p
  · rw [if_pos c1, if_pos c1, up_ne (by omega)]
  · rw [if_neg c1, if_neg c1]
    by_cases c2 : j = p
    · rw [if_pos c2, if_pos c2]
    · rw [if_neg c2, if_neg c2]
      by_cases c3 : j ≤ k - 1
      · rw [if_pos c3, if_pos (show j ≤ k by omega), up_ne (by omega)]
      · rw [if_neg c3]
        by_cases c4 : j = k
        · rw [if_pos (show j ≤ k by omega), up_eq c4, c4]
        · rw [if_neg (show ¬ j ≤ k by omega), up_ne c4]
theorem insf_map {f : Nat → Int32} {a : Nat → Nat} {p n x : Nat} (h : ∀ i, i < n → f i = nI (a i)) (hp : p ≤ n) {k : Nat} (hk : k < n + 1) : insf f p n (nI x) k = nI (insf a p n x k) := by
  unfold insf
  by_cases c1 : k < p
  · rw [if_pos c1, if_pos c1, h k (by omega)]
  · rw [if_neg c1, if_neg c1]
    by_cases c2 : k = p
    · rw [if_pos c2, if_pos c2]
    · rw [if_neg c2, if_neg c2, if_pos (by omega), if_pos (by omega), h (k - 1) (by omega)]
theorem insf_lt {a : Nat → Nat} {p n x c : Nat} (h : ∀ i, i < n → a i < c) (hx : x < c) (hp : p ≤ n) {k : Nat} (hk : k < n + 1) : insf a p n x k < c := by
  unfold insf
  by_cases c1 : k < p
  · rw [if_pos c1]; exact h k (by omega)
  · rw [if_neg c1]
    by_cases c2 : k = p
    · rw [if_pos c2]; exact hx
    · rw [if_neg c2, if_pos (by omega)]; exact h (k - 1) (by omega)
theorem up_sh (w : Nat → Int32) (k : Nat) (y : Int32) : (fun i => up w (4 + k) y (4 + i)) = up (fun i => w (4 + i)) k y := by
  funext i
  by_cases c : i = k
  · rw [up_eq c, up_eq (by omega)]
  · rw [up_ne c, up_ne (by omega)]
theorem come_33 {size came x : Int32} {p : Nat} (hp : p < 64) : ∀ d k m (w : Nat → Int32), k = p + d → d < m → k < 64 → ∃ w', fL_come_33 m w size came (nI p) x (nI k) = some (nI 1, w', size + nI 1, came + nI 1) ∧ ∀ j, w' j = insf w p k x j := by
  intro d
  induction d with
  | zero =>
    intro k m w h1 h2 h3
    obtain ⟨m, rfl⟩ : ∃ q, m = q + 1 := ⟨m - 1, by omega⟩
    have e : k = p := by omega
    subst e
    refine ⟨up w k x, ?_, fun j => insf_0 _ _ _ _⟩
    rw [fL_come_33, lay_sp hp]
    simp (disch := omega) only [jl_, nI_add, pk_sub, pk_mul, j_neg, jlt_t, jlt_f, jle_t, jle_f, jeq_t, jeq_f, jld, jst, obs, j_div, ↓reduceIte, if_true, if_false, Nat.add_zero, Nat.sub_zero, Nat.add_sub_cancel_left]
  | succ d ih =>
    intro k m w h1 h2 h3
    obtain ⟨m, rfl⟩ : ∃ q, m = q + 1 := ⟨m - 1, by omega⟩
    obtain ⟨w', e, a1⟩ := ih (k - 1) m (up w k (w (k - 1))) (by omega) (by omega) (by omega)
    refine ⟨w', ?_, fun j => by rw [a1 j, insf_step _ _ (by omega)]⟩
    rw [fL_come_33]
    simp (disch := omega) only [jl_, pk_sub, jle_f]
    rw [at_sp (by omega)]
    simp only [obs]
    rw [lay_sp (by omega)]
    simp only [obs]
    rw [show nI k + -nI 1 = nI (k - 1) from j_neg (by omega)]
    exact e
theorem comes_7 {x : Int32} {p : Nat} : ∀ d k m (w : Nat → Int32), k = p + d → d < m → k < 64 → ∃ w', fM_comes_7 m w (nI p) x (nI k) = some w' ∧ w' 0 = w 0 + nI 1 ∧ w' 1 = w 1 + nI 1 ∧ w' 2 = w 2 ∧ w' 3 = w 3 ∧ ∀ j, w' (4 + j) = insf (fun i => w (4 + i)) p k x j := by
  intro d
  induction d with
  | zero =>
    intro k m w h1 h2 h3
    obtain ⟨m, rfl⟩ : ∃ q, m = q + 1 := ⟨m - 1, by omega⟩
    have e : k = p := by omega
    subst e
    refine ⟨up (up (up w (4 + k) x) 0 (w 0 + nI 1)) 1 (w 1 + nI 1), ?_, ?_, ?_, ?_, ?_, fun j => ?_⟩
    · rw [fM_comes_7]
      simp (disch := omega) only [jl_, nI_add, pk_sub, pk_mul, j_neg, jlt_t, jlt_f, jle_t, jle_f, jeq_t, jeq_f, jld, jst, obs, j_div, ↓reduceIte, if_true, if_false, Nat.add_zero, Nat.sub_zero, Nat.add_sub_cancel_left]
      rw [up_ne (show (0 : Nat) ≠ 4 + k by omega), up_ne (show (1 : Nat) ≠ 0 by omega), up_ne (show (1 : Nat) ≠ 4 + k by omega)]
    · rw [up_ne (by omega), up_eq rfl]
    · rw [up_eq rfl]
    · rw [up_ne (by omega), up_ne (by omega), up_ne (by omega)]
    · rw [up_ne (by omega), up_ne (by omega), up_ne (by omega)]
    · rw [up_ne (by omega), up_ne (by omega), ← insf_0, ← up_sh]
  | succ d ih =>
    intro k m w h1 h2 h3
    obtain ⟨m, rfl⟩ : ∃ q, m = q + 1 := ⟨m - 1, by omega⟩
    obtain ⟨w', e, a1, a2, a3, a4, a5⟩ := ih (k - 1) m (up w (4 + k) (w (4 + (k - 1)))) (by omega) (by omega) (by omega)
    refine ⟨w', ?_, by rw [a1, up_ne (by omega)], by rw [a2, up_ne (by omega)], by rw [a3, up_ne (by omega)], by rw [a4, up_ne (by omega)], fun j => ?_⟩
    · rw [fM_comes_7]
      simp (disch := omega) only [jl_, nI_add, pk_sub, pk_mul, j_neg, jlt_t, jlt_f, jle_t, jle_f, jeq_t, jeq_f, jld, jst, obs, j_div, ↓reduceIte, if_true, if_false, Nat.add_zero, Nat.sub_zero, Nat.add_sub_cancel_left]
      rw [show 4 + k - 1 = 4 + (k - 1) by omega]
      exact e
    · rw [a5 j, up_sh w k (w (4 + (k - 1))), ← insf_step _ _ (show p < k by omega)]
theorem LW.come {L : TL} {w : Nat → Int32} {n : Nat} {a : Nat → Nat} {mk : Nat → Bool} (h : LW L w n a mk) {p x : Nat} (hp : p ≤ n) (hx : x < 32) (hn : n < 64) :
    ∃ W' w', fL_come L.1 L.2.1 L.2.2.2.1 (nI p) (nI x) = some (nI 1, W', nI (n + 1), L.2.2.2.1 + nI 1) ∧ fM_comes w (nI p) (nI x) = some w' ∧ LW (W', nI (n + 1), L.2.2.1, L.2.2.2.1 + nI 1, L.2.2.2.2) w' (n + 1) (insf a p n x) mk := by
  obtain ⟨hM, h1, h2, h3, h4, h5, h6, h7, h8⟩ := h
  obtain ⟨W', e1, b1⟩ := come_33 (size := nI n) (came := L.2.2.2.1) (x := nI x) (show p < 64 by omega) (n - p) n FU L.1 (by omega) (fu_lt (by omega)) hn
  obtain ⟨w', e2, c0, c1, c2, c3, c4⟩ := comes_7 (x := nI x) (p := p) (n - p) n FU w (by omega) (fu_lt (by omega)) hn
  refine ⟨W', w', ?_, ?_, ⟨⟨by omega, fun k hk => insf_lt hM.2.1 hx hp hk, ?_, fun k hk => ?_⟩, rfl, fun k hk => ?_, h3, h4, fun k hk1 hk2 => ?_, ?_, ?_, ?_⟩⟩
  · unfold fL_come fL_isFull
    rw [h1, isWeight_t hx]
    simp (disch := omega) only [jl_, nI_add, pk_sub, pk_mul, j_neg, jlt_t, jlt_f, jle_t, jle_f, jeq_t, jeq_f, jld, jst, obs, j_div, ↓reduceIte, if_true, if_false, Nat.add_zero, Nat.sub_zero, Nat.add_sub_cancel_left]
    rw [nI_add] at e1
    exact e1
  · unfold fM_comes
    simp (disch := omega) only [jl_, nI_add, pk_sub, pk_mul, j_neg, jlt_t, jlt_f, jle_t, jle_f, jeq_t, jeq_f, jld, jst, obs, j_div, ↓reduceIte, if_true, if_false, Nat.add_zero, Nat.sub_zero, Nat.add_sub_cancel_left]
    rw [hM.2.2.1]
    exact e2
  · rw [c0, hM.2.2.1, nI_add]
  · rw [c4 k]
    exact insf_map hM.2.2.2 hp hk
  · show W' k = _
    rw [b1 k]
    exact insf_map h2 hp hk
  · have := c4 (64 + k)
    rw [show 68 + k = 4 + (64 + k) by omega, this]
    unfold insf
    rw [if_neg (by omega), if_neg (by omega), if_neg (by omega), ← h5 k hk1 hk2]
    exact congrArg w (by omega)
  · show L.2.2.2.1 + nI 1 = w' 1
    rw [c1, h6]
  · show L.2.2.2.2.1 = w' 2
    rw [c2, h7]
  · show L.2.2.2.2.2 = w' 3
    rw [c3, h8]
def delf {α : Type} (f : Nat → α) (p e : Nat) : Nat → α := fun j => if p ≤ j ∧ j < e then f (j + 1) else f j
theorem delf_0 {α : Type} (f : Nat → α) (p j : Nat) : f j = delf f p p j := by
  unfold delf
  rw [if_neg (by omega)]
theorem delf_step {α : Type} (f : Nat → α) {k e : Nat} (h : k < e) (j : Nat) : delf (up f k (f (k + 1))) (k + 1) e j = delf f k e j := by
  unfold delf
  by_cases c1 : k + 1 ≤ j ∧ j < e
  · rw [if_pos c1, if_pos (by omega), up_ne (by omega)]
  · rw [if_neg c1]
    by_cases c2 : j = k
    · rw [if_pos (by omega), up_eq c2, c2]
    · rw [if_neg (by omega), up_ne c2]
theorem delf_map {f : Nat → Int32} {a : Nat → Nat} {p n : Nat} (h : ∀ i, i < n → f i = nI (a i)) {k : Nat} (hk : k < n - 1) : delf f p (n - 1) k = nI (delf a p (n - 1) k) := by
  unfold delf
  by_cases c : p ≤ k ∧ k < n - 1
  · rw [if_pos c, if_pos c, h (k + 1) (by omega)]
  · rw [if_neg c, if_neg c, h k (by omega)]
theorem delf_lt {a : Nat → Nat} {p n c : Nat} (h : ∀ i, i < n → a i < c) {k : Nat} (hk : k < n - 1) : delf a p (n - 1) k < c := by
  unfold delf
  by_cases c : p ≤ k ∧ k < n - 1
  · rw [if_pos c]; exact h (k + 1) (by omega)
  · rw [if_neg c]; exact h k (by omega)
theorem leave_12 {left : Int32} {n : Nat} (hn : n ≤ 64) (hn1 : 1 ≤ n) : ∀ d k m (w : Nat → Int32), k + d = n - 1 → d < m → ∃ w', fL_leave_12 m w (nI n) left (nI k) = some (nI 1, w', nI (n - 1), left + nI 1) ∧ ∀ j, w' j = delf w k (n - 1) j := by
  intro d
  induction d with
  | zero =>
    intro k m w h1 h2
    obtain ⟨m, rfl⟩ : ∃ q, m = q + 1 := ⟨m - 1, by omega⟩
    refine ⟨w, ?_, fun j => ?_⟩
    · rw [fL_leave_12]
      simp (disch := omega) only [jl_, nI_add, pk_sub, pk_mul, j_neg, jlt_t, jlt_f, jle_t, jle_f, jeq_t, jeq_f, jld, jst, obs, j_div, ↓reduceIte, if_true, if_false, Nat.add_zero, Nat.sub_zero, Nat.add_sub_cancel_left]
    · rw [show k = n - 1 by omega]
      exact delf_0 _ _ _
  | succ d ih =>
    intro k m w h1 h2
    obtain ⟨m, rfl⟩ : ∃ q, m = q + 1 := ⟨m - 1, by omega⟩
    obtain ⟨w', e, a1⟩ := ih (k + 1) m (up w k (w (k + 1))) (by omega) (by omega)
    refine ⟨w', ?_, fun j => by rw [a1 j, delf_step _ (by omega)]⟩
    rw [fL_leave_12]
    simp (disch := omega) only [jl_, pk_sub, jle_f, nI_add]
    rw [at_sp (by omega)]
    simp only [obs]
    rw [lay_sp (by omega)]
    simp only [obs]
    exact e
theorem up_sh0 {w : Nat → Int32} {k : Nat} {y : Int32} (h : k < 4) : (fun i => up w k y (4 + i)) = (fun i => w (4 + i)) := by
  funext i
  rw [up_ne (by omega)]
theorem goes_28 {v : Int32} {e : Nat} (he : e < 64) : ∀ d k m (w : Nat → Int32), k + d = e → d < m → w 0 = nI e → ∃ w', fM_goes_28 m w v (nI k) = some (v, w') ∧ w' 0 = w 0 ∧ w' 1 = w 1 ∧ w' 2 = w 2 ∧ w' 3 = w 3 ∧ ∀ j, j ≠ e → w' (4 + j) = delf (fun i => w (4 + i)) k e j := by
  intro d
  induction d with
  | zero =>
    intro k m w h1 h2 h3
    obtain ⟨m, rfl⟩ : ∃ q, m = q + 1 := ⟨m - 1, by omega⟩
    have e9 : k = e := by omega
    subst e9
    refine ⟨up w (4 + k) (nI 0), ?_, up_ne (by omega), up_ne (by omega), up_ne (by omega), up_ne (by omega), fun j hj => ?_⟩
    · rw [fM_goes_28]
      simp (disch := omega) only [jl_, nI_add, pk_sub, pk_mul, j_neg, jlt_t, jlt_f, jle_t, jle_f, jeq_t, jeq_f, jld, jst, obs, j_div, ↓reduceIte, if_true, if_false, Nat.add_zero, Nat.sub_zero, Nat.add_sub_cancel_left]
      rw [h3]
      simp (disch := omega) only [jl_, nI_add, pk_sub, pk_mul, j_neg, jlt_t, jlt_f, jle_t, jle_f, jeq_t, jeq_f, jld, jst, obs, j_div, ↓reduceIte, if_true, if_false, Nat.add_zero, Nat.sub_zero, Nat.add_sub_cancel_left]
    · rw [up_ne (by omega), ← delf_0]
  | succ d ih =>
    intro k m w h1 h2 h3
    obtain ⟨m, rfl⟩ : ∃ q, m = q + 1 := ⟨m - 1, by omega⟩
    obtain ⟨w', e9, a1, a2, a3, a4, a5⟩ := ih (k + 1) m (up w (4 + k) (w (4 + (k + 1)))) (by omega) (by omega) (by rw [up_ne (by omega)]; exact h3)
    refine ⟨w', ?_, by rw [a1, up_ne (by omega)], by rw [a2, up_ne (by omega)], by rw [a3, up_ne (by omega)], by rw [a4, up_ne (by omega)], fun j hj => ?_⟩
    · rw [fM_goes_28]
      simp (disch := omega) only [jl_, nI_add, pk_sub, pk_mul, j_neg, jlt_t, jlt_f, jle_t, jle_f, jeq_t, jeq_f, jld, jst, obs, j_div, ↓reduceIte, if_true, if_false, Nat.add_zero, Nat.sub_zero, Nat.add_sub_cancel_left]
      rw [h3]
      simp (disch := omega) only [jl_, nI_add, pk_sub, pk_mul, j_neg, jlt_t, jlt_f, jle_t, jle_f, jeq_t, jeq_f, jld, jst, obs, j_div, ↓reduceIte, if_true, if_false, Nat.add_zero, Nat.sub_zero, Nat.add_sub_cancel_left]
      rw [show 4 + k + 1 = 4 + (k + 1) by omega]
      exact e9
    · rw [a5 j hj, up_sh w k (w (4 + (k + 1))), ← delf_step _ (show k < e by omega)]
theorem LW.leave {L : TL} {w : Nat → Int32} {n : Nat} {a : Nat → Nat} {mk : Nat → Bool} (h : LW L w n a mk) {p : Nat} (hp : p < n) :
    ∃ W' w', fL_leave L.1 L.2.1 L.2.2.2.2.1 (nI p) = some (nI 1, W', nI (n - 1), L.2.2.2.2.1 + nI 1) ∧ fM_goes w (nI p) = some (nI (a p), w') ∧ LW (W', nI (n - 1), L.2.2.1, L.2.2.2.1, L.2.2.2.2.1 + nI 1, L.2.2.2.2.2) w' (n - 1) (delf a p (n - 1)) mk := by
  obtain ⟨hM, h1, h2, h3, h4, h5, h6, h7, h8⟩ := h
  have hn := hM.1
  obtain ⟨W', e1, b1⟩ := leave_12 (left := L.2.2.2.2.1) hn (show 1 ≤ n by omega) (n - 1 - p) p FU L.1 (by omega) (fu_lt (by omega))
  obtain ⟨w', e2, c0, c1, c2, c3, c4⟩ := goes_28 (v := nI (a p)) (show n - 1 < 64 by omega) (n - 1 - p) p FU (up (up w 0 (nI (n - 1))) 2 (w 2 + nI 1)) (by omega) (fu_lt (by omega)) (by rw [up_ne (by omega), up_eq rfl])
  have hs : (fun i => up (up w 0 (nI (n - 1))) 2 (w 2 + nI 1) (4 + i)) = (fun i => w (4 + i)) := by rw [up_sh0 (by omega), up_sh0 (by omega)]
  rw [hs] at c4
  refine ⟨W', w', ?_, ?_, ⟨⟨by omega, fun k hk => delf_lt hM.2.1 hk, ?_, fun k hk => ?_⟩, rfl, fun k hk => ?_, h3, h4, fun k hk1 hk2 => ?_, ?_, ?_, ?_⟩⟩
  · unfold fL_leave fL_has
    rw [h1]
    simp (disch := omega) only [jl_, nI_add, pk_sub, pk_mul, j_neg, jlt_t, jlt_f, jle_t, jle_f, jeq_t, jeq_f, jld, jst, obs, j_div, ↓reduceIte, if_true, if_false, Nat.add_zero, Nat.sub_zero, Nat.add_sub_cancel_left]
    exact e1
  · unfold fM_goes
    rw [is_sp hM hp]
    simp (disch := omega) only [jl_, nI_add, pk_sub, pk_mul, j_neg, jlt_t, jlt_f, jle_t, jle_f, jeq_t, jeq_f, jld, jst, obs, j_div, ↓reduceIte, if_true, if_false, Nat.add_zero, Nat.sub_zero, Nat.add_sub_cancel_left]
    rw [hM.2.2.1]
    simp (disch := omega) only [jl_, nI_add, pk_sub, pk_mul, j_neg, jlt_t, jlt_f, jle_t, jle_f, jeq_t, jeq_f, jld, jst, obs, j_div, ↓reduceIte, if_true, if_false, Nat.add_zero, Nat.sub_zero, Nat.add_sub_cancel_left]
    rw [up_ne (show (2 : Nat) ≠ 0 by omega)]
    exact e2
  · rw [c0, up_ne (by omega), up_eq rfl]
  · rw [c4 k (by omega)]
    exact delf_map hM.2.2.2 hk
  · show W' k = _
    rw [b1 k]
    exact delf_map h2 hk
  · have := c4 (64 + k) (by omega)
    rw [show 68 + k = 4 + (64 + k) by omega, this]
    unfold delf
    rw [if_neg (by omega), ← h5 k hk1 hk2]
    exact congrArg w (by omega)
  · show L.2.2.2.1 = w' 1
    rw [c1, up_ne (by omega), up_ne (by omega), h6]
  · show L.2.2.2.2.1 + nI 1 = w' 2
    rw [c2, up_eq rfl, h7]
  · show L.2.2.2.2.2 = w' 3
    rw [c3, up_ne (by omega), up_ne (by omega), h8]
theorem LW.swap {L : TL} {w : Nat → Int32} {n : Nat} {a : Nat → Nat} {mk : Nat → Bool} (h : LW L w n a mk) {p : Nat} (hp : p + 1 < n) (hne : a p ≠ a (p + 1)) :
    ∃ W' w', fL_exchange L.1 L.2.1 L.2.2.2.2.2 (nI p) = some (nI 1, W', L.2.2.2.2.2 + nI 1) ∧ fM_swaps w (nI p) = some (nI (a (p + 1)), w') ∧ LW (W', L.2.1, L.2.2.1, L.2.2.2.1, L.2.2.2.2.1, L.2.2.2.2.2 + nI 1) w' n (up (up a p (a (p + 1))) (p + 1) (a p)) mk := by
  obtain ⟨hM, h1, h2, h3, h4, h5, h6, h7, h8⟩ := h
  have hn := hM.1
  have b1 := hM.2.1 p (by omega)
  have b2 := hM.2.1 (p + 1) (by omega)
  refine ⟨up (up L.1 p (nI (a (p + 1)))) (p + 1) (nI (a p)), up (up (up w (4 + p) (nI (a (p + 1)))) (4 + p + 1) (nI (a p))) 3 (w 3 + nI 1), ?_, ?_, ⟨⟨hn, fun k hk => ?_, ?_, fun k hk => ?_⟩, h1, fun k hk => ?_, h3, h4, fun k hk1 hk2 => ?_, ?_, ?_, ?_⟩⟩
  · unfold fL_exchange fL_hasNext
    rw [h1]
    simp (disch := omega) only [jl_, nI_add, pk_sub, jlt_f, jle_f, jeq_f]
    rw [at_sp (by omega), at_sp (by omega), h2 p (by omega), h2 (p + 1) (by omega)]
    simp (disch := omega) only [obs, jeq_f]
    rw [lay_sp (by omega)]
    simp only [obs]
    rw [lay_sp (by omega)]
    simp only [obs]
  · unfold fM_swaps
    have e1 := is_sp hM (show p < n by omega)
    have e2 := is_sp hM hp
    unfold fM_is at e1 e2 ⊢
    rw [e1]
    simp only [jl_, nI_add] at e2 ⊢
    rw [e2]
    simp (disch := omega) only [jl_, nI_add, pk_sub, pk_mul, j_neg, jlt_t, jlt_f, jle_t, jle_f, jeq_t, jeq_f, jld, jst, obs, j_div, ↓reduceIte, if_true, if_false, Nat.add_zero, Nat.sub_zero, Nat.add_sub_cancel_left]
    rw [up_ne (show (3 : Nat) ≠ 4 + p + 1 by omega), up_ne (show (3 : Nat) ≠ 4 + p by omega), up_ne (show 4 + p ≠ 3 by omega), up_ne (show 4 + p ≠ 4 + p + 1 by omega), up_eq rfl]
  · by_cases c : k = p + 1
    · rw [up_eq c]; exact b1
    · rw [up_ne c]
      by_cases c2 : k = p
      · rw [up_eq c2]; exact b2
      · rw [up_ne c2]; exact hM.2.1 k hk
  · rw [up_ne (by omega), up_ne (by omega), up_ne (by omega)]; exact hM.2.2.1
  · rw [up_ne (by omega)]
    by_cases c : k = p + 1
    · rw [up_eq (by omega), up_eq c]
    · rw [up_ne (by omega), up_ne c]
      by_cases c2 : k = p
      · rw [up_eq (by omega), up_eq c2]
      · rw [up_ne (by omega), up_ne c2]; exact hM.2.2.2 k hk
  · show up (up L.1 p (nI (a (p + 1)))) (p + 1) (nI (a p)) k = _
    by_cases c : k = p + 1
    · rw [up_eq c, up_eq c]
    · rw [up_ne c, up_ne c]
      by_cases c2 : k = p
      · rw [up_eq c2, up_eq c2]
      · rw [up_ne c2, up_ne c2]; exact h2 k hk
  · rw [up_ne (by omega), up_ne (by omega), up_ne (by omega)]; exact h5 k hk1 hk2
  · show L.2.2.2.1 = _
    rw [up_ne (by omega), up_ne (by omega), up_ne (by omega)]; exact h6
  · show L.2.2.2.2.1 = _
    rw [up_ne (by omega), up_ne (by omega), up_ne (by omega)]; exact h7
  · show L.2.2.2.2.2 + nI 1 = _
    rw [up_eq rfl, h8]
theorem hasMark_sp {L : TL} {w : Nat → Int32} {n : Nat} {a : Nat → Nat} {mk : Nat → Bool} (h : LW L w n a mk) {k : Nat} (h1 : 1 ≤ k) (h2 : k < 64) : fM_hasMark w (nI k) = some (bI (mk k)) := by
  have e := h.2.2.2.2.2.1 k h1 h2
  unfold fM_hasMark
  simp (disch := omega) only [jl_, nI_add, pk_sub, pk_mul, j_neg, jlt_t, jlt_f, jle_t, jle_f, jeq_t, jeq_f, jld, jst, obs, j_div, ↓reduceIte, if_true, if_false, Nat.add_zero, Nat.sub_zero, Nat.add_sub_cancel_left]
  rw [e]
  cases mk k <;> rfl
theorem marked_4 {w : Nat → Int32} {mk : Nat → Bool} (h : ∀ k, 1 ≤ k → k < 64 → w (68 + k) = bI (mk k)) : ∀ d k m s, k + d = 64 → d < m → 1 ≤ k → fM_marked_4 m w (nI s) (nI k) = some (nI (s + cn mk k d)) := by
  intro d
  induction d with
  | zero =>
    intro k m s h1 h2 h3
    obtain ⟨m, rfl⟩ : ∃ q, m = q + 1 := ⟨m - 1, by omega⟩
    rw [fM_marked_4]
    simp (disch := omega) only [jl_, nI_add, pk_sub, pk_mul, j_neg, jlt_t, jlt_f, jle_t, jle_f, jeq_t, jeq_f, jld, jst, obs, j_div, ↓reduceIte, if_true, if_false, Nat.add_zero, Nat.sub_zero, Nat.add_sub_cancel_left]
    rfl
  | succ d ih =>
    intro k m s h1 h2 h3
    obtain ⟨m, rfl⟩ : ∃ q, m = q + 1 := ⟨m - 1, by omega⟩
    rw [fM_marked_4, cn_s]
    simp (disch := omega) only [jl_, nI_add, pk_sub, pk_mul, j_neg, jlt_t, jlt_f, jle_t, jle_f, jeq_t, jeq_f, jld, jst, obs, j_div, ↓reduceIte, if_true, if_false, Nat.add_zero, Nat.sub_zero, Nat.add_sub_cancel_left]
    rw [h k h3 (by omega)]
    have e := ih (k + 1) m (s + if mk k then 1 else 0) (by omega) (by omega) (by omega)
    unfold bI
    rw [nI_add, e, Nat.add_assoc]
theorem mmarked_sp {w : Nat → Int32} {mk : Nat → Bool} (h0 : mk 0 = false) (h : ∀ k, 1 ≤ k → k < 64 → w (68 + k) = bI (mk k)) : fM_marked w = some (nI (cn mk 0 64)) := by
  have e := marked_4 h 63 1 FU 0 (by omega) (fu_lt (by omega)) (by omega)
  rw [Nat.zero_add] at e
  have e2 : cn mk 0 64 = cn mk 1 63 := by
    rw [cn_s, h0]
    simp
  rw [e2]
  exact e
theorem LW.mark {L : TL} {w : Nat → Int32} {n : Nat} {a : Nat → Nat} {mk : Nat → Bool} (h : LW L w n a mk) {p : Nat} (h1 : 1 ≤ p) (h2 : p < 64) {b : Bool} (hb : mk p ≠ b) :
    ∃ w', fL_setMark L.2.2.1 (nI p) (bI b) = some (nI 1, lN (bin (MK (upB mk p b)))) ∧ fM_marks w (nI p) (bI b) = some (nI (cn (upB mk p b) 0 64), w') ∧ LW (L.1, L.2.1, lN (bin (MK (upB mk p b))), L.2.2.2) w' n a (upB mk p b) := by
  obtain ⟨hM, h9, h8, h3, h4, h5, h6, h7, h10⟩ := h
  have hn := hM.1
  have g0 : upB mk p b 0 = false := by unfold upB; rw [if_neg (by omega)]; exact h4
  have g1 : ∀ k, 1 ≤ k → k < 64 → up w (68 + p) (bI b) (68 + k) = bI (upB mk p b k) := fun k hk1 hk2 => by
    unfold upB
    by_cases c : k = p
    · rw [up_eq (by omega), if_pos c]
    · rw [up_ne (by omega), if_neg c]; exact h5 k hk1 hk2
  refine ⟨up w (68 + p) (bI b), setMark_sp h3 h1 h2 b hb, ?_, ⟨⟨hn, hM.2.1, ?_, fun k hk => ?_⟩, h9, h8, rfl, g0, g1, ?_, ?_, ?_⟩⟩
  · have e := mmarked_sp g0 g1
    unfold fM_marks
    cases b
    · rw [bI_f] at e ⊢
      simp (disch := omega) only [jl_, nI_add, pk_sub, pk_mul, j_neg, jlt_t, jlt_f, jle_t, jle_f, jeq_t, jeq_f, jld, jst, obs, j_div, ↓reduceIte, if_true, if_false, Nat.add_zero, Nat.sub_zero, Nat.add_sub_cancel_left]
      rw [e]
      simp (disch := omega) only [jl_, nI_add, pk_sub, pk_mul, j_neg, jlt_t, jlt_f, jle_t, jle_f, jeq_t, jeq_f, jld, jst, obs, j_div, ↓reduceIte, if_true, if_false, Nat.add_zero, Nat.sub_zero, Nat.add_sub_cancel_left]
    · rw [bI_t] at e ⊢
      simp (disch := omega) only [jl_, nI_add, pk_sub, pk_mul, j_neg, jlt_t, jlt_f, jle_t, jle_f, jeq_t, jeq_f, jld, jst, obs, j_div, ↓reduceIte, if_true, if_false, Nat.add_zero, Nat.sub_zero, Nat.add_sub_cancel_left]
      rw [e]
      simp (disch := omega) only [jl_, nI_add, pk_sub, pk_mul, j_neg, jlt_t, jlt_f, jle_t, jle_f, jeq_t, jeq_f, jld, jst, obs, j_div, ↓reduceIte, if_true, if_false, Nat.add_zero, Nat.sub_zero, Nat.add_sub_cancel_left]
  · rw [up_ne (by omega)]; exact hM.2.2.1
  · rw [up_ne (by omega)]; exact hM.2.2.2 k hk
  · show L.2.2.2.1 = _
    rw [up_ne (by omega)]; exact h6
  · show L.2.2.2.2.1 = _
    rw [up_ne (by omega)]; exact h7
  · show L.2.2.2.2.2 = _
    rw [up_ne (by omega)]; exact h10
theorem like_47 {n : Nat} (hn : n ≤ 64) {w2 : Nat → Int32} {M M2 : Int64} {c l s s2 c2 l2 z2 : Int32} : ∀ d k m (w : Nat → Int32), k + d = n → d < m → ∃ w', fL_becomeLike_47 m w (nI n) M c l s w2 s2 M2 c2 l2 z2 (nI k) = some (w', nI n, M, c, l, s) ∧ (∀ j, j < k → w' j = w j) ∧ ∀ j, k ≤ j → j < n → w' j = w2 j := by
  intro d
  induction d with
  | zero =>
    intro k m w h1 h2
    obtain ⟨m, rfl⟩ : ∃ q, m = q + 1 := ⟨m - 1, by omega⟩
    refine ⟨w, ?_, fun _ _ => rfl, fun j h3 h4 => by omega⟩
    rw [fL_becomeLike_47]
    simp (disch := omega) only [jl_, nI_add, pk_sub, pk_mul, j_neg, jlt_t, jlt_f, jle_t, jle_f, jeq_t, jeq_f, jld, jst, obs, j_div, ↓reduceIte, if_true, if_false, Nat.add_zero, Nat.sub_zero, Nat.add_sub_cancel_left]
  | succ d ih =>
    intro k m w h1 h2
    obtain ⟨m, rfl⟩ : ∃ q, m = q + 1 := ⟨m - 1, by omega⟩
    obtain ⟨w', e, a1, a2⟩ := ih (k + 1) m (up w k (w2 k)) (by omega) (by omega)
    refine ⟨w', ?_, fun j hj => by rw [a1 j (by omega), up_ne (by omega)], fun j h3 h4 => ?_⟩
    · rw [fL_becomeLike_47]
      simp (disch := omega) only [jl_, jle_f, nI_add]
      rw [at_sp (by omega)]
      simp only [obs]
      rw [lay_sp (by omega)]
      simp only [obs]
      exact e
    · by_cases c : j = k
      · subst c; rw [a1 j (by omega), up_eq rfl]
      · exact a2 j (by omega) h4
/-- a copy of the letters -/
theorem LW.like {L2 : TL} {w : Nat → Int32} {n : Nat} {a : Nat → Nat} {mk : Nat → Bool} (h : LW L2 w n a mk) (L : TL) :
    ∃ W', fL_becomeLike L.1 L.2.1 L.2.2.1 L.2.2.2.1 L.2.2.2.2.1 L.2.2.2.2.2 L2.1 L2.2.1 L2.2.2.1 L2.2.2.2.1 L2.2.2.2.2.1 L2.2.2.2.2.2 = some (W', L2.2.1, L2.2.2.1, L2.2.2.2.1, L2.2.2.2.2.1, L2.2.2.2.2.2) ∧ LW (W', L2.2) w n a mk := by
  obtain ⟨hM, h1, h2, h3, h4, h5, h6, h7, h8⟩ := h
  obtain ⟨W', e, -, b1⟩ := like_47 (n := n) hM.1 (w2 := L2.1) (M := L2.2.2.1) (M2 := L2.2.2.1) (c := L2.2.2.2.1) (l := L2.2.2.2.2.1) (s := L2.2.2.2.2.2) (s2 := L2.2.1) (c2 := L2.2.2.2.1) (l2 := L2.2.2.2.2.1) (z2 := L2.2.2.2.2.2) n 0 FU L.1 (by omega) (fu_lt (by have := hM.1; omega))
  refine ⟨W', ?_, hM, h1, fun k hk => ?_, h3, h4, h5, h6, h7, h8⟩
  · unfold fL_becomeLike
    rw [← h1] at e
    exact e
  · show W' k = _
    rw [b1 k (by omega) hk]; exact h2 k hk
theorem LW.cong {L : TL} {w w' : Nat → Int32} {n : Nat} {a : Nat → Nat} {mk : Nat → Bool} (h : LW L w n a mk) (hw : ∀ k, k < 132 → w' k = w k) : LW L w' n a mk := by
  obtain ⟨hM, h1, h2, h3, h4, h5, h6, h7, h8⟩ := h
  have hn := hM.1
  exact ⟨⟨hn, hM.2.1, by rw [hw 0 (by omega)]; exact hM.2.2.1, fun k hk => by rw [hw _ (by omega)]; exact hM.2.2.2 k hk⟩, h1, h2, h3, h4, fun k k1 k2 => by rw [hw _ (by omega)]; exact h5 k k1 k2, by rw [hw 1 (by omega)]; exact h6, by rw [hw 2 (by omega)]; exact h7, by rw [hw 3 (by omega)]; exact h8⟩
