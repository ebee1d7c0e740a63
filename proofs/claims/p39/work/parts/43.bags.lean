/-! where bags begin -/
theorem jz_f {α : Type} {b : Nat} {x y : α} (h0 : 0 < b) (hb : b < 2147483648) : (if nI 0 ≤ -nI b then x else y) = y := if_neg (by
  rw [Int32.le_iff_toInt_le, sb_negT hb, nI_toInt (by omega)]; omega)
theorem j_z (s : Int32) : s + nI 0 = s := by rw [nI_0, Int32.add_zero]
def bg (mk : Nat → Bool) : Nat → Bool := fun p => p == 0 || mk p
theorem bg_0 (mk : Nat → Bool) : bg mk 0 = true := rfl
theorem bg_s (mk : Nat → Bool) {p : Nat} (h : p ≠ 0) : bg mk p = mk p := by
  unfold bg
  simp [h]
theorem cn0_le (b : Nat → Bool) (p : Nat) : cn b 0 p ≤ p := cn_le b 0 p
theorem cn0_s (b : Nat → Bool) (p : Nat) : cn b 0 (p + 1) = cn b 0 p + if b p then 1 else 0 := by
  have := cn_r b 0 p
  rw [Nat.zero_add] at this
  exact this
def IsB (b : Nat → Bool) (n j k : Nat) : Prop := k ≤ n ∧ cn b 0 k ≤ j ∧ (k < n → j < cn b 0 (k + 1))
section IsB
variable {b : Nat → Bool} {n j k k' : Nat}
theorem IsB.one (h : IsB b n j k) (h2 : IsB b n j k') : k = k' := by
  obtain ⟨a1, a2, a3⟩ := h
  obtain ⟨b1, b2, b3⟩ := h2
  rcases Nat.lt_trichotomy k k' with c | c | c
  · have := a3 (by omega)
    have := cn_mono b 0 (show k + 1 ≤ k' by omega)
    omega
  · exact c
  · have := b3 (by omega)
    have := cn_mono b 0 (show k' + 1 ≤ k by omega)
    omega
theorem IsB.ex (b : Nat → Bool) (n j : Nat) : ∃ k, IsB b n j k := by
  induction n with
  | zero => exact ⟨0, Nat.le_refl _, Nat.zero_le _, fun h => absurd h (by omega)⟩
  | succ n ih =>
    obtain ⟨k, a1, a2, a3⟩ := ih
    by_cases c : k < n
    · exact ⟨k, by omega, a2, fun _ => a3 c⟩
    · have e : k = n := by omega
      subst e
      by_cases c2 : j < cn b 0 (k + 1)
      · exact ⟨k, by omega, a2, fun _ => c2⟩
      · exact ⟨k + 1, Nat.le_refl _, by omega, fun h => absurd h (by omega)⟩
theorem IsB.le (h : IsB b n j k) (h2 : IsB b n (j + 1) k') : k ≤ k' := by
  obtain ⟨a1, a2, a3⟩ := h
  obtain ⟨b1, b2, b3⟩ := h2
  rcases Nat.lt_or_ge k' k with c | c
  · have := b3 (by omega)
    have := cn_mono b 0 (show k' + 1 ≤ k by omega)
    omega
  · exact c
theorem IsB.lt (h : IsB b n j k) (hj : j < cn b 0 n) : k < n := by
  obtain ⟨a1, a2, a3⟩ := h
  rcases Nat.lt_or_ge k n with c | c
  · exact c
  · have e : k = n := by omega
    subst e
    omega
theorem IsB.at (h : IsB b n j k) (hj : j < cn b 0 n) : b k = true ∧ cn b 0 k = j := by
  have hk := h.lt hj
  obtain ⟨a1, a2, a3⟩ := h
  have := a3 hk
  rw [cn0_s] at this
  cases hb : b k
  · rw [hb] at this
    simp at this
    omega
  · rw [hb] at this
    simp at this
    exact ⟨rfl, by omega⟩
theorem IsB.stop (h : IsB b n j k) (hj : cn b 0 n ≤ j) : k = n := by
  obtain ⟨a1, a2, a3⟩ := h
  rcases Nat.lt_or_ge k n with c | c
  · have := a3 c
    have := cn_mono b 0 (show k + 1 ≤ n by omega)
    omega
  · omega
theorem IsB.up (h : IsB b n j k) (hj : j < cn b 0 n) : IsB b (n + 1) j k := by
  have hk := h.lt hj
  exact ⟨by omega, h.2.1, fun _ => h.2.2 hk⟩
theorem IsB.last (b : Nat → Bool) (n : Nat) : IsB b n (cn b 0 n) n := ⟨Nat.le_refl _, Nat.le_refl _, fun h => absurd h (by omega)⟩
theorem IsB.zero (h : b 0 = true) (n : Nat) : IsB b n 0 0 := by
  refine ⟨Nat.zero_le _, Nat.le_refl _, fun _ => ?_⟩
  rw [cn0_s, h]
  simp
end IsB
def BI (b : Nat → Bool) (a : Nat → Nat) (p : Nat) (B T : Nat → Int32) : Prop :=
  (∀ j k, j < cn b 0 p → IsB b p j k → B j = nI k) ∧ (∀ j k k', j < cn b 0 p → IsB b p j k → IsB b p (j + 1) k' → T j = nI (sm a k (k' - k)))
theorem BI.tt {b : Nat → Bool} {a : Nat → Nat} {p : Nat} {B T : Nat → Int32} (h : BI b a p B T) (hb : b p = true) (y : Int32) : BI b a (p + 1) (up B (cn b 0 p) (nI p)) (up (up T (cn b 0 p) y) (cn b 0 p) (nI (a p))) := by
  have hc : cn b 0 (p + 1) = cn b 0 p + 1 := by rw [cn0_s, hb]; rfl
  have hN : IsB b (p + 1) (cn b 0 p) p := ⟨by omega, Nat.le_refl _, fun _ => by omega⟩
  refine ⟨fun j k hj hk => ?_, fun j k k' hj hk hk' => ?_⟩
  · by_cases c : j < cn b 0 p
    · obtain ⟨k0, hk0⟩ := IsB.ex b p j
      rw [up_ne (by omega), hk.one (hk0.up c)]
      exact h.1 j k0 c hk0
    · have e : j = cn b 0 p := by omega
      subst e
      rw [up_eq rfl, hk.one hN]
  · by_cases c : j < cn b 0 p
    · obtain ⟨k0, hk0⟩ := IsB.ex b p j
      rw [up_ne (by omega), up_ne (by omega), hk.one (hk0.up c)]
      by_cases c2 : j + 1 < cn b 0 p
      · obtain ⟨k1, hk1⟩ := IsB.ex b p (j + 1)
        rw [hk'.one (hk1.up c2)]
        exact h.2 j k0 k1 c hk0 hk1
      · have e : j + 1 = cn b 0 p := by omega
        have hl := IsB.last b p
        rw [← e] at hl hN
        rw [hk'.one hN]
        exact h.2 j k0 p c hk0 hl
    · have e : j = cn b 0 p := by omega
      subst e
      have hl := IsB.last b (p + 1)
      rw [hc] at hl
      rw [up_eq rfl, hk.one hN, hk'.one hl, Nat.add_sub_cancel_left, sm_s]
      rfl
theorem BI.ff {b : Nat → Bool} {a : Nat → Nat} {p : Nat} {B T : Nat → Int32} (h : BI b a p B T) (hb : b p = false) (hp : 0 < cn b 0 p) : BI b a (p + 1) B (up T (cn b 0 p - 1) (T (cn b 0 p - 1) + nI (a p))) := by
  have hc : cn b 0 (p + 1) = cn b 0 p := by rw [cn0_s, hb]; rfl
  refine ⟨fun j k hj hk => ?_, fun j k k' hj hk hk' => ?_⟩
  · obtain ⟨k0, hk0⟩ := IsB.ex b p j
    rw [hk.one (hk0.up (by omega))]
    exact h.1 j k0 (by omega) hk0
  · obtain ⟨k0, hk0⟩ := IsB.ex b p j
    rw [hk.one (hk0.up (by omega))]
    by_cases c2 : j + 1 < cn b 0 p
    · obtain ⟨k1, hk1⟩ := IsB.ex b p (j + 1)
      rw [up_ne (by omega), hk'.one (hk1.up c2)]
      exact h.2 j k0 k1 (by omega) hk0 hk1
    · have e : j + 1 = cn b 0 p := by omega
      have hl := IsB.last b p
      have hl2 := IsB.last b (p + 1)
      rw [hc] at hl2
      rw [← e] at hl hl2
      have hk9 := hk0.1
      rw [hk'.one hl2, up_eq (by omega), show cn b 0 p - 1 = j by omega, h.2 j k0 p (by omega) hk0 hl, nI_add, show p + 1 - k0 = (p - k0) + 1 by omega, sm_r, show k0 + (p - k0) = p by omega]
/-- what the class holds of its bags -/
def BG (B T : Nat → Int32) (N lc : Int32) (b : Nat → Bool) (n : Nat) (a : Nat → Nat) : Prop := n ≤ 64 ∧ lc = nI n ∧ N = nI (cn b 0 n) ∧ BI b a n B T
theorem open_sp {B T : Nat → Int32} {N p : Nat} (hN : N < 64) : fB_open B T (nI N) (nI p) = some (up B N (nI p), up T N (nI 0), nI (N + 1)) := by
  unfold fB_open
  simp (disch := omega) only [jl_, nI_add, pk_sub, pk_mul, j_neg, jlt_t, jlt_f, jle_t, jle_f, jeq_t, jeq_f, jld, jst, obs, j_div, ↓reduceIte, if_true, if_false, Nat.add_zero, Nat.sub_zero, Nat.add_sub_cancel_left]
theorem addTo_sp {T : Nat → Int32} {N : Nat} {x : Int32} (hN : N < 64) : fB_addToLatest T (nI (N + 1)) x = some (up T N (T N + x)) := by
  unfold fB_addToLatest
  simp (disch := omega) only [jl_, nI_add, pk_sub, pk_mul, j_neg, jlt_t, jlt_f, jle_t, jle_f, jeq_t, jeq_f, jld, jst, obs, j_div, ↓reduceIte, if_true, if_false, Nat.add_zero, Nat.sub_zero, Nat.add_sub_cancel_left]
  rw [Nat.add_sub_cancel]
theorem bfill_15 {n : Nat} {a : Nat → Nat} {mk : Nat → Bool} {w : Nat → Int32} {s : Int32} {M : Int64} (hn : n ≤ 64) (hw : ∀ k, k < n → w k = nI (a k)) (hM : M = lN (bin (MK mk))) : ∀ d p m (B T : Nat → Int32), p + d = n → d < m → BI (bg mk) a p B T →
    ∃ B' T', fB_fill_15 m B T (nI (cn (bg mk) 0 p)) (nI n) w s M (nI p) = some (B', T', nI (cn (bg mk) 0 n), nI n) ∧ BI (bg mk) a n B' T' := by
  intro d
  induction d with
  | zero =>
    intro p m B T h1 h2 h3
    obtain ⟨m, rfl⟩ : ∃ q, m = q + 1 := ⟨m - 1, by omega⟩
    have e : p = n := by omega
    subst e
    refine ⟨B, T, ?_, h3⟩
    rw [fB_fill_15]
    simp (disch := omega) only [jl_, nI_add, pk_sub, pk_mul, j_neg, jlt_t, jlt_f, jle_t, jle_f, jeq_t, jeq_f, jld, jst, obs, j_div, ↓reduceIte, if_true, if_false, Nat.add_zero, Nat.sub_zero, Nat.add_sub_cancel_left]
  | succ d ih =>
    intro p m B T h1 h2 h3
    obtain ⟨m, rfl⟩ : ∃ q, m = q + 1 := ⟨m - 1, by omega⟩
    have hN := cn0_le (bg mk) p
    cases hb : bg mk p
    · have hp0 : p ≠ 0 := by
        intro e
        subst e
        rw [bg_0] at hb
        cases hb
      have hpos : 0 < cn (bg mk) 0 p := by
        have := cn_mono (bg mk) 0 (show 1 ≤ p by omega)
        rw [show cn (bg mk) 0 1 = 1 from rfl] at this
        omega
      obtain ⟨N, hNe⟩ : ∃ N, cn (bg mk) 0 p = N + 1 := ⟨cn (bg mk) 0 p - 1, by omega⟩
      have h4 := h3.ff hb hpos
      have hc : cn (bg mk) 0 (p + 1) = cn (bg mk) 0 p := by rw [cn0_s, hb]; rfl
      rw [hNe, Nat.add_sub_cancel] at h4
      obtain ⟨B', T', e, h5⟩ := ih (p + 1) m B _ (by omega) (by omega) h4
      refine ⟨B', T', ?_, h5⟩
      rw [hc, hNe] at e
      rw [fB_fill_15, isMarked_sp hM (by omega) (by omega), ← bg_s mk hp0, hb, hNe, bI_f]
      simp (disch := omega) only [jl_, jle_f, jeq_f, jeq_t, nI_add]
      rw [at_sp (by omega), hw p (by omega)]
      simp only [obs]
      rw [addTo_sp (by omega)]
      simp only [obs]
      exact e
    · have h4 := h3.tt hb (nI 0)
      have hc : cn (bg mk) 0 (p + 1) = cn (bg mk) 0 p + 1 := by rw [cn0_s, hb]; rfl
      obtain ⟨B', T', e, h5⟩ := ih (p + 1) m _ _ (by omega) (by omega) h4
      refine ⟨B', T', ?_, h5⟩
      rw [hc] at e
      have e2 : up (up T (cn (bg mk) 0 p) (nI 0)) (cn (bg mk) 0 p) (up T (cn (bg mk) 0 p) (nI 0) (cn (bg mk) 0 p) + nI (a p)) = up (up T (cn (bg mk) 0 p) (nI 0)) (cn (bg mk) 0 p) (nI (a p)) := by
        rw [up_eq rfl, nI_add, Nat.zero_add]
      rw [fB_fill_15]
      by_cases hp0 : p = 0
      · simp (disch := omega) only [jl_, jle_f, jeq_t, nI_add]
        rw [open_sp (by omega), at_sp (by omega), hw p (by omega)]
        simp only [obs]
        rw [addTo_sp (by omega)]
        simp only [obs]
        rw [e2]
        exact e
      · rw [isMarked_sp hM (by omega) (by omega), ← bg_s mk hp0, hb, bI_t]
        simp (disch := omega) only [jl_, jle_f, jeq_f, nI_add]
        rw [open_sp (by omega), at_sp (by omega), hw p (by omega)]
        simp only [obs]
        rw [addTo_sp (by omega)]
        simp only [obs]
        rw [e2]
        exact e
theorem bfill_sp {n : Nat} {a : Nat → Nat} {mk : Nat → Bool} {w : Nat → Int32} {M : Int64} (hn : n ≤ 64) (hw : ∀ k, k < n → w k = nI (a k)) (hM : M = lN (bin (MK mk))) (B T : Nat → Int32) (N lc : Int32) :
    ∃ B' T', fB_fill B T N lc w (nI n) M = some (B', T', nI (cn (bg mk) 0 n), nI n) ∧ BG B' T' (nI (cn (bg mk) 0 n)) (nI n) (bg mk) n a := by
  obtain ⟨B', T', e, h⟩ := bfill_15 (s := nI n) (a := a) hn hw hM n 0 FU B T (by omega) (fu_lt (by omega)) ⟨fun j k hj => absurd hj (by rw [show cn (bg mk) 0 0 = 0 from rfl]; omega), fun j k k' hj => absurd hj (by rw [show cn (bg mk) 0 0 = 0 from rfl]; omega)⟩
  exact ⟨B', T', e, hn, rfl, rfl, h⟩
section BG
variable {B T : Nat → Int32} {N lc : Int32} {mk : Nat → Bool} {n : Nat} {a : Nat → Nat}
theorem beginOf_sp (h : BG B T N lc (bg mk) n a) {j k : Nat} (hk : IsB (bg mk) n j k) (hj : j < 2147483648) : fB_beginOf B N lc (nI j) = some (nI k) := by
  obtain ⟨hn, h1, h2, h3⟩ := h
  have hN := cn0_le (bg mk) n
  unfold fB_beginOf
  rw [h1, h2]
  by_cases c : j < cn (bg mk) 0 n
  · simp (disch := omega) only [jl_, nI_add, pk_sub, pk_mul, j_neg, jlt_t, jlt_f, jle_t, jle_f, jeq_t, jeq_f, jld, jst, obs, j_div, ↓reduceIte, if_true, if_false, Nat.add_zero, Nat.sub_zero, Nat.add_sub_cancel_left]
    rw [h3.1 j k c hk]
  · rw [hk.stop (by omega)]
    simp (disch := omega) only [jl_, nI_add, pk_sub, pk_mul, j_neg, jlt_t, jlt_f, jle_t, jle_f, jeq_t, jeq_f, jld, jst, obs, j_div, ↓reduceIte, if_true, if_false, Nat.add_zero, Nat.sub_zero, Nat.add_sub_cancel_left]
theorem endOf_sp (h : BG B T N lc (bg mk) n a) {j k : Nat} (hk : IsB (bg mk) n (j + 1) k) (hj : j + 1 < 2147483648) : fB_endOf B N lc (nI j) = some (nI k) := by
  unfold fB_endOf
  simp only [jl_, nI_add]
  rw [beginOf_sp h hk hj]
  rfl
theorem totalOf_sp (h : BG B T N lc (bg mk) n a) {j k k' : Nat} (hk : IsB (bg mk) n j k) (hk' : IsB (bg mk) n (j + 1) k') (hj : j < cn (bg mk) 0 n) : fB_totalOf T N (nI j) = some (nI (sm a k (k' - k))) := by
  obtain ⟨hn, h1, h2, h3⟩ := h
  have hN := cn0_le (bg mk) n
  unfold fB_totalOf
  rw [h2]
  simp (disch := omega) only [jl_, nI_add, pk_sub, pk_mul, j_neg, jlt_t, jlt_f, jle_t, jle_f, jeq_t, jeq_f, jld, jst, obs, j_div, ↓reduceIte, if_true, if_false, Nat.add_zero, Nat.sub_zero, Nat.add_sub_cancel_left]
  rw [h3.2 j k k' hj hk hk']
theorem bagWith_2 (h : BG B T N lc (bg mk) n a) {p : Nat} (hp : p < n) : ∀ d k m, k + d + 1 = cn (bg mk) 0 (p + 1) → d < m → fB_bagWith_2 m B N lc (nI p) (nI k) = some (nI (cn (bg mk) 0 (p + 1) - 1)) := by
  have hn := h.1
  have hN := cn0_le (bg mk) n
  have hm := cn_mono (bg mk) 0 (show p + 1 ≤ n by omega)
  have h2 := h.2.2.1
  intro d
  induction d with
  | zero =>
    intro k m e1 e2
    obtain ⟨m, rfl⟩ : ∃ q, m = q + 1 := ⟨m - 1, by omega⟩
    obtain ⟨k1, hk1⟩ := IsB.ex (bg mk) n (k + 1)
    have hlt : p < k1 := by
      rcases Nat.lt_or_ge p k1 with c | c
      · exact c
      · have := hk1.2.2 (by omega)
        have := cn_mono (bg mk) 0 (show k1 + 1 ≤ p + 1 by omega)
        omega
    have hk2 := hk1.1
    rw [fB_bagWith_2]
    simp only [jl_, nI_add]
    rw [beginOf_sp h hk1 (by omega), h2]
    by_cases c : cn (bg mk) 0 n - 1 ≤ k
    · simp (disch := omega) only [jl_, nI_add, pk_sub, pk_mul, j_neg, jlt_t, jlt_f, jle_t, jle_f, jeq_t, jeq_f, jld, jst, obs, j_div, ↓reduceIte, if_true, if_false, Nat.add_zero, Nat.sub_zero, Nat.add_sub_cancel_left]
      exact congrArg (fun z => some (nI z)) (by omega)
    · simp (disch := omega) only [jl_, nI_add, pk_sub, pk_mul, j_neg, jlt_t, jlt_f, jle_t, jle_f, jeq_t, jeq_f, jld, jst, obs, j_div, ↓reduceIte, if_true, if_false, Nat.add_zero, Nat.sub_zero, Nat.add_sub_cancel_left]
      exact congrArg (fun z => some (nI z)) (by omega)
  | succ d ih =>
    intro k m e1 e2
    obtain ⟨m, rfl⟩ : ∃ q, m = q + 1 := ⟨m - 1, by omega⟩
    obtain ⟨k1, hk1⟩ := IsB.ex (bg mk) n (k + 1)
    have hlt : k1 ≤ p := by
      rcases Nat.lt_or_ge p k1 with c | c
      · have := hk1.2.1
        have := cn_mono (bg mk) 0 (show p + 1 ≤ k1 by omega)
        omega
      · exact c
    have hk2 := hk1.1
    rw [fB_bagWith_2]
    simp only [jl_, nI_add]
    rw [beginOf_sp h hk1 (by omega)]
    have e := ih (k + 1) m (by omega) (by omega)
    rw [h2] at e ⊢
    simp (disch := omega) only [jl_, nI_add, pk_sub, pk_mul, j_neg, jlt_t, jlt_f, jle_t, jle_f, jeq_t, jeq_f, jld, jst, obs, j_div, ↓reduceIte, if_true, if_false, Nat.add_zero, Nat.sub_zero, Nat.add_sub_cancel_left]
    exact e
theorem bagWith_sp (h : BG B T N lc (bg mk) n a) {p : Nat} (hp : p < n) : fB_bagWith B N lc (nI p) = some (nI (cn (bg mk) 0 (p + 1) - 1)) := by
  have hn := h.1
  have := cn_mono (bg mk) 0 (show 1 ≤ p + 1 by omega)
  rw [show cn (bg mk) 0 1 = 1 from rfl] at this
  have := cn0_le (bg mk) (p + 1)
  exact bagWith_2 h hp (cn (bg mk) 0 (p + 1) - 1) 0 FU (by omega) (fu_lt (by omega))
end BG
/-! the reference's bags -/
section MB
variable {L : TL} {w : Nat → Int32} {n : Nat} {a : Nat → Nat} {mk : Nat → Bool}
theorem mbegins_sp (h : LW L w n a mk) {k : Nat} (hk : k < 64) : fM_begins w (nI k) = some (bI (bg mk k)) := by
  unfold fM_begins
  by_cases c : k = 0
  · subst c
    rfl
  · rw [hasMark_sp h (by omega) hk, bg_s mk c]
    simp (disch := omega) only [jl_, jeq_f, obs]
    cases mk k <;> rfl
theorem upTo_4 (h : LW L w n a mk) {K : Nat} (hK : K < 64) : ∀ d k m s, k + d = K + 1 → d < m → fM_bagsUpTo_4 m w (nI K) (nI s) (nI k) = some (nI (s + cn (bg mk) k d)) := by
  intro d
  induction d with
  | zero =>
    intro k m s h1 h2
    obtain ⟨m, rfl⟩ : ∃ q, m = q + 1 := ⟨m - 1, by omega⟩
    rw [fM_bagsUpTo_4]
    simp (disch := omega) only [jl_, nI_add, pk_sub, pk_mul, j_neg, jlt_t, jlt_f, jle_t, jle_f, jeq_t, jeq_f, jld, jst, obs, j_div, ↓reduceIte, if_true, if_false, Nat.add_zero, Nat.sub_zero, Nat.add_sub_cancel_left]
    rfl
  | succ d ih =>
    intro k m s h1 h2
    obtain ⟨m, rfl⟩ : ∃ q, m = q + 1 := ⟨m - 1, by omega⟩
    rw [fM_bagsUpTo_4, mbegins_sp h (by omega), cn_s]
    cases hb : bg mk k
    · have e := ih (k + 1) m s (by omega) (by omega)
      rw [bI_f]
      simp (disch := omega) only [jl_, nI_add, pk_sub, pk_mul, j_neg, jlt_t, jlt_f, jle_t, jle_f, jeq_t, jeq_f, jld, jst, obs, j_div, ↓reduceIte, if_true, if_false, Nat.add_zero, Nat.sub_zero, Nat.add_sub_cancel_left]
      rw [e]
      simp
    · have e := ih (k + 1) m (s + 1) (by omega) (by omega)
      rw [bI_t]
      simp (disch := omega) only [jl_, nI_add, pk_sub, pk_mul, j_neg, jlt_t, jlt_f, jle_t, jle_f, jeq_t, jeq_f, jld, jst, obs, j_div, ↓reduceIte, if_true, if_false, Nat.add_zero, Nat.sub_zero, Nat.add_sub_cancel_left]
      rw [e, Nat.add_assoc]
theorem upTo_sp (h : LW L w n a mk) {K : Nat} (hK : K < 64) : fM_bagsUpTo w (nI K) = some (nI (cn (bg mk) 0 (K + 1))) := by
  have e := upTo_4 h hK (K + 1) 0 FU 0 (by omega) (fu_lt (by omega))
  rw [Nat.zero_add] at e
  exact e
theorem mbags_sp (h : LW L w n a mk) : fM_bags w = some (nI (cn (bg mk) 0 n)) := by
  have hn := h.1.1
  unfold fM_bags
  simp (disch := omega) only [jl_, nI_add, pk_sub, pk_mul, j_neg, jlt_t, jlt_f, jle_t, jle_f, jeq_t, jeq_f, jld, jst, obs, j_div, ↓reduceIte, if_true, if_false, Nat.add_zero, Nat.sub_zero, Nat.add_sub_cancel_left]
  rw [h.1.2.2.1]
  cases n with
  | zero =>
    rw [show nI 0 - nI 1 = -nI 1 from by decide]
    unfold fM_bagsUpTo
    rw [show FU = 3999 + 1 from rfl, fM_bagsUpTo_4, if_pos (show -nI 1 < (0 : Int32) from jng (b := 1) (by omega) (by omega))]
    rfl
  | succ n =>
    simp (disch := omega) only [jl_, nI_add, pk_sub, pk_mul, j_neg, jlt_t, jlt_f, jle_t, jle_f, jeq_t, jeq_f, jld, jst, obs, j_div, ↓reduceIte, if_true, if_false, Nat.add_zero, Nat.sub_zero, Nat.add_sub_cancel_left]
    rw [upTo_sp h (by omega)]
    rfl
theorem mbeginOf_2 (h : LW L w n a mk) {j k : Nat} (hk : IsB (bg mk) n j k) (hj : j < 2147483648) : ∀ d k0 m, k0 + d = k → d < m → fM_beginOf_2 m w (nI j) (nI k0) = some (nI k) := by
  have hn := h.1.1
  have hkn := hk.1
  intro d
  induction d with
  | zero =>
    intro k0 m h1 h2
    obtain ⟨m, rfl⟩ : ∃ q, m = q + 1 := ⟨m - 1, by omega⟩
    have e : k0 = k := by omega
    subst e
    rw [fM_beginOf_2]
    simp (disch := omega) only [jl_, nI_add, pk_sub, pk_mul, j_neg, jlt_t, jlt_f, jle_t, jle_f, jeq_t, jeq_f, jld, jst, obs, j_div, ↓reduceIte, if_true, if_false, Nat.add_zero, Nat.sub_zero, Nat.add_sub_cancel_left]
    rw [h.1.2.2.1]
    by_cases c : n ≤ k0
    · simp (disch := omega) only [jl_, nI_add, pk_sub, pk_mul, j_neg, jlt_t, jlt_f, jle_t, jle_f, jeq_t, jeq_f, jld, jst, obs, j_div, ↓reduceIte, if_true, if_false, Nat.add_zero, Nat.sub_zero, Nat.add_sub_cancel_left]
    · have hlt := hk.2.2 (by omega)
      have := cn0_le (bg mk) (k0 + 1)
      rw [upTo_sp h (by omega)]
      simp (disch := omega) only [jl_, nI_add, pk_sub, pk_mul, j_neg, jlt_t, jlt_f, jle_t, jle_f, jeq_t, jeq_f, jld, jst, obs, j_div, ↓reduceIte, if_true, if_false, Nat.add_zero, Nat.sub_zero, Nat.add_sub_cancel_left]
  | succ d ih =>
    intro k0 m h1 h2
    obtain ⟨m, rfl⟩ : ∃ q, m = q + 1 := ⟨m - 1, by omega⟩
    have e := ih (k0 + 1) m (by omega) (by omega)
    have hle := hk.2.1
    have := cn_mono (bg mk) 0 (show k0 + 1 ≤ k by omega)
    rw [fM_beginOf_2]
    simp (disch := omega) only [jl_, nI_add, pk_sub, pk_mul, j_neg, jlt_t, jlt_f, jle_t, jle_f, jeq_t, jeq_f, jld, jst, obs, j_div, ↓reduceIte, if_true, if_false, Nat.add_zero, Nat.sub_zero, Nat.add_sub_cancel_left]
    rw [h.1.2.2.1, upTo_sp h (by omega)]
    simp (disch := omega) only [jl_, nI_add, pk_sub, pk_mul, j_neg, jlt_t, jlt_f, jle_t, jle_f, jeq_t, jeq_f, jld, jst, obs, j_div, ↓reduceIte, if_true, if_false, Nat.add_zero, Nat.sub_zero, Nat.add_sub_cancel_left]
    exact e
theorem mbeginOf_sp (h : LW L w n a mk) {j k : Nat} (hk : IsB (bg mk) n j k) (hj : j < 2147483648) : fM_beginOf w (nI j) = some (nI k) := by
  have hn := h.1.1
  have hkn := hk.1
  exact mbeginOf_2 h hk hj k 0 FU (by omega) (fu_lt (by omega))
theorem sumOf_sp (h : LW L w n a mk) {j k k' : Nat} (hk : IsB (bg mk) n j k) (hk' : IsB (bg mk) n (j + 1) k') (hj : j + 1 < 2147483648) : fM_sumOf w (nI j) = some (nI (sm a k (k' - k))) := by
  unfold fM_sumOf
  simp only [jl_, nI_add]
  rw [mbeginOf_sp h hk (by omega), mbeginOf_sp h hk' hj]
  simp only [obs]
  rw [sum_sp h.1 (hk.le hk') hk'.1]
  rfl
theorem sizeOf_sp (h : LW L w n a mk) {j k k' : Nat} (hk : IsB (bg mk) n j k) (hk' : IsB (bg mk) n (j + 1) k') (hj : j + 1 < 2147483648) : fM_sizeOf w (nI j) = some (nI (k' - k)) := by
  unfold fM_sizeOf
  simp only [jl_, nI_add]
  rw [mbeginOf_sp h hk (by omega), mbeginOf_sp h hk' hj]
  simp only [obs]
  rw [pk_sub (hk.le hk')]
variable {B T : Nat → Int32} {N lc : Int32}
theorem isAhead_both (h : LW L w n a mk) (hB : BG B T N lc (bg mk) n a) {i j : Nat} (hi : i < cn (bg mk) 0 n) (hj : j < cn (bg mk) 0 n) : ∃ b : Bool, fB_isAhead B T N lc (nI i) (nI j) = some (bI b) ∧ fM_isAhead w (nI i) (nI j) = some (bI b) := by
  have hn := h.1.1
  have hN := cn0_le (bg mk) n
  obtain ⟨i1, hi1⟩ := IsB.ex (bg mk) n i
  obtain ⟨i2, hi2⟩ := IsB.ex (bg mk) n (i + 1)
  obtain ⟨j1, hj1⟩ := IsB.ex (bg mk) n j
  obtain ⟨j2, hj2⟩ := IsB.ex (bg mk) n (j + 1)
  have li := hi1.le hi2
  have lj := hj1.le hj2
  have ni := hi2.1
  have nj := hj2.1
  have si : sm a i1 (i2 - i1) ≤ (i2 - i1) * 32 := sm_le (fun p _ hp => Nat.le_of_lt (h.1.2.1 p (by omega)))
  have sj : sm a j1 (j2 - j1) ≤ (j2 - j1) * 32 := sm_le (fun p _ hp => Nat.le_of_lt (h.1.2.1 p (by omega)))
  unfold fB_isAhead fM_isAhead
  rw [totalOf_sp hB hi1 hi2 hi, totalOf_sp hB hj1 hj2 hj, endOf_sp hB hi2 (by omega), beginOf_sp hB hi1 (by omega), endOf_sp hB hj2 (by omega), beginOf_sp hB hj1 (by omega), sumOf_sp h hi1 hi2 (by omega), sumOf_sp h hj1 hj2 (by omega), sizeOf_sp h hi1 hi2 (by omega), sizeOf_sp h hj1 hj2 (by omega)]
  simp (disch := omega) only [obs, pk_sub, jl_]
  by_cases c1 : sm a i1 (i2 - i1) = sm a j1 (j2 - j1)
  · by_cases c2 : i2 - i1 = j2 - j1
    · by_cases c3 : j ≤ i
      · refine ⟨false, ?_, ?_⟩ <;> simp (disch := omega) only [jeq_t, jeq_f, jle_t, jle_f] <;> rfl
      · refine ⟨true, ?_, ?_⟩ <;> simp (disch := omega) only [jeq_t, jeq_f, jle_t, jle_f] <;> rfl
    · by_cases c3 : j2 - j1 ≤ i2 - i1
      · refine ⟨false, ?_, ?_⟩ <;> simp (disch := omega) only [jeq_t, jeq_f, jle_t, jle_f] <;> rfl
      · refine ⟨true, ?_, ?_⟩ <;> simp (disch := omega) only [jeq_t, jeq_f, jle_t, jle_f] <;> rfl
  · by_cases c3 : sm a i1 (i2 - i1) ≤ sm a j1 (j2 - j1)
    · refine ⟨false, ?_, ?_⟩ <;> simp (disch := omega) only [jeq_t, jeq_f, jle_t, jle_f] <;> rfl
    · refine ⟨true, ?_, ?_⟩ <;> simp (disch := omega) only [jeq_t, jeq_f, jle_t, jle_f] <;> rfl
theorem ranked_18 (h : LW L w n a mk) (hB : BG B T N lc (bg mk) n a) {i : Nat} (hi : i < cn (bg mk) 0 n) {pl : Int32} : ∀ d k m m' (s : Int32), k + d = cn (bg mk) 0 n → d < m → d < m' → ∃ z, fB_numberAheadOf_4 m B T N lc (nI i) s (nI k) = some z ∧ fM_ranked_18 m' w pl (nI (cn (bg mk) 0 n)) (nI i) s (nI k) = some z := by
  have hn := h.1.1
  have hN := cn0_le (bg mk) n
  have h2 := hB.2.2.1
  intro d
  induction d with
  | zero =>
    intro k m m' s h1 h2 h3
    obtain ⟨m, rfl⟩ : ∃ q, m = q + 1 := ⟨m - 1, by omega⟩
    obtain ⟨m', rfl⟩ : ∃ q, m' = q + 1 := ⟨m' - 1, by omega⟩
    refine ⟨s, ?_, ?_⟩
    · rw [fB_numberAheadOf_4, hB.2.2.1]
      simp (disch := omega) only [jl_, nI_add, pk_sub, pk_mul, j_neg, jlt_t, jlt_f, jle_t, jle_f, jeq_t, jeq_f, jld, jst, obs, j_div, ↓reduceIte, if_true, if_false, Nat.add_zero, Nat.sub_zero, Nat.add_sub_cancel_left]
    · rw [fM_ranked_18]
      simp (disch := omega) only [jl_, nI_add, pk_sub, pk_mul, j_neg, jlt_t, jlt_f, jle_t, jle_f, jeq_t, jeq_f, jld, jst, obs, j_div, ↓reduceIte, if_true, if_false, Nat.add_zero, Nat.sub_zero, Nat.add_sub_cancel_left]
  | succ d ih =>
    intro k m m' s h1 h2 h3
    obtain ⟨m, rfl⟩ : ∃ q, m = q + 1 := ⟨m - 1, by omega⟩
    obtain ⟨m', rfl⟩ : ∃ q, m' = q + 1 := ⟨m' - 1, by omega⟩
    obtain ⟨b, e1, e2⟩ := isAhead_both h hB (show k < cn (bg mk) 0 n by omega) hi
    obtain ⟨z, f1, f2⟩ := ih (k + 1) m m' (s + nI (if b then 1 else 0)) (by omega) (by omega) (by omega)
    refine ⟨z, ?_, ?_⟩
    · rw [fB_numberAheadOf_4, e1]
      rw [hB.2.2.1] at f1 ⊢
      simp (disch := omega) only [jl_, jle_f, obs, nI_add]
      cases b
      · simp only [Bool.false_eq_true, if_false, j_z] at f1
        rw [bI_f, if_pos rfl]
        exact f1
      · simp only [if_true] at f1
        rw [bI_t, if_neg (by decide)]
        exact f1
    · rw [fM_ranked_18, e2]
      simp (disch := omega) only [jl_, jle_f, obs, nI_add]
      cases b
      · simp only [Bool.false_eq_true, if_false] at f2
        rw [bI_f, if_pos rfl]
        exact f2
      · simp only [if_true] at f2
        rw [bI_t, if_neg (by decide)]
        exact f2
theorem ranked_7 (h : LW L w n a mk) (hB : BG B T N lc (bg mk) n a) {pl : Int32} : ∀ d k m m', k + d = cn (bg mk) 0 n → d < m → d < m' → ∃ r r', fB_byTotal_2 m B T N lc pl (nI k) = some r ∧ fM_ranked_7 m' w pl (nI (cn (bg mk) 0 n)) (nI k) = some r' ∧ ((∃ q, q < 64 ∧ r = nI q ∧ r' = nI q) ∨ (r = -nI 1 ∧ r' = -nI 11)) := by
  have hn := h.1.1
  have hN := cn0_le (bg mk) n
  intro d
  induction d with
  | zero =>
    intro k m m' h1 h2 h3
    obtain ⟨m, rfl⟩ : ∃ q, m = q + 1 := ⟨m - 1, by omega⟩
    obtain ⟨m', rfl⟩ : ∃ q, m' = q + 1 := ⟨m' - 1, by omega⟩
    refine ⟨-nI 1, -nI 11, ?_, ?_, Or.inr ⟨rfl, rfl⟩⟩
    · rw [fB_byTotal_2, hB.2.2.1]
      simp (disch := omega) only [jl_, nI_add, pk_sub, pk_mul, j_neg, jlt_t, jlt_f, jle_t, jle_f, jeq_t, jeq_f, jld, jst, obs, j_div, ↓reduceIte, if_true, if_false, Nat.add_zero, Nat.sub_zero, Nat.add_sub_cancel_left]
    · rw [fM_ranked_7]
      simp (disch := omega) only [jl_, nI_add, pk_sub, pk_mul, j_neg, jlt_t, jlt_f, jle_t, jle_f, jeq_t, jeq_f, jld, jst, obs, j_div, ↓reduceIte, if_true, if_false, Nat.add_zero, Nat.sub_zero, Nat.add_sub_cancel_left]
  | succ d ih =>
    intro k m m' h1 h2 h3
    obtain ⟨m, rfl⟩ : ∃ q, m = q + 1 := ⟨m - 1, by omega⟩
    obtain ⟨m', rfl⟩ : ∃ q, m' = q + 1 := ⟨m' - 1, by omega⟩
    obtain ⟨r, r', f1, f2, f3⟩ := ih (k + 1) m m' (by omega) (by omega) (by omega)
    obtain ⟨z, e1, e2⟩ := ranked_18 h hB (show k < cn (bg mk) 0 n by omega) (pl := pl) (cn (bg mk) 0 n) 0 FU FU (nI 0) (by omega) (fu_lt (by omega)) (fu_lt (by omega))
    have e3 : fB_numberAheadOf B T N lc (nI k) = some z := e1
    rw [fB_byTotal_2, e3, fM_ranked_7]
    by_cases c : z = pl
    · refine ⟨nI k, nI k, ?_, ?_, Or.inl ⟨k, by omega, rfl, rfl⟩⟩
      · rw [hB.2.2.1]
        simp (disch := omega) only [jl_, jle_f, obs]
        rw [if_pos c]
      · simp (disch := omega) only [jl_, jle_f, obs]
        rw [e2]
        simp only [obs]
        rw [if_pos c]
    · refine ⟨r, r', ?_, ?_, f3⟩
      · rw [hB.2.2.1] at f1 ⊢
        simp (disch := omega) only [jl_, jle_f, obs, nI_add]
        rw [if_neg c]
        exact f1
      · simp (disch := omega) only [jl_, jle_f, obs, nI_add]
        rw [e2]
        simp only [obs]
        rw [if_neg c]
        exact f2
theorem ranked_both (h : LW L w n a mk) {bags : TB} (hB : BG bags.1 bags.2.1 bags.2.2.1 bags.2.2.2 (bg mk) n a) (pl : Int32) : ∃ r, fS_ranked bags pl = some r ∧ fM_ranked w pl = some r := by
  have hn := h.1.1
  have hN := cn0_le (bg mk) n
  obtain ⟨r, r', e1, e2, e3⟩ := ranked_7 h hB (pl := pl) (cn (bg mk) 0 n) 0 FU FU (by omega) (fu_lt (by omega)) (fu_lt (by omega))
  have e4 : fB_byTotal bags.1 bags.2.1 bags.2.2.1 bags.2.2.2 pl = some r := by
    unfold fB_byTotal
    simp only [jl_]
    exact e1
  refine ⟨r', ?_, ?_⟩
  · unfold fS_ranked
    rw [e4]
    rcases e3 with ⟨q, hq, rfl, rfl⟩ | ⟨rfl, rfl⟩
    · simp (disch := omega) only [jl_, obs, jle_t]
    · simp (disch := omega) only [jl_, obs, jz_f]
  · unfold fM_ranked
    rw [mbags_sp h]
    simp only [jl_, obs]
    exact e2
end MB
