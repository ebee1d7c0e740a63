/-! common weights: the places by numbers -/
section Y
variable {g : Nat → Int32} {c : Nat → Nat}
def ahY (c : Nat → Nat) (j i : Nat) : Bool := decide (c i < c j) || (c j == c i && decide (j < i))
def prY (c : Nat → Nat) (i : Nat) : Bool := decide (0 < c i)
theorem ahY_iff (c : Nat → Nat) (j i : Nat) : ahY c j i = true ↔ (c i < c j ∨ (c j = c i ∧ j < i)) := by
  unfold ahY
  simp
theorem toY (c : Nat → Nat) (N : Nat) : TO (ahY c) (prY c) N := by
  refine ⟨fun i => ?_, fun i j k h1 h2 => ?_, fun i j h => ?_, fun i j _ _ hp h => ?_⟩
  · cases h : ahY c i i
    · rfl
    · rw [ahY_iff] at h; omega
  · rw [ahY_iff] at h1 h2 ⊢; omega
  · rw [ahY_iff, ahY_iff]; omega
  · unfold prY at hp ⊢
    rw [ahY_iff] at h
    simp only [decide_eq_true_eq] at hp ⊢
    omega
theorem numY_29 (hg : ∀ v, v < 32 → g v = nI (c v)) (hc : ∀ v, v < 32 → c v ≤ 64) {q : Nat} (hq : q < 32) : ∀ d v m s, v + d = 32 → d < m → fY_numberAheadOf_29 m g (nI q) (nI (c q)) (nI s) (nI v) = some (nI (s + cn (fun j => ahY c j q) v d)) := by
  intro d
  induction d with
  | zero =>
    intro v m s h1 h2
    obtain ⟨m, rfl⟩ : ∃ q, m = q + 1 := ⟨m - 1, by omega⟩
    rw [fY_numberAheadOf_29]
    simp (disch := omega) only [jl_, nI_add, pk_sub, pk_mul, j_neg, jlt_t, jlt_f, jle_t, jle_f, jeq_t, jeq_f, jld, jst, obs, j_div, ↓reduceIte, if_true, if_false, Nat.add_zero, Nat.sub_zero, Nat.add_sub_cancel_left]
    rfl
  | succ d ih =>
    intro v m s h1 h2
    obtain ⟨m, rfl⟩ : ∃ q, m = q + 1 := ⟨m - 1, by omega⟩
    have c1 := hc v (by omega)
    have c2 := hc q hq
    have i1 := ih (v + 1) m s (by omega) (by omega)
    have i2 := ih (v + 1) m (s + 1) (by omega) (by omega)
    rw [fY_numberAheadOf_29, cn_s]
    simp (disch := omega) only [jl_, jle_f, jld, obs, nI_add]
    rw [hg v (by omega)]
    cases hh : ahY c v q
    · have hn : ¬ (c q < c v ∨ (c v = c q ∧ v < q)) := fun z => by rw [(ahY_iff c v q).mpr z] at hh; cases hh
      rw [jlt_f (by omega) (by omega), if_neg (by decide : ¬ false = true), Nat.zero_add]
      by_cases e : c v = c q
      · rw [jeq_t e, jle_t (by omega) (by omega)]
        exact i1
      · rw [jeq_f e (by omega) (by omega)]
        exact i1
    · have hy := (ahY_iff c v q).mp hh
      rw [if_pos rfl, ← Nat.add_assoc]
      by_cases e : c q < c v
      · rw [jlt_t e (by omega)]
        exact i2
      · rw [jlt_f (by omega) (by omega), jeq_t (by omega), jle_f (by omega) (by omega)]
        exact i2
theorem numY_sp (hg : ∀ v, v < 32 → g v = nI (c v)) (hc : ∀ v, v < 32 → c v ≤ 64) {q : Nat} (hq : q < 32) : fY_numberAheadOf g (nI q) = some (nI (NA (ahY c) 32 q)) := by
  have e := numY_29 hg hc hq 32 0 FU 0 (by omega) (fu_lt (by omega))
  rw [Nat.zero_add] at e
  unfold fY_numberAheadOf
  simp (disch := omega) only [jl_, jlt_f, jle_f, jld, obs]
  rw [hg q hq]
  exact e
theorem byY_2 (hg : ∀ v, v < 32 → g v = nI (c v)) (hc : ∀ v, v < 32 → c v ≤ 64) {k : Nat} (hk : k < 2147483648) : ∀ d v m, v + d = 32 → d < m → (∀ u, u < v → ¬ (prY c u = true ∧ NA (ahY c) 32 u = k)) →
    (∃ q, q < 32 ∧ prY c q = true ∧ NA (ahY c) 32 q = k ∧ fY_byNumber_2 m g (nI k) (nI v) = some (nI q)) ∨ ((∀ u, u < 32 → ¬ (prY c u = true ∧ NA (ahY c) 32 u = k)) ∧ fY_byNumber_2 m g (nI k) (nI v) = some (-nI 1)) := by
  intro d
  induction d with
  | zero =>
    intro v m h1 h2 h3
    obtain ⟨m, rfl⟩ : ∃ q, m = q + 1 := ⟨m - 1, by omega⟩
    right
    have e : v = 32 := by omega
    subst e
    refine ⟨h3, ?_⟩
    rw [fY_byNumber_2]
    simp (disch := omega) only [jl_, nI_add, pk_sub, pk_mul, j_neg, jlt_t, jlt_f, jle_t, jle_f, jeq_t, jeq_f, jld, jst, obs, j_div, ↓reduceIte, if_true, if_false, Nat.add_zero, Nat.sub_zero, Nat.add_sub_cancel_left]
  | succ d ih =>
    intro v m h1 h2 h3
    obtain ⟨m, rfl⟩ : ∃ q, m = q + 1 := ⟨m - 1, by omega⟩
    have hv : v < 32 := by omega
    have c1 := hc v hv
    have hb := NA_bound (toY c 32) hv
    rw [fY_byNumber_2, numY_sp hg hc hv]
    simp (disch := omega) only [jl_, jle_f, jld, obs, nI_add]
    rw [hg v hv]
    by_cases hp : 0 < c v
    · rw [jle_f hp (by omega)]
      by_cases e : NA (ahY c) 32 v = k
      · left
        refine ⟨v, hv, decide_eq_true hp, e, ?_⟩
        rw [jeq_t e]
      · rw [jeq_f e (by omega) hk]
        exact ih (v + 1) m (by omega) (by omega) (fun u hu z => by
          by_cases eu : u = v
          · subst eu; exact e z.2
          · exact h3 u (by omega) z)
    · rw [jle_t (by omega) (by omega)]
      exact ih (v + 1) m (by omega) (by omega) (fun u hu z => by
        by_cases eu : u = v
        · subst eu
          have := z.1
          unfold prY at this
          simp only [decide_eq_true_eq] at this
          omega
        · exact h3 u (by omega) z)
end Y
section V
variable {L : TL} {w : Nat → Int32} {R : TR} {B : TB} {n : Nat} {a : Nat → Nat} {mk : Nat → Bool}
/-- how often a weight is in a part -/
def kP (a : Nat → Nat) (f t v : Nat) : Nat := cn (fun p => a p == v) f (t - f)
theorem wr_common (h : LW L w n a mk) {f t k : Nat} (hf : f ≤ t) (ht : t ≤ n) (hk : k < 2147483648) (Y : TY) : ∃ Y',
    (∃ q, q < 32 ∧ prY (kP a f t) q = true ∧ NA (ahY (kP a f t)) 32 q = k ∧ fW_mostCommon L Y (nI f) (nI t) (nI k) = some (lN q, Y')) ∨ ((∀ u, u < 32 → ¬ (prY (kP a f t) u = true ∧ NA (ahY (kP a f t)) 32 u = k)) ∧ fW_mostCommon L Y (nI f) (nI t) (nI k) = some ((-nI 11).toInt64, Y')) := by
  have hn := h.1.1
  obtain ⟨g, eg, hg⟩ := yfill_sp (a := a) hn h.2.2.1 h.1.2.1 hf ht Y
  refine ⟨g, ?_⟩
  have hc : ∀ v, v < 32 → kP a f t v ≤ 64 := fun v _ => by
    have := cn_le (fun p => a p == v) f (t - f)
    unfold kP
    omega
  have hb := byY_2 (c := kP a f t) hg hc hk 32 0 FU (by omega) (fu_lt (by omega)) (fun u hu => by omega)
  unfold fW_mostCommon fS_common
  rw [part_t h hf ht, eg]
  simp (disch := omega) only [jl_, jeq_f, obs]
  rcases hb with ⟨q, h1, h2, h3, h4⟩ | ⟨h1, h2⟩
  · left
    have h5 : fY_byNumber g (nI k) = some (nI q) := h4
    refine ⟨q, h1, h2, h3, ?_⟩
    rw [h5]
    simp (disch := omega) only [obs, jle_t, nI_l]
  · right
    have h5 : fY_byNumber g (nI k) = some (-nI 1) := h2
    refine ⟨h1, ?_⟩
    rw [h5]
    simp (disch := omega) only [obs, jz_f]
end V
