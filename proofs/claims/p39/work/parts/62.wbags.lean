/-! bags by their totals -/
/-- where the bag j begins -/
noncomputable def bgn (mk : Nat → Bool) (n j : Nat) : Nat := Classical.choose (IsB.ex (bg mk) n j)
theorem bgn_is (mk : Nat → Bool) (n j : Nat) : IsB (bg mk) n j (bgn mk n j) := Classical.choose_spec (IsB.ex (bg mk) n j)
theorem bgn_le (mk : Nat → Bool) (n j : Nat) : bgn mk n j ≤ bgn mk n (j + 1) := (bgn_is mk n j).le (bgn_is mk n (j + 1))
theorem bgn_n (mk : Nat → Bool) (n j : Nat) : bgn mk n j ≤ n := (bgn_is mk n j).1
theorem bgn_lt (mk : Nat → Bool) {n j : Nat} (h : j < cn (bg mk) 0 n) : bgn mk n j < bgn mk n (j + 1) := bag_pos (bgn_is mk n j) (bgn_is mk n (j + 1)) h
theorem bgn_0 (mk : Nat → Bool) (n : Nat) : bgn mk n 0 = 0 := (bgn_is mk n 0).one (IsB.zero (bg_0 mk) n)
theorem bgn_end (mk : Nat → Bool) (n : Nat) : bgn mk n (cn (bg mk) 0 n) = n := (bgn_is mk n _).stop (Nat.le_refl _)
noncomputable def szB (mk : Nat → Bool) (n j : Nat) : Nat := bgn mk n (j + 1) - bgn mk n j
noncomputable def ttB (mk : Nat → Bool) (n : Nat) (a : Nat → Nat) (j : Nat) : Nat := sm a (bgn mk n j) (szB mk n j)
/-- i goes ahead of j -/
noncomputable def ahB (mk : Nat → Bool) (n : Nat) (a : Nat → Nat) (i j : Nat) : Bool := decide (ttB mk n a j < ttB mk n a i ∨ (ttB mk n a i = ttB mk n a j ∧ (szB mk n i < szB mk n j ∨ (szB mk n i = szB mk n j ∧ i < j))))
theorem ahB_iff (mk : Nat → Bool) (n : Nat) (a : Nat → Nat) (i j : Nat) : ahB mk n a i j = true ↔ (ttB mk n a j < ttB mk n a i ∨ (ttB mk n a i = ttB mk n a j ∧ (szB mk n i < szB mk n j ∨ (szB mk n i = szB mk n j ∧ i < j)))) := decide_eq_true_iff
theorem toB (mk : Nat → Bool) (n : Nat) (a : Nat → Nat) (N : Nat) : TO (ahB mk n a) (fun _ => true) N := by
  refine ⟨fun i => ?_, fun i j k h1 h2 => ?_, fun i j h => ?_, fun i j _ _ _ _ => rfl⟩
  · cases h : ahB mk n a i i
    · rfl
    · rw [ahB_iff] at h; omega
  · rw [ahB_iff] at h1 h2 ⊢; omega
  · rw [ahB_iff, ahB_iff]; omega
theorem NB_eq (mk : Nat → Bool) (n : Nat) (a : Nat → Nat) (N i : Nat) : NA (ahB mk n a) N i = cn (fun j => ahB mk n a j i) 0 N := rfl
section B
variable {B T : Nat → Int32} {N lc : Int32} {n : Nat} {a : Nat → Nat} {mk : Nat → Bool}
theorem ttB_le (ha : ∀ p, p < n → a p < 32) (hn : n ≤ 64) (j : Nat) : ttB mk n a j ≤ 2048 := by
  have h1 := bgn_n mk n (j + 1)
  have h2 := bgn_le mk n j
  have h3 : ttB mk n a j ≤ szB mk n j * 32 := sm_le (fun p _ hp => Nat.le_of_lt (ha p (by unfold szB at hp; omega)))
  unfold szB at h3
  omega
theorem isAheadB (ha : ∀ p, p < n → a p < 32) (hB : BG B T N lc (bg mk) n a) {i j : Nat} (hi : i < cn (bg mk) 0 n) (hj : j < cn (bg mk) 0 n) : fB_isAhead B T N lc (nI i) (nI j) = some (bI (ahB mk n a i j)) := by
  have hn := hB.1
  have hN := cn0_le (bg mk) n
  have si := ttB_le (mk := mk) ha hn i
  have sj := ttB_le (mk := mk) ha hn j
  have li := bgn_le mk n i
  have lj := bgn_le mk n j
  have ni := bgn_n mk n (i + 1)
  have nj := bgn_n mk n (j + 1)
  have t1 := totalOf_sp hB (bgn_is mk n i) (bgn_is mk n (i + 1)) hi
  have t2 := totalOf_sp hB (bgn_is mk n j) (bgn_is mk n (j + 1)) hj
  rw [show sm a (bgn mk n i) (bgn mk n (i + 1) - bgn mk n i) = ttB mk n a i from rfl] at t1
  rw [show sm a (bgn mk n j) (bgn mk n (j + 1) - bgn mk n j) = ttB mk n a j from rfl] at t2
  unfold fB_isAhead
  rw [t1, t2, endOf_sp hB (bgn_is mk n (i + 1)) (by omega), beginOf_sp hB (bgn_is mk n i) (by omega), endOf_sp hB (bgn_is mk n (j + 1)) (by omega), beginOf_sp hB (bgn_is mk n j) (by omega)]
  simp (disch := omega) only [obs, pk_sub, jl_]
  have zi : bgn mk n (i + 1) - bgn mk n i = szB mk n i := rfl
  have zj : bgn mk n (j + 1) - bgn mk n j = szB mk n j := rfl
  rw [zi, zj]
  have wi : szB mk n i ≤ 64 := by omega
  have wj : szB mk n j ≤ 64 := by omega
  cases hh : ahB mk n a i j
  · have hx : ¬ (ttB mk n a j < ttB mk n a i ∨ (ttB mk n a i = ttB mk n a j ∧ (szB mk n i < szB mk n j ∨ (szB mk n i = szB mk n j ∧ i < j)))) := fun z => by rw [(ahB_iff mk n a i j).mpr z] at hh; cases hh
    by_cases c1 : ttB mk n a i = ttB mk n a j
    · rw [jeq_t c1]
      by_cases c2 : szB mk n i = szB mk n j
      · rw [jeq_t c2, jle_t (by omega) (by omega)]; rfl
      · rw [jeq_f c2 (by omega) (by omega), jle_t (by omega) (by omega)]; rfl
    · rw [jeq_f c1 (by omega) (by omega), jle_t (by omega) (by omega)]; rfl
  · have hx := (ahB_iff mk n a i j).mp hh
    by_cases c1 : ttB mk n a i = ttB mk n a j
    · rw [jeq_t c1]
      by_cases c2 : szB mk n i = szB mk n j
      · rw [jeq_t c2, jle_f (by omega) (by omega)]; rfl
      · rw [jeq_f c2 (by omega) (by omega), jle_f (by omega) (by omega)]; rfl
    · rw [jeq_f c1 (by omega) (by omega), jle_f (by omega) (by omega)]; rfl
theorem numB_4 (ha : ∀ p, p < n → a p < 32) (hB : BG B T N lc (bg mk) n a) {i : Nat} (hi : i < cn (bg mk) 0 n) : ∀ d k m s, k + d = cn (bg mk) 0 n → d < m → fB_numberAheadOf_4 m B T N lc (nI i) (nI s) (nI k) = some (nI (s + cn (fun j => ahB mk n a j i) k d)) := by
  have hn := hB.1
  have hN := cn0_le (bg mk) n
  intro d
  induction d with
  | zero =>
    intro k m s h1 h2
    obtain ⟨m, rfl⟩ : ∃ q, m = q + 1 := ⟨m - 1, by omega⟩
    rw [fB_numberAheadOf_4, hB.2.2.1]
    simp (disch := omega) only [jle_t]
    rfl
  | succ d ih =>
    intro k m s h1 h2
    obtain ⟨m, rfl⟩ : ∃ q, m = q + 1 := ⟨m - 1, by omega⟩
    have e1 := isAheadB ha hB (show k < cn (bg mk) 0 n by omega) hi
    have i1 := ih (k + 1) m s (by omega) (by omega)
    have i2 := ih (k + 1) m (s + 1) (by omega) (by omega)
    rw [fB_numberAheadOf_4, e1, cn_s]
    rw [hB.2.2.1] at i1 i2 ⊢
    simp (disch := omega) only [jl_, jle_f, obs, nI_add]
    cases hh : ahB mk n a k i
    · rw [bI_f, if_pos rfl, if_neg (by decide : ¬ false = true), Nat.zero_add]
      exact i1
    · rw [bI_t, if_neg (by decide), if_pos rfl, ← Nat.add_assoc]
      exact i2
theorem numB_sp (ha : ∀ p, p < n → a p < 32) (hB : BG B T N lc (bg mk) n a) {i : Nat} (hi : i < cn (bg mk) 0 n) : fB_numberAheadOf B T N lc (nI i) = some (nI (NA (ahB mk n a) (cn (bg mk) 0 n) i)) := by
  have hn := hB.1
  have hN := cn0_le (bg mk) n
  have e := numB_4 ha hB hi (cn (bg mk) 0 n) 0 FU 0 (by omega) (fu_lt (by omega))
  rw [Nat.zero_add] at e
  exact e
theorem byB_2 (ha : ∀ p, p < n → a p < 32) (hB : BG B T N lc (bg mk) n a) {k : Nat} (hk : k < 2147483648) : ∀ d v m, v + d = cn (bg mk) 0 n → d < m → (∀ u, u < v → NA (ahB mk n a) (cn (bg mk) 0 n) u ≠ k) →
    (∃ q, q < cn (bg mk) 0 n ∧ NA (ahB mk n a) (cn (bg mk) 0 n) q = k ∧ fB_byTotal_2 m B T N lc (nI k) (nI v) = some (nI q)) ∨ ((∀ u, u < cn (bg mk) 0 n → NA (ahB mk n a) (cn (bg mk) 0 n) u ≠ k) ∧ fB_byTotal_2 m B T N lc (nI k) (nI v) = some (-nI 1)) := by
  have hn := hB.1
  have hN := cn0_le (bg mk) n
  intro d
  induction d with
  | zero =>
    intro v m h1 h2 h3
    obtain ⟨m, rfl⟩ : ∃ q, m = q + 1 := ⟨m - 1, by omega⟩
    right
    have e : v = cn (bg mk) 0 n := by omega
    subst e
    refine ⟨h3, ?_⟩
    rw [fB_byTotal_2, hB.2.2.1]
    simp (disch := omega) only [jle_t]
    rfl
  | succ d ih =>
    intro v m h1 h2 h3
    obtain ⟨m, rfl⟩ : ∃ q, m = q + 1 := ⟨m - 1, by omega⟩
    have hv : v < cn (bg mk) 0 n := by omega
    have hb := NA_bound (toB mk n a (cn (bg mk) 0 n)) hv
    rw [fB_byTotal_2, numB_sp ha hB hv, hB.2.2.1]
    simp (disch := omega) only [jl_, jle_f, obs, nI_add]
    by_cases e : NA (ahB mk n a) (cn (bg mk) 0 n) v = k
    · left
      refine ⟨v, hv, e, ?_⟩
      rw [jeq_t e]
    · rw [jeq_f e (by omega) hk]
      have i1 := ih (v + 1) m (by omega) (by omega) (fun u hu z => by
        by_cases eu : u = v
        · subst eu; exact e z
        · exact h3 u (by omega) z)
      rw [hB.2.2.1] at i1
      exact i1
end B
section V
variable {L : TL} {w : Nat → Int32} {R : TR} {B : TB} {n : Nat} {a : Nat → Nat} {mk : Nat → Bool}
def CB (ah : Nat → Nat → Bool) (N k q : Nat) : Prop := q < N ∧ NA ah N q = k
theorem ranked_t (h : LW L w n a mk) (hB : BG B.1 B.2.1 B.2.2.1 B.2.2.2 (bg mk) n a) {k q : Nat} (hk : k < 2147483648) (hq : CB (ahB mk n a) (cn (bg mk) 0 n) k q) : fW_ranked B (nI k) = some (lN q) := by
  have hn := h.1.1
  have hN := cn0_le (bg mk) n
  unfold fW_ranked fS_ranked
  rcases byB_2 h.1.2.1 hB hk (cn (bg mk) 0 n) 0 FU (by omega) (fu_lt (by omega)) (fun u hu => by omega) with ⟨q', h1, h2, h3⟩ | ⟨h1, h2⟩
  · have e := NA_inj (toB mk n a (cn (bg mk) 0 n)) h1 hq.1 (h2.trans hq.2.symm)
    subst e
    have h5 : fB_byTotal B.1 B.2.1 B.2.2.1 B.2.2.2 (nI k) = some (nI q') := h3
    rw [h5]
    have := hq.1
    simp (disch := omega) only [jl_, obs, jle_t, nI_l]
  · exact absurd hq.2 (h1 q hq.1)
theorem ranked_f (h : LW L w n a mk) (hB : BG B.1 B.2.1 B.2.2.1 B.2.2.2 (bg mk) n a) {k : Nat} (hk : k < 2147483648) (hq : ∀ q, ¬ CB (ahB mk n a) (cn (bg mk) 0 n) k q) : fW_ranked B (nI k) = some (-nI 11).toInt64 := by
  have hn := h.1.1
  have hN := cn0_le (bg mk) n
  unfold fW_ranked fS_ranked
  rcases byB_2 h.1.2.1 hB hk (cn (bg mk) 0 n) 0 FU (by omega) (fu_lt (by omega)) (fun u hu => by omega) with ⟨q', h1, h2, h3⟩ | ⟨h1, h2⟩
  · exact absurd ⟨h1, h2⟩ (hq q')
  · have h5 : fB_byTotal B.1 B.2.1 B.2.2.1 B.2.2.2 (nI k) = some (-nI 1) := h2
    rw [h5]
    simp (disch := omega) only [jl_, obs, jz_f]
theorem CB_less {mk : Nat → Bool} {n : Nat} {a : Nat → Nat} {N k q q' : Nat} (h : CB (ahB mk n a) N k q) (h2 : CB (ahB mk n a) N (k + 1) q') : ttB mk n a q' ≤ ttB mk n a q := by
  rcases Nat.lt_or_ge (ttB mk n a q) (ttB mk n a q') with z | z
  · have := NA_lt (toB mk n a N) h2.1 ((ahB_iff mk n a q' q).mpr (Or.inl z))
    have := h.2
    have := h2.2
    omega
  · exact z
/-- what a bag's accounts are -/
theorem bag_all (h : LW L w n a mk) (hR : RO R n a) (hB : BG B.1 B.2.1 B.2.2.1 B.2.2.2 (bg mk) n a) {j : Nat} (hj : j < cn (bg mk) 0 n) (Y : TY) :
    fW_bagOf L R B Y (nI j) (nI 0) = some (lN (bgn mk n j), Y) ∧ fW_bagOf L R B Y (nI j) (nI 1) = some (lN (szB mk n j), Y) ∧ fW_bagOf L R B Y (nI j) (nI 2) = some (lN (ttB mk n a j), Y) ∧
    (∀ v, v < 32 → fR_weightBySize R.1 R.2.1 R.2.2.1 R.2.2.2.2.2 (nI (bgn mk n j)) (nI (bgn mk n (j + 1))) (nI ((szB mk n j - 1) / 2)) = some (nI v) → fW_bagOf L R B Y (nI j) (nI 3) = some (lN v, Y)) ∧
    (∀ v, v < 32 → fR_weightBySize R.1 R.2.1 R.2.2.1 R.2.2.2.2.2 (nI (bgn mk n j)) (nI (bgn mk n (j + 1))) (nI (szB mk n j - 1)) = some (nI v) → fW_bagOf L R B Y (nI j) (nI 4) = some (lN v, Y)) := by
  have hn := h.1.1
  have hN := cn0_le (bg mk) n
  have l1 := bgn_lt mk hj
  have l2 := bgn_n mk n (j + 1)
  have l3 := ttB_le (mk := mk) h.1.2.1 hn j
  have b1 := beginOf_sp hB (bgn_is mk n j) (by omega)
  have b2 := endOf_sp hB (bgn_is mk n (j + 1)) (by omega)
  have b3 := totalOf_sp hB (bgn_is mk n j) (bgn_is mk n (j + 1)) hj
  rw [show sm a (bgn mk n j) (bgn mk n (j + 1) - bgn mk n j) = ttB mk n a j from rfl] at b3
  have z : szB mk n j = bgn mk n (j + 1) - bgn mk n j := rfl
  have e0 : ∀ x, fW_bagOf L R B Y (nI j) x = Option.bind (if x = nI 0 then some (nI (bgn mk n j), Y) else if x = nI 1 then some (nI (szB mk n j), Y) else if x = nI 2 then some (nI (ttB mk n a j), Y) else if x = nI 3 then (Option.bind (fR_weightBySize R.1 R.2.1 R.2.2.1 R.2.2.2.2.2 (nI (bgn mk n j)) (nI (bgn mk n (j + 1))) (nI ((szB mk n j - 1) / 2))) fun t => some (t, Y)) else if x = nI 4 then (Option.bind (fR_weightBySize R.1 R.2.1 R.2.2.1 R.2.2.2.2.2 (nI (bgn mk n j)) (nI (bgn mk n (j + 1))) (nI (szB mk n j - 1))) fun t => some (t, Y)) else if x = nI 5 then (Option.bind (fY_fill Y L.1 (nI (bgn mk n j)) (nI (bgn mk n (j + 1)))) fun t8 => Option.bind (fY_unlike t8) fun t9 => some (t9, t8)) else some (-nI 12, Y)) fun t : Int32 × TY => some (t.1.toInt64, t.2) := by
    intro x
    unfold fW_bagOf fS_bagOf fB_number
    rw [b1, b2, b3, hB.2.2.1]
    simp (disch := omega) only [jl_, jlt_f, jlt_t, obs, pk_sub, j_div]
    rw [z]
  refine ⟨?_, ?_, ?_, fun v hv e => ?_, fun v hv e => ?_⟩
  · rw [e0, if_pos rfl]
    simp (disch := omega) only [obs, nI_l]
  · rw [e0, if_neg (by decide), if_pos rfl]
    simp (disch := omega) only [obs, nI_l]
  · rw [e0, if_neg (by decide), if_neg (by decide), if_pos rfl]
    simp (disch := omega) only [obs, nI_l]
  · rw [e0, if_neg (by decide), if_neg (by decide), if_neg (by decide), if_pos rfl, e]
    simp (disch := omega) only [obs, nI_l]
  · rw [e0, if_neg (by decide), if_neg (by decide), if_neg (by decide), if_neg (by decide), if_pos rfl, e]
    simp (disch := omega) only [obs, nI_l]
/-- the bag that has a letter -/
theorem wr_bagAt (h : LW L w n a mk) (hB : BG B.1 B.2.1 B.2.2.1 B.2.2.2 (bg mk) n a) {k : Nat} (hk : k < n) : ∃ j, j < cn (bg mk) 0 n ∧ bgn mk n j ≤ k ∧ k < bgn mk n (j + 1) ∧ fW_bagAt L B (nI k) = some (lN j) := by
  have hn := h.1.1
  have h1 := cn_mono (bg mk) 0 (show 1 ≤ k + 1 by omega)
  rw [show cn (bg mk) 0 1 = 1 from rfl] at h1
  have h2 := cn_mono (bg mk) 0 (show k + 1 ≤ n by omega)
  have h3 := cn0_le (bg mk) n
  refine ⟨cn (bg mk) 0 (k + 1) - 1, by omega, ?_, ?_, ?_⟩
  · obtain ⟨a1, a2, a3⟩ := bgn_is mk n (cn (bg mk) 0 (k + 1) - 1)
    rcases Nat.lt_or_ge k (bgn mk n (cn (bg mk) 0 (k + 1) - 1)) with c | c
    · have := cn_mono (bg mk) 0 (show k + 1 ≤ bgn mk n (cn (bg mk) 0 (k + 1) - 1) by omega)
      omega
    · exact c
  · obtain ⟨a1, a2, a3⟩ := bgn_is mk n (cn (bg mk) 0 (k + 1) - 1 + 1)
    rcases Nat.lt_or_ge k (bgn mk n (cn (bg mk) 0 (k + 1) - 1 + 1)) with c | c
    · exact c
    · have h4 := a3 (by omega)
      have := cn_mono (bg mk) 0 (show bgn mk n (cn (bg mk) 0 (k + 1) - 1 + 1) + 1 ≤ k + 1 by omega)
      omega
  · unfold fW_bagAt fS_bagAt
    rw [has_t h hk, bagWith_sp hB hk]
    simp (disch := omega) only [jl_, jeq_f, obs, nI_l]
end V
