/-! the law's look at a part -/
section V
variable {L : TL} {w : Nat → Int32} {R : TR} {B : TB} {n : Nat} {a : Nat → Nat} {mk : Nat → Bool}
def CM (c : Nat → Nat) (k q : Nat) : Prop := q < 32 ∧ prY c q = true ∧ NA (ahY c) 32 q = k
theorem common_t (h : LW L w n a mk) {f t k q : Nat} (hf : f ≤ t) (ht : t ≤ n) (hk : k < 2147483648) (hq : CM (kP a f t) k q) (Y : TY) : ∃ Y', fW_mostCommon L Y (nI f) (nI t) (nI k) = some (lN q, Y') := by
  obtain ⟨Y', ⟨q', h1, h2, h3, h4⟩ | ⟨h1, h2⟩⟩ := wr_common h hf ht hk Y
  · have e := NA_inj (toY (kP a f t) 32) h1 hq.1 (h3.trans hq.2.2.symm)
    subst e
    exact ⟨Y', h4⟩
  · exact absurd hq.2 (h1 q hq.1)
theorem common_f (h : LW L w n a mk) {f t k : Nat} (hf : f ≤ t) (ht : t ≤ n) (hk : k < 2147483648) (hq : ∀ q, ¬ CM (kP a f t) k q) (Y : TY) : ∃ Y', fW_mostCommon L Y (nI f) (nI t) (nI k) = some ((-nI 11).toInt64, Y') := by
  obtain ⟨Y', ⟨q', h1, h2, h3, h4⟩ | ⟨h1, h2⟩⟩ := wr_common h hf ht hk Y
  · exact absurd ⟨h1, h2, h3⟩ (hq q')
  · exact ⟨Y', h2⟩
theorem CM_less {c : Nat → Nat} {k q q' : Nat} (h : CM c k q) (h2 : CM c (k + 1) q') : c q' ≤ c q := by
  rcases Nat.lt_or_ge (c q) (c q') with z | z
  · have := NA_lt (toY c 32) h2.1 ((ahY_iff c q' q).mpr (Or.inl z))
    have := h.2.2
    have := h2.2.2
    omega
  · exact z
theorem part_163 (h : LW L w n a mk) (hR : RO R n a) {f t : Nat} (hf : f ≤ t) (ht : t ≤ n) (Z : TZ) : ∀ d k m (Y : TY), k + d = 33 → d < m → below (ahY (kP a f t)) (prY (kP a f t)) 32 k = k →
    ∃ Y', fW_part_163 m L R Y Z (nI f) (nI t) (lN (smB (kP a f t) (fun v => prY (kP a f t) v && decide (NA (ahY (kP a f t)) 32 v < k)) 32)) (nI k) = some (nI 1, Y', Z) := by
  have hn := h.1.1
  have hcs : ∀ v, kP a f t v ≤ t - f := fun v => cn_le _ _ _
  intro d
  induction d with
  | zero =>
    intro k m Y h1 h2 h3
    have := cn_le (fun i => prY (kP a f t) i && decide (NA (ahY (kP a f t)) 32 i < k)) 0 32
    unfold below at h3
    omega
  | succ d ih =>
    intro k m Y h1 h2 h3
    obtain ⟨m, rfl⟩ : ∃ q, m = q + 1 := ⟨m - 1, by omega⟩
    have hT := toY (kP a f t) 32
    rw [fW_part_163]
    simp only [show (1 : Int32) = nI 1 from rfl]
    rw [nI_add]
    by_cases hq : ∃ q, CM (kP a f t) k q
    · obtain ⟨q, hq⟩ := hq
      have e2 := wr_count h hR hf ht hq.1
      have hb : below (ahY (kP a f t)) (prY (kP a f t)) 32 (k + 1) = k + 1 := by
        rw [below_s hT, h3]
        have l1 := below_1 hT k
        have l2 : cn (fun _ => false) 0 32 < cn (fun i => prY (kP a f t) i && (NA (ahY (kP a f t)) 32 i == k)) 0 32 := cn_lt_of (fun _ _ z => by cases z) hq.1 rfl (by rw [hq.2.1, hq.2.2]; simp)
        omega
      have hs : smB (kP a f t) (fun v => prY (kP a f t) v && decide (NA (ahY (kP a f t)) 32 v < k + 1)) 32 = smB (kP a f t) (fun v => prY (kP a f t) v && decide (NA (ahY (kP a f t)) 32 v < k)) 32 + kP a f t q := by
        refine smB_one hq.1 ?_ ?_ (fun j hj hjq => ?_)
        · show (_ && _) = _
          rw [hq.2.2, hq.2.1]
          simp
        · show (_ && _) = _
          rw [hq.2.2, hq.2.1]
          simp
        · show (_ && _) = (_ && _)
          congr 1
          refine decide_eq_decide.mpr ⟨fun z => ?_, fun z => by omega⟩
          have : NA (ahY (kP a f t)) 32 j ≠ k := fun e => hjq (NA_inj hT hj hq.1 (e.trans hq.2.2.symm))
          omega
      obtain ⟨Y1, c1⟩ := common_t h hf ht (show k < 2147483648 by omega) hq Y
      obtain ⟨Y2, c2⟩ := common_t h hf ht (show k < 2147483648 by omega) hq Y1
      have e2' : fW_count L R (nI f) (nI t) (nI q) = some (lN (kP a f t q)) := e2
      have b := hcs q
      rw [c1, obs]
      show ∃ Y', (if lg_cmp (lN q) (0 : Int64) < 0 then _ else _) = _
      rw [lN0_lt (by have := hq.1; omega), c2, obs, lN_i, e2', obs]
      by_cases hq2 : ∃ q2, CM (kP a f t) (k + 1) q2
      · obtain ⟨q2, hq2⟩ := hq2
        obtain ⟨Y3, c3⟩ := common_t h hf ht (show k + 1 < 2147483648 by omega) hq2 Y2
        obtain ⟨Y4, c4⟩ := common_t h hf ht (show k + 1 < 2147483648 by omega) hq2 Y3
        obtain ⟨Y5, i1⟩ := ih (k + 1) m Y4 (by omega) (by omega) hb
        refine ⟨Y5, ?_⟩
        have e3 : fW_count L R (nI f) (nI t) (nI q2) = some (lN (kP a f t q2)) := wr_count h hR hf ht hq2.1
        have le := CM_less hq hq2
        show Option.bind (fW_mostCommon L Y2 (nI f) (nI t) (nI (k + 1))) _ = _
        rw [c3, obs]
        show (if lg_cmp (lN q2) (0 : Int64) < 0 then _ else _) = _
        rw [lN0_lt (by have := hq2.1; omega), c4, obs, lN_i, e3, obs, lcle_t le (by omega), lN_add, ← hs]
        exact i1
      · obtain ⟨Y3, c3⟩ := common_f h hf ht (show k + 1 < 2147483648 by omega) (fun q2 z => hq2 ⟨q2, z⟩) Y2
        obtain ⟨Y5, i1⟩ := ih (k + 1) m Y3 (by omega) (by omega) hb
        refine ⟨Y5, ?_⟩
        show Option.bind (fW_mostCommon L Y2 (nI f) (nI t) (nI (k + 1))) _ = _
        rw [c3, obs]
        show (if lg_cmp (-nI 11).toInt64 (0 : Int64) < 0 then _ else _) = _
        rw [lneg11, lN_add, ← hs]
        exact i1
    · obtain ⟨Y1, c1⟩ := common_f h hf ht (show k < 2147483648 by omega) (fun q z => hq ⟨q, z⟩) Y
      refine ⟨Y1, ?_⟩
      have hall : smB (kP a f t) (fun v => prY (kP a f t) v && decide (NA (ahY (kP a f t)) 32 v < k)) 32 = t - f := by
        have s1 : smB (kP a f t) (fun v => prY (kP a f t) v && decide (NA (ahY (kP a f t)) 32 v < k)) 32 = sm (kP a f t) 0 32 := by
          unfold smB
          refine sm_congr0 (fun v hv => ?_)
          by_cases hp : prY (kP a f t) v = true
          · have := NA_seg hT (k := k) (fun i hi hpi e => hq ⟨i, hi, hpi, e⟩) _ v hv hp rfl
            show (if (prY (kP a f t) v && decide (NA (ahY (kP a f t)) 32 v < k)) = true then kP a f t v else 0) = kP a f t v
            rw [hp, decide_eq_true this]
            rfl
          · have h0 : kP a f t v = 0 := by
              unfold prY at hp
              simp only [decide_eq_true_eq] at hp
              omega
            rw [h0]
            simp
        rw [s1]
        exact cn_total f (t - f) (fun p h1 h2 => h.1.2.1 p (by omega))
      rw [c1, obs]
      show (if lg_cmp (-nI 11).toInt64 (0 : Int64) < 0 then _ else _) = _
      rw [lneg11, pk_sub hf, nI_l (by omega), hall, lceq_t rfl]
theorem IsQ_next {S : List Nat} {j v v' : Nat} (h : IsQ a S j v) (h2 : IsQ a S (j + 1) v') : v ≤ v' := by
  rcases Nat.lt_or_ge v' v with z | z
  · have := cnt_lt_mono a S (show v' + 1 ≤ v by omega)
    have := h.1
    have := h2.2
    omega
  · exact z
theorem part_8 (h : LW L w n a mk) (hR : RO R n a) {f t x : Nat} (hf : f ≤ t) (ht : t ≤ n) (hx : x < 32) : ∀ d k m (la : Int64) (Y : TY) (Z : TZ), k + d = t - f → d < m → (∀ v, v < 32 → IsQ a (List.range' f (t - f)) k v → ¬ lN v < la) →
    ∃ Y' Z', fW_part_8 m L R Y Z (nI f) (nI t) (nI x) la (nI k) = some (nI 1, Y', Z') := by
  have hn := h.1.1
  intro d
  induction d with
  | zero =>
    intro k m la Y Z h1 h2 h3
    obtain ⟨m, rfl⟩ : ∃ q, m = q + 1 := ⟨m - 1, by omega⟩
    obtain ⟨Y', e9⟩ := part_163 h hR hf ht Z 33 0 FU Y (by omega) (fu_lt (by omega)) (by
      unfold below
      exact cn_zero (fun i _ => by simp))
    rw [show smB (kP a f t) (fun v => prY (kP a f t) v && decide (NA (ahY (kP a f t)) 32 v < 0)) 32 = 0 from smB_zero (fun i _ => by simp)] at e9
    have e3 := wr_lighter h hR hf ht hx
    have hc := cn_le (fun p => decide (a p < x)) f (t - f)
    refine ⟨Y', Z, ?_⟩
    rw [fW_part_8]
    rw [pk_sub hf, jle_t (by omega) (by omega), e3]
    rcases wr_atLeast h hR hf ht hx with ⟨c1, c2⟩ | ⟨c1, y, hy, c2, c3⟩
    · rw [c2, obs, obs]
      show (if lg_cmp (-nI 15).toInt64 (0 : Int64) < 0 then _ else _) = _
      rw [lneg15, nI_l (by omega), lceq_t c1.symm]
      exact e9
    · rw [c2, obs, obs]
      show (if lg_cmp (lN y) (0 : Int64) < 0 then _ else _) = _
      rw [lN0_lt (by omega), lN_i, c3, obs, lceq_t rfl]
      exact e9
  | succ d ih =>
    intro k m la Y Z h1 h2 h3
    obtain ⟨m, rfl⟩ : ∃ q, m = q + 1 := ⟨m - 1, by omega⟩
    obtain ⟨v, hv, hq, -, e1⟩ := wr_quantile h hR hf ht (show k < t - f by omega)
    obtain ⟨Z', e2⟩ := wr_quantileAgain h hf ht (show k < t - f by omega) hv hq Z
    have e3 := wr_lighter h hR hf ht hv
    have e4 := wr_count h hR hf ht hv
    have q1 : cn (fun p => decide (a p < v)) f (t - f) ≤ k := hq.1
    have q2 : k < cn (fun p => decide (a p < v + 1)) f (t - f) := hq.2
    have q3 : cn (fun p => decide (a p < v + 1)) f (t - f) = cn (fun p => decide (a p < v)) f (t - f) + cn (fun p => a p == v) f (t - f) := cnt_lt_succ a _ v
    have q4 := cn_le (fun p => decide (a p < v + 1)) f (t - f)
    obtain ⟨Y5, Z5, i1⟩ := ih (k + 1) m (lN v) Y Z' (by omega) (by omega) (fun v' hv' hq' z => by
      have := IsQ_next hq hq'
      have := (lN_lt (by omega) (by omega)).mp z
      omega)
    refine ⟨Y5, Z5, ?_⟩
    rw [fW_part_8]
    simp only [show (1 : Int32) = nI 1 from rfl]
    rw [pk_sub hf, jle_f (by omega) (by omega), e1, obs, e2, obs]
    show (if lg_cmp (lN v) (lN v) = 0 then (if lg_cmp (lN v) la < 0 then _ else _) else _) = _
    rw [lceq_t rfl, if_neg (fun z => h3 v hv hq ((lg_cmp_lt _ _).mp z)), lN_i, e3, obs, nI_l (by omega), lcgt_f q1 (by omega), obs, e4, obs, lN_add, lcgt_t (by omega) (by omega), nI_add]
    exact i1
theorem wr_part (h : LW L w n a mk) (hR : RO R n a) {f t x : Nat} (hf : f ≤ t) (ht : t ≤ n) (hx : x < 32) (Y : TY) (Z : TZ) : ∃ Y' Z', fW_part L R Y Z (nI f) (nI t) (nI x) = some (nI 1, Y', Z') := by
  have hn := h.1.1
  unfold fW_part
  exact part_8 h hR hf ht hx (t - f) 0 FU (-1 : Int64) Y Z (by omega) (fu_lt (by omega)) (fun v hv _ z => by
    have h1 : lN v < lN 0 := Int64.lt_trans z (by decide)
    have := (lN_lt (by omega) (by omega)).mp h1
    omega)
end V
