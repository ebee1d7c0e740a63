/-! the law's look at all -/
def BA (L : TL) : Prop := L.2.1 = L.2.2.2.1 - L.2.2.2.2.1
section V
variable {L : TL} {w : Nat → Int32} {R : TR} {B : TB} {n : Nat} {a : Nat → Nat} {mk : Nat → Bool} {P : TP} {T : TT}
theorem wr_balanced (h : LW L w n a mk) (hR : RO R n a) (hB : BG B.1 B.2.1 B.2.2.1 B.2.2.2 (bg mk) n a) (hb : BA L) (Z : TZ) : ∃ Z', fW_isBalanced L R B Z = some (lN 1, Z') := by
  have hn := h.1.1
  have hN := cn0_le (bg mk) n
  obtain ⟨s', e3, h3⟩ := zfill_sp (a := a) hn h.2.2.1 h.1.2.1 (Nat.zero_le n) (Nat.le_refl n) Z.1 Z.2
  have b1 : fS_areWeightsAlike L R = some (nI 1) := weightsAlike h hR n 0 FU (by omega) (fu_lt (by omega))
  have b2 : fS_areCountsAlike L R = some (nI 1) := countsAlike_2 h hR 5 0 FU (by omega) (fu_lt (by omega))
  have b3 : fS_areSizesAlike L R Z = some (nI 1, (s', nI n)) := by
    unfold fS_areSizesAlike fL_size
    rw [h.2.1]
    simp only [jl_]
    rw [e3]
    simp only [obs]
    rw [Nat.sub_zero]
    exact sizesAlike h hR h3 n 0 FU (by omega) (fu_lt (by omega))
  have b4 : fS_lettersOfBags B = some (nI n) := lettersOf_4 hB (cn (bg mk) 0 n) 0 FU 0 (by omega) (fu_lt (by omega)) (IsB.zero (bg_0 mk) n)
  refine ⟨(s', nI n), ?_⟩
  unfold fW_isBalanced fS_isBalanced fL_size fL_came fL_left
  rw [if_pos (show L.2.1 = L.2.2.2.1 - L.2.2.2.2.1 from hb), b1, b2, b3, b4, h.2.1]
  simp (disch := omega) only [jl_, obs, jeq_f, jeq_t, nI_l, if_true]
theorem wr_acc1 (h : LW L w n a mk) (P : TP) (R : TR) (B : TB) (Y : TY) (T : TT) : fW_account L P R B Y T (nI 1) = some (lN (sm a 0 n), Y) := by
  have hn := h.1.1
  have hs : sm a 0 n ≤ n * 32 := sm_le (fun p _ hp => Nat.le_of_lt (h.1.2.1 p (by omega)))
  unfold fW_account fS_account
  rw [h.2.1, total_sp hn h.2.2.1]
  simp (disch := omega) only [jl_, obs, jeq_f, jeq_t, nI_l, if_true]
theorem wr_acc4 (hB : BG B.1 B.2.1 B.2.2.1 B.2.2.2 (bg mk) n a) (L : TL) (P : TP) (R : TR) (Y : TY) (T : TT) : fW_account L P R B Y T (nI 4) = some (lN (cn (bg mk) 0 n), Y) := by
  have hn := hB.1
  have hN := cn0_le (bg mk) n
  unfold fW_account fS_account fB_number
  rw [hB.2.2.1]
  simp (disch := omega) only [jl_, obs, jeq_f, jeq_t, nI_l, if_true]
theorem fits_314 (h : LW L w n a mk) (hR : RO R n a) (hB : BG B.1 B.2.1 B.2.2.1 B.2.2.2 (bg mk) n a) (Y : TY) (Z : TZ) : ∀ d k m, 65 ≤ k + d → d < m → k ≤ 64 → fW_fits_314 m L P R B Y Z T (lN (sm a 0 n)) (nI k) = some (nI 1, Y, Z) := by
  have hn := h.1.1
  have hN := cn0_le (bg mk) n
  have hT := toB mk n a (cn (bg mk) 0 n)
  intro d
  induction d with
  | zero => intro k m h1 h2 h3; omega
  | succ d ih =>
    intro k m h1 h2 h3
    obtain ⟨m, rfl⟩ : ∃ q, m = q + 1 := ⟨m - 1, by omega⟩
    rw [fW_fits_314]
    simp only [show (1 : Int32) = nI 1 from rfl, show (2 : Int32) = nI 2 from rfl]
    rw [nI_add]
    by_cases hq : ∃ q, CB (ahB mk n a) (cn (bg mk) 0 n) (k + 1) q
    · obtain ⟨q, hq⟩ := hq
      obtain ⟨x, hx1, -, hx2⟩ := NA_seg2 hT (k := k) hq.1 rfl (by have := hq.2; omega)
      have hk := NA_bound hT hq.1
      have hk2 := hq.2
      have c1 := ranked_t h hB (show k + 1 < 2147483648 by omega) hq
      have c2 := ranked_t h hB (show k < 2147483648 by omega) ⟨hx1, hx2⟩
      have le := CB_less ⟨hx1, hx2⟩ hq
      have t1 := (bag_all h hR hB hx1 Y).2.2.1
      have t2 := (bag_all h hR hB hq.1 Y).2.2.1
      have l1 := ttB_le (mk := mk) h.1.2.1 hn x
      have i1 := ih (k + 1) m (by omega) (by omega) (by omega)
      rw [c1, obs]
      show (if lg_cmp (lN q) (0 : Int64) < 0 then _ else _) = _
      rw [lN0_lt (by have := hq.1; omega), c2, obs, lN_i, t1, obs, obs, lN_i, t2, obs]
      show (if 0 ≤ lg_cmp (lN (ttB mk n a x)) (lN (ttB mk n a q)) then _ else _) = _
      rw [lcge_t le (by omega)]
      exact i1
    · have c1 := ranked_f h hB (show k + 1 < 2147483648 by omega) (fun q z => hq ⟨q, z⟩)
      rw [c1, obs]
      show (if lg_cmp (-nI 11).toInt64 (0 : Int64) < 0 then _ else _) = _
      rw [lneg11, wr_acc1 h, obs]
      show (if lg_cmp (lN (sm a 0 n)) (lN (sm a 0 n)) = 0 then _ else _) = _
      rw [lceq_t rfl]
theorem sm_cut (a : Nat → Nat) (k d : Nat) : sm a 0 k + sm a k d = sm a 0 (k + d) := by
  induction d with
  | zero => rfl
  | succ d ih => rw [sm_r, ← Nat.add_assoc, ih, ← Nat.add_assoc, sm0_s]
theorem fits_205 (h : LW L w n a mk) (hR : RO R n a) (hB : BG B.1 B.2.1 B.2.2.1 B.2.2.2 (bg mk) n a) (Y : TY) (Z : TZ) : ∀ d j m, j + d = cn (bg mk) 0 n → d < m → fW_fits_205 m L P R B Y Z T (lN (sm a 0 (bgn mk n j))) (nI j) = some (nI 1, Y, Z) := by
  have hn := h.1.1
  have hN := cn0_le (bg mk) n
  intro d
  induction d with
  | zero =>
    intro j m h1 h2
    obtain ⟨m, rfl⟩ : ∃ q, m = q + 1 := ⟨m - 1, by omega⟩
    have e9 := fits_314 (P := P) (T := T) h hR hB Y Z 65 0 FU (by omega) (fu_lt (by omega)) (by omega)
    rw [fW_fits_205]
    simp only [show (4 : Int32) = nI 4 from rfl]
    rw [wr_acc4 hB, obs, nI_l (by omega)]
    show (if 0 ≤ lg_cmp (lN j) (lN (cn (bg mk) 0 n)) then _ else _) = _
    rw [lcge_t (by omega) (by omega), show j = cn (bg mk) 0 n by omega, bgn_end]
    exact e9
  | succ d ih =>
    intro j m h1 h2
    obtain ⟨m, rfl⟩ : ∃ q, m = q + 1 := ⟨m - 1, by omega⟩
    have hj : j < cn (bg mk) 0 n := by omega
    have l1 := bgn_lt mk hj
    have l2 := bgn_n mk n (j + 1)
    have z : szB mk n j = bgn mk n (j + 1) - bgn mk n j := rfl
    obtain ⟨b0, b1, b2, b3, b4⟩ := bag_all h hR hB hj Y
    obtain ⟨v, hv, -, e1, e2⟩ := wr_quantile h hR (show bgn mk n j ≤ bgn mk n (j + 1) by omega) l2 (j := (szB mk n j - 1) / 2) (by omega)
    obtain ⟨v', hv', -, e3, e4⟩ := wr_quantile h hR (show bgn mk n j ≤ bgn mk n (j + 1) by omega) l2 (j := szB mk n j - 1) (by omega)
    have f3 := b3 v hv e1
    have f4 := b4 v' hv' e3
    have i1 := ih (j + 1) m (by omega) (by omega)
    rw [show bgn mk n (j + 1) = bgn mk n j + szB mk n j by omega] at e2 e4 i1
    have cut : sm a 0 (bgn mk n j) + ttB mk n a j = sm a 0 (bgn mk n j + szB mk n j) := sm_cut a _ _
    rw [fW_fits_205]
    simp only [show (4 : Int32) = nI 4 from rfl, show (1 : Int32) = nI 1 from rfl, show (2 : Int32) = nI 2 from rfl, show (3 : Int32) = nI 3 from rfl]
    rw [wr_acc4 hB, obs, nI_l (by omega)]
    show (if 0 ≤ lg_cmp (lN j) (lN (cn (bg mk) 0 n)) then _ else Option.bind (fW_bagOf L R B Y (nI j) (nI 0)) _) = _
    rw [lcge_f (by omega) (by omega), b0, obs]
    show Option.bind (fW_bagOf L R B Y (nI j) (nI 1)) _ = _
    rw [b1, obs]
    show Option.bind (fW_bagOf L R B Y (nI j) (nI 2)) _ = _
    rw [b2, obs]
    show Option.bind (fW_bagOf L R B Y (nI j) (nI 3)) _ = _
    rw [f3, obs]
    show Option.bind (fW_quantile L R (lN (bgn mk n j)).toInt32 ((lN (bgn mk n j)).toInt32 + (lN (szB mk n j)).toInt32) (((lN (szB mk n j)).toInt32 - nI 1) / nI 2)) (fun t30 => if lg_cmp (lN v) t30 = 0 then Option.bind (fW_bagOf L R B Y (nI j) (nI 4)) (fun t32 => Option.bind (fW_quantile L R (lN (bgn mk n j)).toInt32 ((lN (bgn mk n j)).toInt32 + (lN (szB mk n j)).toInt32) ((lN (szB mk n j)).toInt32 - nI 1)) (fun t33 => if lg_cmp t32.1 t33 = 0 then fW_fits_205 m L P R B t32.2 Z T (lN (sm a 0 (bgn mk n j)) + lN (ttB mk n a j)) (nI j + nI 1) else some ((0 : Int32), t32.2, Z))) else some ((0 : Int32), Y, Z)) = _
    rw [lN_i, lN_i, nI_add, pk_sub (by omega), j_div (by omega) (by omega) (by omega), e2, obs, lceq_t rfl, f4, obs, e4, obs]
    show (if lg_cmp (lN v') (lN v') = 0 then _ else _) = _
    rw [lceq_t rfl, lN_add, cut, nI_add]
    exact i1
theorem fits_89 (h : LW L w n a mk) (hR : RO R n a) (hB : BG B.1 B.2.1 B.2.2.1 B.2.2.2 (bg mk) n a) (Y : TY) (Z : TZ) : ∀ d k m, k + d = n → d < m → fW_fits_89 m L P R B Y Z T (nI n) (nI k) = some (nI 1, Y, Z) := by
  have hn := h.1.1
  have hN := cn0_le (bg mk) n
  intro d
  induction d with
  | zero =>
    intro k m h1 h2
    obtain ⟨m, rfl⟩ : ∃ q, m = q + 1 := ⟨m - 1, by omega⟩
    have e9 := fits_205 (P := P) (T := T) h hR hB Y Z (cn (bg mk) 0 n) 0 FU (by omega) (fu_lt (by omega))
    rw [bgn_0] at e9
    rw [fW_fits_89, jle_t (by omega) (by omega)]
    exact e9
  | succ d ih =>
    intro k m h1 h2
    obtain ⟨m, rfl⟩ : ∃ q, m = q + 1 := ⟨m - 1, by omega⟩
    have hk : k < n := by omega
    have i1 := ih (k + 1) m (by omega) (by omega)
    have e1 := wr_weight h hk
    have e2 := wr_weightAgain h hR hk
    have e3 := wr_count h hR (Nat.zero_le k) (show k ≤ n by omega) (h.1.2.1 k hk)
    rw [Nat.sub_zero] at e3
    have e4 := wr_find h hR hk
    obtain ⟨j, hj, j1, j2, e5⟩ := wr_bagAt h hB hk
    obtain ⟨b0, b1, -, -, -⟩ := bag_all h hR hB hj Y
    have l2 := bgn_n mk n (j + 1)
    have z : szB mk n j = bgn mk n (j + 1) - bgn mk n j := rfl
    rw [fW_fits_89, jle_f (by omega) (by omega), e1, obs, e2, obs, lceq_t rfl, obs, obs, lN_i]
    show Option.bind (fW_count L R (nI 0) (nI k) (nI (a k))) _ = _
    rw [e3, obs, lN_i, e4, obs, nI_l (by omega), lceq_t rfl, e5, obs, lN_i]
    show Option.bind (fW_bagOf L R B Y (nI j) (nI 0)) _ = _
    rw [b0, obs]
    show (if 0 < lg_cmp (lN (bgn mk n j)) (lN k) then _ else Option.bind (fW_bagOf L R B Y (nI j) (nI 0)) _) = _
    rw [lcgt_f j1 (by omega), b0, obs]
    show Option.bind (fW_bagOf L R B Y (nI j) (nI 1)) _ = _
    rw [b1, obs]
    show (if 0 < lg_cmp (lN (bgn mk n j) + lN (szB mk n j)) (lN k) then fW_fits_89 m L P R B Y Z T (nI n) (nI k + nI 1) else _) = _
    rw [lN_add, lcgt_t (by omega) (by omega), nI_add]
    exact i1
theorem chosen_sp (x : Int32) {m : Nat} (h0 : 0 < m) (hm : m < 2147483648) : ∃ c, c < m ∧ fW_chosen x (nI m) = some (nI c) := by
  obtain ⟨j, hj, e⟩ := pk_andE x (m := (2147483647 : Int32)) 31 (by decide)
  refine ⟨j % m, Nat.mod_lt _ h0, ?_⟩
  unfold fW_chosen rmI
  rw [e, if_neg (fun z => by
    have := (nI_eq (a := m) (b := 0) hm (by omega)).mp z
    omega), pk_rem hj h0 hm]
  rfl
theorem wr_fits (h : LW L w n a mk) (hR : RO R n a) (hB : BG B.1 B.2.1 B.2.2.1 B.2.2.2 (bg mk) n a) (hb : BA L) (Y : TY) (Z : TZ) (x : Int32) : ∃ Y' Z', fW_fits L P R B Y Z T x = some (nI 1, Y', Z') := by
  have hn := h.1.1
  obtain ⟨Z1, e1⟩ := wr_balanced h hR hB hb Z
  have e2 := wr_rows (P := P) (B := B) (T := T) h hR Y
  obtain ⟨c1, h1, g1⟩ := chosen_sp x (show 0 < n + 1 by omega) (by omega)
  obtain ⟨c2, h2, g2⟩ := chosen_sp (x >>> ((7 : Int32) &&& 31)) (show 0 < n - c1 + 1 by omega) (by omega)
  obtain ⟨c3, h3, g3⟩ := chosen_sp (x >>> ((3 : Int32) &&& 31)) (show 0 < 32 by omega) (by omega)
  obtain ⟨c4, h4, g4⟩ := chosen_sp (x >>> ((5 : Int32) &&& 31)) (show 0 < 32 by omega) (by omega)
  obtain ⟨Y2, Z2, e3⟩ := wr_part h hR (show c1 ≤ c1 + c2 by omega) (show c1 + c2 ≤ n by omega) h3 Y Z1
  obtain ⟨Y3, Z3, e4⟩ := wr_part h hR (Nat.zero_le n) (Nat.le_refl n) h4 Y2 Z2
  have e5 := fits_89 (P := P) (T := T) h hR hB Y3 Z3 n 0 FU (by omega) (fu_lt (by omega))
  refine ⟨Y3, Z3, ?_⟩
  unfold fW_fits
  have a0 : fW_account L P R B Y T (0 : Int32) = some (lN n, Y) := wr_acc0 h P R B Y T
  rw [a0, obs, e1, obs]
  show (if lg_cmp (lN 1) (lN 1) = 0 then Option.bind (fW_rows L P R B Y T) _ else _) = _
  rw [lceq_t rfl, e2, obs]
  show (if nI 1 = 0 then _ else Option.bind (fW_chosen x ((lN n).toInt32 + nI 1)) (fun t6 => Option.bind (fW_chosen (x >>> ((7 : Int32) &&& 31)) (((lN n).toInt32 - t6) + nI 1)) fun t7 => Option.bind (fW_chosen (x >>> ((3 : Int32) &&& 31)) (nI 32)) fun t8 => Option.bind (fW_part L R Y Z1 t6 (t6 + t7) t8) fun t9 => if t9.1 = 0 then some ((0 : Int32), t9.2.1, t9.2.2) else Option.bind (fW_chosen (x >>> ((5 : Int32) &&& 31)) (nI 32)) fun t11 => Option.bind (fW_part L R t9.2.1 t9.2.2 (nI 0) (lN n).toInt32 t11) fun t12 => if t12.1 = 0 then some ((0 : Int32), t12.2.1, t12.2.2) else fW_fits_89 FU L P R B t12.2.1 t12.2.2 T (lN n).toInt32 (nI 0))) = _
  rw [if_neg (by decide), lN_i, nI_add, g1, obs, pk_sub (by omega), nI_add, g2, obs, g3, obs, nI_add, e3, obs]
  show (if nI 1 = 0 then _ else Option.bind (fW_chosen (x >>> ((5 : Int32) &&& 31)) (nI 32)) fun t11 => Option.bind (fW_part L R Y2 Z2 (nI 0) (nI n) t11) fun t12 => if t12.1 = 0 then some ((0 : Int32), t12.2.1, t12.2.2) else fW_fits_89 FU L P R B t12.2.1 t12.2.2 T (nI n) (nI 0)) = _
  rw [if_neg (by decide), g4, obs, e4, obs]
  show (if nI 1 = 0 then _ else fW_fits_89 FU L P R B Y3 Z3 T (nI n) (nI 0)) = _
  rw [if_neg (by decide)]
  exact e5
end V
