/-! what the readers answer, as longs -/
theorem jL_ (n : Nat) : (OfNat.ofNat n : Int64) = lN n := Eq.mpr (congrArg (fun z => z = lN n) (Eq.symm (Eq.refl (lN n)))) (Eq.refl (lN n))
theorem lceq_t {α : Type} {a b : Nat} {x y : α} (h : a = b) : (if lg_cmp (lN a) (lN b) = 0 then x else y) = x := if_pos ((lg_cmp_eq _ _).mpr (by rw [h]))
theorem lceq_f {α : Type} {a b : Nat} {x y : α} (h : a ≠ b) (ha : a < 2147483648) (hb : b < 2147483648) : (if lg_cmp (lN a) (lN b) = 0 then x else y) = y := if_neg (fun e => h ((lN_eq ha hb).mp ((lg_cmp_eq _ _).mp e)))
theorem lclt_t {α : Type} {a b : Nat} {x y : α} (h : a < b) (hb : b < 2147483648) : (if lg_cmp (lN a) (lN b) < 0 then x else y) = x := if_pos ((lg_cmp_lt _ _).mpr ((lN_lt (by omega) hb).mpr h))
theorem lclt_f {α : Type} {a b : Nat} {x y : α} (h : b ≤ a) (ha : a < 2147483648) : (if lg_cmp (lN a) (lN b) < 0 then x else y) = y := if_neg (fun e => by
  have := (lN_lt ha (by omega)).mp ((lg_cmp_lt _ _).mp e); omega)
theorem lcgt_t {α : Type} {a b : Nat} {x y : α} (h : b < a) (ha : a < 2147483648) : (if 0 < lg_cmp (lN a) (lN b) then x else y) = x := if_pos ((lg_cmp_gt _ _).mpr ((lN_lt (by omega) ha).mpr h))
theorem lcgt_f {α : Type} {a b : Nat} {x y : α} (h : a ≤ b) (hb : b < 2147483648) : (if 0 < lg_cmp (lN a) (lN b) then x else y) = y := if_neg (fun e => by
  have := (lN_lt hb (by omega)).mp ((lg_cmp_gt _ _).mp e); omega)
theorem lcge_t {α : Type} {a b : Nat} {x y : α} (h : b ≤ a) (ha : a < 2147483648) : (if 0 ≤ lg_cmp (lN a) (lN b) then x else y) = x := if_pos ((lg_cmp_ge _ _).mpr ((lN_le (by omega) ha).mpr h))
theorem lcge_f {α : Type} {a b : Nat} {x y : α} (h : a < b) (hb : b < 2147483648) : (if 0 ≤ lg_cmp (lN a) (lN b) then x else y) = y := if_neg (fun e => by
  have := (lN_le hb (by omega)).mp ((lg_cmp_ge _ _).mp e); omega)
theorem lcle_t {α : Type} {a b : Nat} {x y : α} (h : a ≤ b) (hb : b < 2147483648) : (if lg_cmp (lN a) (lN b) ≤ 0 then x else y) = x := if_pos ((lg_cmp_le _ _).mpr ((lN_le (by omega) hb).mpr h))
theorem lN0_lt {α : Type} {a : Nat} {x y : α} (ha : a < 2147483648) : (if lg_cmp (lN a) (0 : Int64) < 0 then x else y) = y := lclt_f (b := 0) (Nat.zero_le _) ha
theorem lneg11 {α : Type} {x y : α} : (if lg_cmp (-nI 11).toInt64 (0 : Int64) < 0 then x else y) = x := if_pos (by decide)
theorem lneg15 {α : Type} {x y : α} : (if lg_cmp (-nI 15).toInt64 (0 : Int64) < 0 then x else y) = x := if_pos (by decide)
theorem lczeq_t {α : Type} {a b : Nat} {x y : α} (h : a = b) : (if lg_cmp (lN a) (lN b) = nI 0 then x else y) = x := lceq_t h
theorem lczeq_f {α : Type} {a b : Nat} {x y : α} (h : a ≠ b) (ha : a < 2147483648) (hb : b < 2147483648) : (if lg_cmp (lN a) (lN b) = nI 0 then x else y) = y := lceq_f h ha hb
theorem lczge_t {α : Type} {a b : Nat} {x y : α} (h : b ≤ a) (ha : a < 2147483648) : (if nI 0 ≤ lg_cmp (lN a) (lN b) then x else y) = x := lcge_t h ha
theorem lczge_f {α : Type} {a b : Nat} {x y : α} (h : a < b) (hb : b < 2147483648) : (if nI 0 ≤ lg_cmp (lN a) (lN b) then x else y) = y := lcge_f h hb
section V
variable {L : TL} {w : Nat → Int32} {R : TR} {B : TB} {n : Nat} {a : Nat → Nat} {mk : Nat → Bool}
theorem edge_t (h : LW L w n a mk) {k : Nat} (hk : k ≤ n) : fS_isEdge L (nI k) = nI 1 := by
  have hn := h.1.1
  unfold fS_isEdge fL_size
  rw [h.2.1]
  simp (disch := omega) only [jl_, nI_add, pk_sub, pk_mul, j_neg, jlt_t, jlt_f, jle_t, jle_f, jeq_t, jeq_f, jld, jst, obs, j_div, ↓reduceIte, if_true, if_false, Nat.add_zero, Nat.sub_zero, Nat.add_sub_cancel_left]
theorem has_t (h : LW L w n a mk) {k : Nat} (hk : k < n) : fL_has L.2.1 (nI k) = nI 1 := by
  have hn := h.1.1
  unfold fL_has
  rw [h.2.1]
  simp (disch := omega) only [jl_, nI_add, pk_sub, pk_mul, j_neg, jlt_t, jlt_f, jle_t, jle_f, jeq_t, jeq_f, jld, jst, obs, j_div, ↓reduceIte, if_true, if_false, Nat.add_zero, Nat.sub_zero, Nat.add_sub_cancel_left]
theorem part_t (h : LW L w n a mk) {f t : Nat} (hf : f ≤ t) (ht : t ≤ n) : fS_isPart L (nI f) (nI t) = nI 1 := by
  have hn := h.1.1
  unfold fS_isPart fL_size
  rw [h.2.1]
  simp (disch := omega) only [jl_, nI_add, pk_sub, pk_mul, j_neg, jlt_t, jlt_f, jle_t, jle_f, jeq_t, jeq_f, jld, jst, obs, j_div, ↓reduceIte, if_true, if_false, Nat.add_zero, Nat.sub_zero, Nat.add_sub_cancel_left]
theorem place_t (h : LW L w n a mk) {f t j : Nat} (hf : f ≤ t) (ht : t ≤ n) (hj : j < t - f) : fS_isPlaceOfPart L (nI f) (nI t) (nI j) = nI 1 := by
  have hn := h.1.1
  unfold fS_isPlaceOfPart
  rw [part_t h hf ht]
  simp (disch := omega) only [jl_, nI_add, pk_sub, pk_mul, j_neg, jlt_t, jlt_f, jle_t, jle_f, jeq_t, jeq_f, jld, jst, obs, j_div, ↓reduceIte, if_true, if_false, Nat.add_zero, Nat.sub_zero, Nat.add_sub_cancel_left]
theorem wr_rank (h : LW L w n a mk) (hR : RO R n a) {r k : Nat} (b : Bool) (hr : r < 5) (hk : k ≤ n) : fW_rank L R (nI r) (bI b) (nI k) = some (lN (ca (qb a r) (rp (qb a) n r) b k)) := by
  have hn := h.1.1
  have hc := ca_le (qb a r) (rp (qb a) n r) b k
  unfold fW_rank fS_rank
  rw [isRow_t hr, edge_t h hk, hR.2, ahead_sp hR.1 b hr hk]
  simp (disch := omega) only [jl_, jeq_f, obs, nI_l]
theorem wr_rankAgain (h : LW L w n a mk) (hR : RO R n a) {r k : Nat} (b : Bool) (hr : r < 5) (hk : k ≤ n) : fW_rankAgain L R (nI r) (bI b) (nI k) = some (lN (ca (qb a r) (rp (qb a) n r) b k)) := by
  have hn := h.1.1
  have hc := ca_le (qb a r) (rp (qb a) n r) b k
  unfold fW_rankAgain fS_rankAgain
  rw [isRow_t hr, edge_t h hk, hR.2, aheadOneByOne_sp hR.1 b hr hk]
  simp (disch := omega) only [jl_, jeq_f, obs, nI_l]
def b01 (b : Bool) : Nat := if b then 1 else 0
theorem b01_lt (b : Bool) : b01 b < 2 := by cases b <;> decide
theorem wr_bit (h : LW L w n a mk) (hR : RO R n a) {r k p : Nat} (hr : r < 5) (hp : (rp (qb a) n r)[k]? = some p) : fW_bit L R (nI r) (nI k) = some (lN (b01 (qb a r p))) := by
  have hn := h.1.1
  have hk := lt_of_get hp
  have hb := b01_lt (qb a r p)
  unfold fW_bit fS_bit
  rw [isRow_t hr, has_t h hk, hR.2, bitAt_sp hR.1 hr hp, show bI (qb a r p) = nI (b01 (qb a r p)) from rfl]
  simp (disch := omega) only [jl_, jeq_f, obs, nI_l]
theorem wr_bits (hR : RO R n a) {r : Nat} (hr : r < 5) : fW_bits R (nI r) = some (lN (bin ((rp (qb a) n r).map (qb a r)))) := by
  unfold fW_bits fS_bits fR_wholeRow
  rw [isRow_t hr]
  simp (disch := omega) only [jl_, jeq_f, jld, obs]
  rw [(hR.1.2 r hr).1]
theorem wr_select (h : LW L w n a mk) (hR : RO R n a) {r x p : Nat} (b : Bool) (hr : r < 5) (hx : (rp (qb a) n r)[x]? = some p) (hp : (qb a r p == b) = true) : fW_select R (nI r) (bI b) (nI (ca (qb a r) (rp (qb a) n r) b x)) = some (lN x) := by
  have hn := h.1.1
  have hk := lt_of_get hx
  unfold fW_select fS_select
  rw [isRow_t hr, hR.2, placeOf_t hR.1 b hr hx hp]
  simp (disch := omega) only [jl_, jeq_f, jle_t, obs, nI_l]
theorem wr_placeIn (h : LW L w n a mk) (hR : RO R n a) {r k : Nat} (hr : r < 5) (hk : k < n) : ∃ y, (rp (qb a) n r)[y]? = some k ∧ fW_placeIn L R (nI r) (nI k) = some (lN y) := by
  have hn := h.1.1
  obtain ⟨y, e, hy⟩ := placeDownTo_sp hR.1 hr hk
  have hl := lt_of_get hy
  refine ⟨y, hy, ?_⟩
  unfold fW_placeIn fS_placeIn
  rw [isRow_t hr, has_t h hk, hR.2, e]
  simp (disch := omega) only [jl_, jeq_f, obs, nI_l]
theorem sr_weight (h : LW L w n a mk) {k : Nat} (hk : k < n) : fS_weight L (nI k) = some (nI (a k)) := by
  have hn := h.1.1
  unfold fS_weight
  rw [has_t h hk, at_sp (by omega), h.2.2.1 k hk]
  simp (disch := omega) only [jl_, jeq_f, obs]
theorem wr_weight (h : LW L w n a mk) {k : Nat} (hk : k < n) : fW_weight L (nI k) = some (lN (a k)) := by
  have ha := h.1.2.1 k hk
  unfold fW_weight
  rw [sr_weight h hk]
  simp (disch := omega) only [obs, nI_l]
theorem wr_weightAgain (h : LW L w n a mk) (hR : RO R n a) {k : Nat} (hk : k < n) : fW_weightAgain L R (nI k) = some (lN (a k)) := by
  have ha := h.1.2.1 k hk
  unfold fW_weightAgain fS_weightAgain
  rw [has_t h hk, hR.2, weightOf_sp hR.1 hk ha]
  simp (disch := omega) only [jl_, jeq_f, obs, nI_l]
theorem wr_quantile (h : LW L w n a mk) (hR : RO R n a) {f t j : Nat} (hf : f ≤ t) (ht : t ≤ n) (hj : j < t - f) : ∃ v, v < 32 ∧ IsQ a (List.range' f (t - f)) j v ∧ fR_weightBySize R.1 R.2.1 R.2.2.1 R.2.2.2.2.2 (nI f) (nI t) (nI j) = some (nI v) ∧ fW_quantile L R (nI f) (nI t) (nI j) = some (lN v) := by
  have hn := h.1.1
  obtain ⟨v, e, hv, hq⟩ := bySize_sp hR.1 h.1.2.1 hf ht hj
  rw [← hR.2] at e
  refine ⟨v, hv, hq, e, ?_⟩
  unfold fW_quantile fS_quantile
  rw [place_t h hf ht hj, e]
  simp (disch := omega) only [jl_, jeq_f, obs, nI_l]
theorem wr_quantileAgain (h : LW L w n a mk) {f t j v : Nat} (hf : f ≤ t) (ht : t ≤ n) (hj : j < t - f) (hv : v < 32) (hq : IsQ a (List.range' f (t - f)) j v) (Z : TZ) : ∃ Z', fW_quantileAgain L Z (nI f) (nI t) (nI j) = some (lN v, Z') := by
  have hn := h.1.1
  obtain ⟨s', e3, h3⟩ := zfill_sp (a := a) hn h.2.2.1 h.1.2.1 hf ht Z.1 Z.2
  obtain ⟨v', hv1, hv2, hv3⟩ := h3 j hj
  have e := hv3.one hq
  subst e
  unfold fW_quantileAgain fS_quantileAgain
  rw [place_t h hf ht hj, e3]
  simp (disch := omega) only [jl_, jeq_f, obs]
  rw [hv2]
  simp (disch := omega) only [obs, nI_l]
  exact ⟨_, rfl⟩
theorem wr_count (h : LW L w n a mk) (hR : RO R n a) {f t v : Nat} (hf : f ≤ t) (ht : t ≤ n) (hv : v < 32) : fW_count L R (nI f) (nI t) (nI v) = some (lN (cn (fun p => a p == v) f (t - f))) := by
  have hn := h.1.1
  have hc := cn_le (fun p => a p == v) f (t - f)
  unfold fW_count fS_count
  rw [part_t h hf ht, isWeight_t hv, hR.2, numberOf_sp hR.1 h.1.2.1 hf ht hv, show (List.range' f (t - f)).countP (fun p => a p == v) = cn (fun p => a p == v) f (t - f) from rfl]
  simp (disch := omega) only [jl_, jeq_f, obs, nI_l]
theorem wr_lighter (h : LW L w n a mk) (hR : RO R n a) {f t v : Nat} (hf : f ≤ t) (ht : t ≤ n) (hv : v < 32) : fW_lighter L R (nI f) (nI t) (nI v) = some (lN (cn (fun p => decide (a p < v)) f (t - f))) := by
  have hn := h.1.1
  have hc := cn_le (fun p => decide (a p < v)) f (t - f)
  unfold fW_lighter fS_lighter
  rw [part_t h hf ht, isWeight_t hv, hR.2, below_sp hR.1 h.1.2.1 hf ht hv, show (List.range' f (t - f)).countP (fun p => decide (a p < v)) = cn (fun p => decide (a p < v)) f (t - f) from rfl]
  simp (disch := omega) only [jl_, jeq_f, obs, nI_l]
theorem wr_atLeast (h : LW L w n a mk) (hR : RO R n a) {f t v : Nat} (hf : f ≤ t) (ht : t ≤ n) (hv : v < 32) :
    (t - f = cn (fun p => decide (a p < v)) f (t - f) ∧ fW_atLeast L R (nI f) (nI t) (nI v) = some (-nI 15).toInt64) ∨
    (cn (fun p => decide (a p < v)) f (t - f) < t - f ∧ ∃ x, x < 32 ∧ fW_atLeast L R (nI f) (nI t) (nI v) = some (lN x) ∧ fW_quantile L R (nI f) (nI t) (nI (cn (fun p => decide (a p < v)) f (t - f))) = some (lN x)) := by
  have hn := h.1.1
  have hc := cn_le (fun p => decide (a p < v)) f (t - f)
  unfold fW_atLeast fS_atLeast
  rw [part_t h hf ht, isWeight_t hv, hR.2, below_sp hR.1 h.1.2.1 hf ht hv, show (List.range' f (t - f)).countP (fun p => decide (a p < v)) = cn (fun p => decide (a p < v)) f (t - f) from rfl]
  simp (disch := omega) only [jl_, jeq_f, obs, pk_sub]
  by_cases c : t - f ≤ cn (fun p => decide (a p < v)) f (t - f)
  · left
    refine ⟨by omega, ?_⟩
    rw [jle_t c (by omega)]
    rfl
  · right
    obtain ⟨x, hx, hq, e1, e2⟩ := wr_quantile h hR hf ht (j := cn (fun p => decide (a p < v)) f (t - f)) (by omega)
    rw [hR.2] at e1
    refine ⟨by omega, x, hx, ?_, e2⟩
    rw [jle_f (by omega) (by omega), e1]
    simp (disch := omega) only [obs, nI_l]
theorem wr_find (h : LW L w n a mk) (hR : RO R n a) {k : Nat} (hk : k < n) : fW_find R (nI (a k)) (nI (cn (fun p => a p == a k) 0 k)) = some (lN k) := by
  have hn := h.1.1
  have ha := h.1.2.1 k hk
  have e := placeBack_t hR.1 h.1.2.1 ha hk rfl
  unfold fW_find fS_find
  rw [isWeight_t ha, hR.2, show cn (fun p => a p == a k) 0 k = (List.range' 0 k).countP (fun p => a p == a k) from rfl, e]
  simp (disch := omega) only [jl_, jeq_f, jle_t, obs, nI_l]
end V
