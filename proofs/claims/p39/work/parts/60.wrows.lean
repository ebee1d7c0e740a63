/-! the law's look at the rows -/
theorem sbit {N k : Nat} (hk : k < 64) : (lN N >>> ((nI k).toInt64 &&& 63)) &&& (1 : Int64) = lN (N / 2 ^ k % 2) := by
  rw [wb_c k hk]
  apply wb_inj
  rw [Int64.toBitVec_and, Int64.toBitVec_shiftRight, wb_tb, wb_tb, wb_tb, wb_sm k hk]
  apply BitVec.eq_of_getLsbD_eq
  intro i hi
  rw [BitVec.getLsbD_and, show (BitVec.ofNat 64 N).sshiftRight' (BitVec.ofNat 64 k) = (BitVec.ofNat 64 N).sshiftRight k from by
    show (BitVec.ofNat 64 N).sshiftRight (BitVec.ofNat 64 k).toNat = _
    rw [BitVec.toNat_ofNat, Nat.mod_eq_of_lt (by omega)]]
  rw [BitVec.getLsbD_sshiftRight, show (1 : Int64).toBitVec = BitVec.ofNat 64 1 from rfl, BitVec.getLsbD_ofNat, BitVec.getLsbD_ofNat, BitVec.getLsbD_ofNat]
  by_cases c : i = 0
  · subst c
    rw [Nat.testBit_eq_decide_div_mod_eq, Nat.testBit_eq_decide_div_mod_eq, Nat.testBit_eq_decide_div_mod_eq]
    simp [hk]
  · have h1 : Nat.testBit 1 i = false := Nat.testBit_lt_two_pow (Nat.one_lt_two_pow c)
    have h2 : (N / 2 ^ k % 2).testBit i = false := Nat.testBit_lt_two_pow (by
      have := Nat.one_lt_two_pow c
      omega)
    rw [h1, h2]
    simp
theorem wbit_all : ∀ r, r < 5 → ∀ v, v < 32 → (lN v >>> ((nI 4 - nI r).toInt64 &&& 63)) &&& (1 : Int64) = lN (b01 (hb r v)) := by decide +kernel
section V
variable {L : TL} {w : Nat → Int32} {R : TR} {B : TB} {n : Nat} {a : Nat → Nat} {mk : Nat → Bool} {P : TP} {T : TT}
theorem rows_19 (h : LW L w n a mk) (hR : RO R n a) {r : Nat} (hr : r < 5) (Y : TY) : ∀ d k m, k + d = n → d < m → fW_rows_19 m L P R B Y T (nI n) (nI r) (lN (ca (qb a r) (rp (qb a) n r) true k)) (nI k) = some (Sum.inr (lN (ca (qb a r) (rp (qb a) n r) true n), Y)) := by
  have hn := h.1.1
  intro d
  induction d with
  | zero =>
    intro k m h1 h2
    obtain ⟨m, rfl⟩ : ∃ q, m = q + 1 := ⟨m - 1, by omega⟩
    rw [fW_rows_19, show k = n by omega]
    simp (disch := omega) only [jle_t]
  | succ d ih =>
    intro k m h1 h2
    obtain ⟨m, rfl⟩ : ∃ q, m = q + 1 := ⟨m - 1, by omega⟩
    obtain ⟨p, hp, -⟩ := rp_get (q := qb a) (n := n) (r := r) (k := k) (by omega)
    have c1 := ca_le (qb a r) (rp (qb a) n r) true k
    have c2 := ca_two (qb a r) (rp (qb a) n r) (x := k) (by rw [rp_len]; omega)
    have c3 := ca_succ (qb a r) (rp (qb a) n r) true hp
    have e1 := wr_rank h hR true hr (show k ≤ n by omega)
    have e2 := wr_rank h hR false hr (show k ≤ n by omega)
    have e3 := wr_rankAgain h hR true hr (show k ≤ n by omega)
    have e4 := wr_bit h hR hr hp
    have e5 := wr_bits (n := n) (a := a) hR hr
    have i1 := ih (k + 1) m (by omega) (by omega)
    rw [bI_t] at e1 e3
    rw [bI_f] at e2
    have sb : (lN (bin ((rp (qb a) n r).map (qb a r))) >>> ((nI k).toInt64 &&& 63)) &&& (1 : Int64) = lN (b01 (qb a r p)) := by
      rw [sbit (by omega), bin_bit, show ((rp (qb a) n r).map (qb a r)).getD k false = qb a r p by simp [List.getD, hp]]
      rfl
    have g1 : ∀ z : Nat, (lN z).toInt32 = nI z := lN_i
    have g2 : (nI k).toInt64 = lN k := nI_l (by omega)
    have g3 : lN k - lN (ca (qb a r) (rp (qb a) n r) true k) = lN (ca (qb a r) (rp (qb a) n r) false k) := by
      rw [lN_sub c1]
      exact congrArg lN (by omega)
    rw [fW_rows_19]
    simp only [show (1 : Int32) = nI 1 from rfl, show (0 : Int32) = nI 0 from rfl] at *
    rw [jle_f (by omega) (by omega), e1, obs, lczeq_t rfl, e2, obs, g2, g3, lczeq_t rfl, e3, obs, lczeq_t rfl, e4, obs, e5, obs, ← g2, sb, lczeq_t rfl, g2, nI_add]
    cases hq : qb a r p
    · have s := wr_select h hR false hr hp (by rw [hq]; rfl)
      rw [bI_f] at s
      rw [hq] at c3
      simp at c3
      rw [show b01 false = 0 from rfl, show (1 : Int64) = lN 1 from rfl, lczeq_f (by omega) (by omega) (by omega), lczeq_f (by omega) (by omega) (by omega), g1, s, obs, lczeq_t rfl, lN_add, Nat.add_zero, ← c3]
      exact i1
    · have s := wr_select h hR true hr hp (by rw [hq]; rfl)
      rw [bI_t] at s
      rw [hq] at c3
      simp at c3
      rw [show b01 true = 1 from rfl, show (1 : Int64) = lN 1 from rfl, lczeq_t rfl, lczeq_t rfl, g1, s, obs, lczeq_t rfl, lN_add, ← c3]
      exact i1
theorem rows_166 (h : LW L w n a mk) (hR : RO R n a) {r : Nat} (hr : r < 5) (Y : TY) : ∀ d k m, k + d = n → d < m → fW_rows_166 m L P R B Y T (nI n) (nI r) (nI k) = some (Sum.inr Y) := by
  have hn := h.1.1
  intro d
  induction d with
  | zero =>
    intro k m h1 h2
    obtain ⟨m, rfl⟩ : ∃ q, m = q + 1 := ⟨m - 1, by omega⟩
    rw [fW_rows_166, show k = n by omega]
    simp (disch := omega) only [jle_t]
  | succ d ih =>
    intro k m h1 h2
    obtain ⟨m, rfl⟩ : ∃ q, m = q + 1 := ⟨m - 1, by omega⟩
    have i1 := ih (k + 1) m (by omega) (by omega)
    obtain ⟨y, hy, e1⟩ := wr_placeIn h hR hr (show k < n by omega)
    have e2 := wr_bit h hR hr hy
    have e3 := wr_weight h (show k < n by omega)
    rw [fW_rows_166]
    simp only [show (1 : Int32) = nI 1 from rfl, show (4 : Int32) = nI 4 from rfl]
    rw [jle_f (by omega) (by omega), e1, obs, lN_i, e2, obs, e3, obs, wbit_all r hr (a k) (h.1.2.1 k (by omega)), show qb a r k = hb r (a k) from rfl, lceq_t rfl, nI_add]
    exact i1
theorem rows_9 (h : LW L w n a mk) (hR : RO R n a) (Y : TY) : ∀ d r m, r + d = 5 → d < m → fW_rows_9 m L P R B Y T (nI n) (nI r) = some (nI 1, Y) := by
  have hn := h.1.1
  intro d
  induction d with
  | zero =>
    intro r m h1 h2
    obtain ⟨m, rfl⟩ : ∃ q, m = q + 1 := ⟨m - 1, by omega⟩
    rw [fW_rows_9]
    simp (disch := omega) only [jl_, jle_t]
  | succ d ih =>
    intro r m h1 h2
    obtain ⟨m, rfl⟩ : ∃ q, m = q + 1 := ⟨m - 1, by omega⟩
    have i1 := ih (r + 1) m (by omega) (by omega)
    have hr : r < 5 := by omega
    have e1 := rows_19 (P := P) (B := B) (T := T) h hR hr Y n 0 FU (by omega) (fu_lt (by omega))
    have e2 := rows_166 (P := P) (B := B) (T := T) h hR hr Y n 0 FU (by omega) (fu_lt (by omega))
    have e3 := wr_rank h hR true hr (Nat.le_refl n)
    rw [bI_t] at e3
    rw [ca_0] at e1
    rw [fW_rows_9]
    simp only [show (1 : Int32) = nI 1 from rfl, show (5 : Int32) = nI 5 from rfl, show (0 : Int32) = nI 0 from rfl, show (0 : Int64) = lN 0 from rfl] at *
    rw [jle_f (by omega) (by omega), e1, obs]
    simp only [Sum.elim]
    rw [e3, obs, lczeq_t rfl, e2, obs, nI_add]
    exact i1
theorem sr_acc0 (h : LW L w n a mk) (P : TP) (R : TR) (B : TB) (Y : TY) (T : TT) : fS_account L P R B Y T (nI 0) = some (nI n, Y) := by
  unfold fS_account fL_size
  rw [h.2.1, if_pos (by rfl)]
theorem wr_acc0 (h : LW L w n a mk) (P : TP) (R : TR) (B : TB) (Y : TY) (T : TT) : fW_account L P R B Y T (nI 0) = some (lN n, Y) := by
  have hn := h.1.1
  unfold fW_account
  rw [sr_acc0 h]
  simp (disch := omega) only [obs, nI_l]
theorem wr_rows (h : LW L w n a mk) (hR : RO R n a) (Y : TY) : fW_rows L P R B Y T = some (nI 1, Y) := by
  have hn := h.1.1
  unfold fW_rows
  simp only [show (0 : Int32) = nI 0 from rfl]
  rw [wr_acc0 h, obs, lN_i]
  exact rows_9 h hR Y 5 0 FU (by omega) (fu_lt (by omega))
end V
