/-! what is told of a state depends on the letters alone -/
theorem macc_ch {w at_ : Nat → Int32} {ch ch2 len len2 : Int32} : ∀ k, k < 9 → fM_account w ch at_ len (nI k) = fM_account w ch2 at_ len2 (nI k) := by
  intro k hk
  have hc : k = 0 ∨ k = 1 ∨ k = 2 ∨ k = 3 ∨ k = 4 ∨ k = 5 ∨ k = 6 ∨ k = 7 ∨ k = 8 := by omega
  rcases hc with rfl | rfl | rfl | rfl | rfl | rfl | rfl | rfl | rfl <;> rfl
theorem ST.cong {L : TL} {w w' : Nat → Int32} {R : TR} {B : TB} (h : ST L w R B) (hw : ∀ k, k < 132 → w' k = w k) : ST L w' R B := by
  obtain ⟨n, a, mk, h1, h2, h3⟩ := h
  exact ⟨n, a, mk, h1.cong hw, h2, h3⟩
/-- the states that have these letters -/
def SV (w : Nat → Int32) (v : Int64) (f : TL → TP → TR → TB → TY → TT → Option (Int64 × TY)) : Prop := ∀ L P R B Y T, ST L w R B → ∃ Y', f L P R B Y T = some (v, Y')
theorem acc_SV {L : TL} {w : Nat → Int32} {R : TR} {B : TB} (h : ST L w R B) {k : Nat} (hk : k < 9) : ∃ v, SV w v (fun L P R B Y T => fW_account L P R B Y T (nI k)) := by
  obtain ⟨r, Y', at', e1, e2⟩ := st_account h ((fun _ => L), (0 : Int32), (0 : Int32)) (fun _ => 0) (((fun _ => 0), (0 : Int32), (fun _ => 0), (fun _ => 0), (fun _ => 0), (0 : Int32), (0 : Int32), (0 : Int32)) : TT) 0 (fun _ => 0) 0 rfl rfl (nI k)
  refine ⟨r.toInt64, fun L2 P2 R2 B2 Y2 T2 h2 => ?_⟩
  obtain ⟨r2, Y3, at3, e3, e4⟩ := st_account h2 P2 Y2 T2 P2.2.2 (fun _ => 0) T2.2.1 rfl rfl (nI k)
  rw [macc_ch (ch2 := 0) (len2 := 0) k hk, e2] at e4
  cases e4
  refine ⟨Y3, ?_⟩
  show fW_account L2 P2 R2 B2 Y2 T2 (nI k) = _
  unfold fW_account
  rw [e3]
  rfl
theorem weight_SV {L : TL} {w : Nat → Int32} {R : TR} {B : TB} (h : ST L w R B) (x : Int32) : ∃ v, ∀ L R B, ST L w R B → fW_weight L x = some v := by
  obtain ⟨r, e1, e2⟩ := st_weight h x
  refine ⟨r.toInt64, fun L2 R2 B2 h2 => ?_⟩
  obtain ⟨r2, e3, e4⟩ := st_weight h2 x
  rw [e2] at e4
  cases e4
  unfold fW_weight
  rw [e3]
  rfl
theorem bag_SV {L : TL} {w : Nat → Int32} {R : TR} {B : TB} (h : ST L w R B) (x y : Int32) : ∃ v, SV w v (fun L _ R B Y _ => fW_bagOf L R B Y x y) := by
  obtain ⟨r, Y', e1, e2⟩ := st_bagOf h x y (fun _ => 0)
  refine ⟨r.toInt64, fun L2 P2 R2 B2 Y2 T2 h2 => ?_⟩
  obtain ⟨r2, Y3, e3, e4⟩ := st_bagOf h2 x y Y2
  rw [e2] at e4
  cases e4
  refine ⟨Y3, ?_⟩
  show fW_bagOf L2 R2 B2 Y2 x y = _
  unfold fW_bagOf
  rw [e3]
  rfl
theorem state_63 {L : TL} {w : Nat → Int32} {R : TR} {B : TB} {N : Nat} (hN : N ≤ 64) (h : ST L w R B) (hc : SV w (lN N) (fun L P R B Y T => fW_account L P R B Y T (nI 4))) : ∀ d k (v0 : Int64) m, k + d = N → d < m → ∃ v, SV w v (fun L P R B Y T => fW_state_63 m L P R B Y T v0 (nI k)) := by
  intro d
  induction d with
  | zero =>
    intro k v0 m h1 h2
    obtain ⟨m, rfl⟩ : ∃ q, m = q + 1 := ⟨m - 1, by omega⟩
    refine ⟨v0, fun L P R B Y T h3 => ?_⟩
    obtain ⟨Y', e⟩ := hc L P R B Y T h3
    refine ⟨Y', ?_⟩
    have e : fW_account L P R B Y T (4 : Int32) = some (lN N, Y') := e
    show fW_state_63 (m + 1) L P R B Y T v0 (nI k) = _
    rw [fW_state_63, e, obs, nI_l (by omega)]
    show (if 0 ≤ lg_cmp (lN k) (lN N) then _ else _) = _
    rw [lcge_t (by omega) (by omega)]
  | succ d ih =>
    intro k v0 m h1 h2
    obtain ⟨m, rfl⟩ : ∃ q, m = q + 1 := ⟨m - 1, by omega⟩
    obtain ⟨b, hb⟩ := bag_SV h (nI k) (nI 0)
    obtain ⟨v, hv⟩ := ih (k + 1) ((31 : Int64) * v0 + b) m (by omega) (by omega)
    refine ⟨v, fun L P R B Y T h3 => ?_⟩
    obtain ⟨Y1, e⟩ := hc L P R B Y T h3
    obtain ⟨Y2, e2⟩ := hb L P R B Y1 T h3
    obtain ⟨Y3, e3⟩ := hv L P R B Y2 T h3
    refine ⟨Y3, ?_⟩
    have e : fW_account L P R B Y T (4 : Int32) = some (lN N, Y1) := e
    have e2 : fW_bagOf L R B Y1 (nI k) (0 : Int32) = some (b, Y2) := e2
    show fW_state_63 (m + 1) L P R B Y T v0 (nI k) = _
    rw [fW_state_63, e, obs, nI_l (by omega)]
    show (if 0 ≤ lg_cmp (lN k) (lN N) then _ else Option.bind (fW_bagOf L R B Y1 (nI k) (0 : Int32)) fun t6 => fW_state_63 m L P R B t6.2 T ((31 : Int64) * v0 + t6.1) (nI k + nI 1)) = _
    rw [lcge_f (by omega) (by omega), e2, obs, nI_add]
    exact e3
theorem state_32 {L : TL} {w : Nat → Int32} {R : TR} {B : TB} {n N : Nat} (hn : n ≤ 64) (hN : N ≤ 64) (h : ST L w R B) (hc : SV w (lN N) (fun L P R B Y T => fW_account L P R B Y T (nI 4))) (hs : SV w (lN n) (fun L P R B Y T => fW_account L P R B Y T (nI 0))) : ∀ d k (v0 : Int64) m, k + d = n → d < m → ∃ v, SV w v (fun L P R B Y T => fW_state_32 m L P R B Y T v0 (nI k)) := by
  intro d
  induction d with
  | zero =>
    intro k v0 m h1 h2
    obtain ⟨m, rfl⟩ : ∃ q, m = q + 1 := ⟨m - 1, by omega⟩
    obtain ⟨v, hv⟩ := state_63 hN h hc N 0 v0 FU (by omega) (fu_lt (by omega))
    refine ⟨v, fun L P R B Y T h3 => ?_⟩
    obtain ⟨Y', e⟩ := hs L P R B Y T h3
    obtain ⟨Y2, e2⟩ := hv L P R B Y' T h3
    refine ⟨Y2, ?_⟩
    have e : fW_account L P R B Y T (0 : Int32) = some (lN n, Y') := e
    show fW_state_32 (m + 1) L P R B Y T v0 (nI k) = _
    rw [fW_state_32, e, obs, nI_l (by omega)]
    show (if 0 ≤ lg_cmp (lN k) (lN n) then _ else _) = _
    rw [lcge_t (by omega) (by omega)]
    exact e2
  | succ d ih =>
    intro k v0 m h1 h2
    obtain ⟨m, rfl⟩ : ∃ q, m = q + 1 := ⟨m - 1, by omega⟩
    obtain ⟨b, hb⟩ := weight_SV h (nI k)
    obtain ⟨v, hv⟩ := ih (k + 1) ((31 : Int64) * v0 + b) m (by omega) (by omega)
    refine ⟨v, fun L P R B Y T h3 => ?_⟩
    obtain ⟨Y1, e⟩ := hs L P R B Y T h3
    have e2 := hb L R B h3
    obtain ⟨Y3, e3⟩ := hv L P R B Y1 T h3
    refine ⟨Y3, ?_⟩
    have e : fW_account L P R B Y T (0 : Int32) = some (lN n, Y1) := e
    show fW_state_32 (m + 1) L P R B Y T v0 (nI k) = _
    rw [fW_state_32, e, obs, nI_l (by omega)]
    show (if 0 ≤ lg_cmp (lN k) (lN n) then _ else Option.bind (fW_weight L (nI k)) fun t7 => fW_state_32 m L P R B Y1 T ((31 : Int64) * v0 + t7) (nI k + nI 1)) = _
    rw [lcge_f (by omega) (by omega), e2, obs, nI_add]
    exact e3
theorem state_6 {L : TL} {w : Nat → Int32} {R : TR} {B : TB} {n N : Nat} (hn : n ≤ 64) (hN : N ≤ 64) (h : ST L w R B) (hc : SV w (lN N) (fun L P R B Y T => fW_account L P R B Y T (nI 4))) (hs : SV w (lN n) (fun L P R B Y T => fW_account L P R B Y T (nI 0))) : ∀ d k (v0 : Int64) m, k + d = 9 → d < m → ∃ v, SV w v (fun L P R B Y T => fW_state_6 m L P R B Y T v0 (nI k)) := by
  intro d
  induction d with
  | zero =>
    intro k v0 m h1 h2
    obtain ⟨m, rfl⟩ : ∃ q, m = q + 1 := ⟨m - 1, by omega⟩
    obtain ⟨v, hv⟩ := state_32 hn hN h hc hs n 0 v0 FU (by omega) (fu_lt (by omega))
    refine ⟨v, fun L P R B Y T h3 => ?_⟩
    obtain ⟨Y2, e2⟩ := hv L P R B Y T h3
    refine ⟨Y2, ?_⟩
    show fW_state_6 (m + 1) L P R B Y T v0 (nI k) = _
    rw [fW_state_6]
    show (if nI 9 ≤ nI k then _ else _) = _
    rw [jle_t (by omega) (by omega)]
    exact e2
  | succ d ih =>
    intro k v0 m h1 h2
    obtain ⟨m, rfl⟩ : ∃ q, m = q + 1 := ⟨m - 1, by omega⟩
    obtain ⟨b, hb⟩ := acc_SV h (show k < 9 by omega)
    obtain ⟨v, hv⟩ := ih (k + 1) ((31 : Int64) * v0 + b) m (by omega) (by omega)
    refine ⟨v, fun L P R B Y T h3 => ?_⟩
    obtain ⟨Y1, e⟩ := hb L P R B Y T h3
    obtain ⟨Y3, e3⟩ := hv L P R B Y1 T h3
    refine ⟨Y3, ?_⟩
    have e : fW_account L P R B Y T (nI k) = some (b, Y1) := e
    show fW_state_6 (m + 1) L P R B Y T v0 (nI k) = _
    rw [fW_state_6]
    show (if nI 9 ≤ nI k then _ else Option.bind (fW_account L P R B Y T (nI k)) fun t8 => fW_state_6 m L P R B t8.2 T ((31 : Int64) * v0 + t8.1) (nI k + nI 1)) = _
    rw [jle_f (by omega) (by omega), e, obs, nI_add]
    exact e3
/-- the state's number -/
theorem state_SV {L : TL} {w : Nat → Int32} {R : TR} {B : TB} (h : ST L w R B) : ∃ v, SV w v (fun L P R B Y T => fW_state L P R B Y T) := by
  obtain ⟨n, a, mk, h1, hR, hB⟩ := id h
  have hn := h1.1.1
  have hN := cn0_le (bg mk) n
  obtain ⟨v0, s0⟩ := acc_SV h (show 0 < 9 by omega)
  obtain ⟨v4, s4⟩ := acc_SV h (show 4 < 9 by omega)
  have e0 : v0 = lN n := by
    obtain ⟨Y', e⟩ := s0 L ((fun _ => L), (0 : Int32), (0 : Int32)) R B (fun _ => 0) (((fun _ => 0), (0 : Int32), (fun _ => 0), (fun _ => 0), (fun _ => 0), (0 : Int32), (0 : Int32), (0 : Int32)) : TT) h
    have e2 := (wr_acc0 h1 ((fun _ => L), (0 : Int32), (0 : Int32)) R B (fun _ => 0) (((fun _ => 0), (0 : Int32), (fun _ => 0), (fun _ => 0), (fun _ => 0), (0 : Int32), (0 : Int32), (0 : Int32)) : TT)).symm.trans e
    cases e2
    rfl
  have e4 : v4 = lN (cn (bg mk) 0 n) := by
    obtain ⟨Y', e⟩ := s4 L ((fun _ => L), (0 : Int32), (0 : Int32)) R B (fun _ => 0) (((fun _ => 0), (0 : Int32), (fun _ => 0), (fun _ => 0), (fun _ => 0), (0 : Int32), (0 : Int32), (0 : Int32)) : TT) h
    have e2 := (wr_acc4 hB L ((fun _ => L), (0 : Int32), (0 : Int32)) R (fun _ => 0) (((fun _ => 0), (0 : Int32), (fun _ => 0), (fun _ => 0), (fun _ => 0), (0 : Int32), (0 : Int32), (0 : Int32)) : TT)).symm.trans e
    cases e2
    rfl
  subst e0
  subst e4
  exact state_6 hn (show cn (bg mk) 0 n ≤ 64 by omega) h s4 s0 9 0 17 FU (by omega) (fu_lt (by omega))
