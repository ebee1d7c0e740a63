/-! the law's acts -/
section S
variable {L tr : TL} {R : TR} {B : TB} {P : TP} {T : TT} {w u : Nat → Int32} {ch fi lr ld : Int32}
theorem aput (h : IV L P R B T w u ch fi) (x : Int32) : ∃ r L' P' R' B' lr' ld' w' u' ch' fi', fW_put L P R B lr ld x = some (r.toInt64, L', P', R', B', lr', ld') ∧ IV L' P' R' B' T w' u' ch' fi' ∧ CH r w u ch fi w' u' ch' fi' := by
  obtain ⟨h1, h2, h3, h4, h5⟩ := h
  obtain ⟨r, L', P', R', B', lr', ld', rn', dn', w', u', mind', ch', fi', e1, -, g1, g2, g3⟩ := st_put (lr := lr) (ld := ld) (rn := 0) (dn := 0) (mind := fun _ => 0) h1 h2 x
  obtain ⟨k1, k2⟩ := put_ba e1 h4 h5
  refine ⟨r, L', P', R', B', lr', ld', w', u', ch', fi', ?_, ⟨g1, g2, h3, k1, k2⟩, g3⟩
  unfold fW_put
  rw [e1]
  rfl
theorem ainsert (h : IV L P R B T w u ch fi) (x y : Int32) : ∃ r L' P' R' B' lr' ld' w' u' ch' fi', fW_insert L P R B lr ld x y = some (r.toInt64, L', P', R', B', lr', ld') ∧ IV L' P' R' B' T w' u' ch' fi' ∧ CH r w u ch fi w' u' ch' fi' := by
  obtain ⟨h1, h2, h3, h4, h5⟩ := h
  obtain ⟨r, L', P', R', B', lr', ld', rn', dn', w', u', mind', ch', fi', e1, -, g1, g2, g3⟩ := st_insert (lr := lr) (ld := ld) (rn := 0) (dn := 0) (mind := fun _ => 0) h1 h2 x y
  obtain ⟨k1, k2⟩ := insert_ba e1 h4 h5
  refine ⟨r, L', P', R', B', lr', ld', w', u', ch', fi', ?_, ⟨g1, g2, h3, k1, k2⟩, g3⟩
  unfold fW_insert
  rw [e1]
  rfl
theorem atake (h : IV L P R B T w u ch fi) (x : Int32) : ∃ r L' P' R' B' w' u' ch' fi', fW_take L P R B x = some (r.toInt64, L', P', R', B') ∧ IV L' P' R' B' T w' u' ch' fi' ∧ CH r w u ch fi w' u' ch' fi' := by
  obtain ⟨h1, h2, h3, h4, h5⟩ := h
  obtain ⟨r, L', P', R', B', w', u', mind', ch', fi', e1, -, g1, g2, g3⟩ := st_take (mind := fun _ => 0) h1 h2 x
  obtain ⟨k1, k2⟩ := take_ba e1 h4 h5
  refine ⟨r, L', P', R', B', w', u', ch', fi', ?_, ⟨g1, g2, h3, k1, k2⟩, g3⟩
  unfold fW_take
  rw [e1]
  rfl
theorem aswap (h : IV L P R B T w u ch fi) (x : Int32) : ∃ r L' P' R' B' lr' ld' w' u' ch' fi', fW_swap L P R B lr ld x = some (r.toInt64, L', P', R', B', lr', ld') ∧ IV L' P' R' B' T w' u' ch' fi' ∧ CH r w u ch fi w' u' ch' fi' := by
  obtain ⟨h1, h2, h3, h4, h5⟩ := h
  obtain ⟨r, L', P', R', B', lr', ld', rn', dn', w', u', mind', ch', fi', e1, -, g1, g2, g3⟩ := st_swap (lr := lr) (ld := ld) (rn := 0) (dn := 0) (mind := fun _ => 0) h1 h2 x
  obtain ⟨k1, k2⟩ := swap_ba e1 h4 h5
  refine ⟨r, L', P', R', B', lr', ld', w', u', ch', fi', ?_, ⟨g1, g2, h3, k1, k2⟩, g3⟩
  unfold fW_swap
  rw [e1]
  rfl
theorem amark (h : IV L P R B T w u ch fi) (x : Int32) (b : Bool) : ∃ r L' P' R' B' lr' ld' w' u' ch' fi', fW_mark L P R B lr ld x (bI b) = some (r.toInt64, L', P', R', B', lr', ld') ∧ IV L' P' R' B' T w' u' ch' fi' ∧ CH r w u ch fi w' u' ch' fi' := by
  obtain ⟨h1, h2, h3, h4, h5⟩ := h
  obtain ⟨r, L', P', R', B', lr', ld', rn', dn', w', u', mind', ch', fi', e1, -, g1, g2, g3⟩ := st_mark (lr := lr) (ld := ld) (rn := 0) (dn := 0) (mind := fun _ => 0) h1 h2 x b
  obtain ⟨k1, k2⟩ := mark_ba e1 h4 h5
  refine ⟨r, L', P', R', B', lr', ld', w', u', ch', fi', ?_, ⟨g1, g2, h3, k1, k2⟩, g3⟩
  unfold fW_mark
  rw [e1]
  rfl
theorem strAt_some {i k : Nat} (hk : k < strL.getD i 0) : ∃ v, strAt i (nI k) = some v := by
  have := strL_lt i
  unfold strAt
  rw [if_neg (fun z => by
    rcases z with z | z
    · exact nI_pos (by omega) z
    · rw [nI_clamp (by omega)] at z; omega)]
  exact ⟨_, rfl⟩
theorem adone_2 {i : Nat} (h1 : ST L w R B) (h2 : PA P u ch fi) (h4 : BA L) (h5 : BP P) : ∀ d k m (T : TT) (c2 : Nat → Int32) (len : Nat), k + d = strL.getD i 0 → d < m → TXr T.1 c2 len → T.2.1 = nI len →
    ∃ r L' tr' P' R' B' T' lr' ld' w' u' ch' fi', fW_done_2 m L tr P R B T lr ld i (nI k) = some (r.toInt64, L', tr', P', R', B', T', lr', ld') ∧ IV L' P' R' B' T' w' u' ch' fi' ∧ CH r w u ch fi w' u' ch' fi' := by
  have hl := strL_lt i
  intro d
  induction d with
  | zero =>
    intro k m T c2 len e1 e2 e3 e4
    obtain ⟨m, rfl⟩ : ∃ q, m = q + 1 := ⟨m - 1, by omega⟩
    obtain ⟨r, L', tr', P', R', B', T', lr', ld', rn', dn', w', u', mind', ch', fi', nx', g', so', d', f1, -, f3, f4, f5, f6⟩ := st_run (tr := tr) (lr := lr) (ld := ld) (rn := 0) (dn := 0) (mind := fun _ => 0) (g := fun _ => 0) (nx := 0) (so := 0) (dn2 := 0) h1 h2 e3 e4
    obtain ⟨k1, k2⟩ := run_ba f1 h4 h5
    refine ⟨r, L', tr', P', R', B', T', lr', ld', w', u', ch', fi', ?_, ⟨f3, f4, f5, k1, k2⟩, f6⟩
    rw [fW_done_2]
    unfold strLen fW_run
    rw [jle_t (by omega) (by omega), f1]
    rfl
  | succ d ih =>
    intro k m T c2 len e1 e2 e3 e4
    obtain ⟨m, rfl⟩ : ∃ q, m = q + 1 := ⟨m - 1, by omega⟩
    obtain ⟨v, hv⟩ := strAt_some (i := i) (k := k) (by omega)
    obtain ⟨r0, T1, c3, len1, f1, -, f3, f4⟩ := st_append e3 e4 v
    obtain ⟨r, L', tr', P', R', B', T', lr', ld', w', u', ch', fi', g1, g2, g3⟩ := ih (k + 1) m T1 c3 len1 (by omega) (by omega) f3 f4
    refine ⟨r, L', tr', P', R', B', T', lr', ld', w', u', ch', fi', ?_, g2, g3⟩
    rw [fW_done_2]
    unfold strLen
    rw [jle_f (by omega) (by omega), hv, obs, f1, obs]
    show fW_done_2 m L tr P R B T1 lr ld i (nI k + nI 1) = _
    rw [nI_add]
    exact g1
theorem adone (h : IV L P R B T w u ch fi) (i : Nat) : ∃ r L' tr' P' R' B' T' lr' ld' w' u' ch' fi', fW_done L tr P R B T lr ld i = some (r.toInt64, L', tr', P', R', B', T', lr', ld') ∧ IV L' P' R' B' T' w' u' ch' fi' ∧ CH r w u ch fi w' u' ch' fi' := by
  obtain ⟨h1, h2, h3, h4, h5⟩ := h
  have hl := strL_lt i
  exact adone_2 h1 h2 h4 h5 (strL.getD i 0) 0 FU T (fun _ => 0) 0 (by omega) (fu_lt (by omega)) ⟨by omega, fun k hk => absurd hk (Nat.not_lt_zero k)⟩ h3
theorem max_sp {n : Nat} (hn : n ≤ 64) : ∃ q, 0 < q ∧ q ≤ 64 ∧ fJ_max (1 : Int32) (nI n) = nI q := by
  unfold fJ_max
  by_cases c : 1 < n
  · exact ⟨n, by omega, hn, jlt_t (a := 1) c (by omega)⟩
  · exact ⟨1, by omega, by omega, jlt_f (a := 1) (by omega) (by omega)⟩
theorem rmI_some (x : Int32) {q : Nat} (h0 : 0 < q) (hq : q ≤ 64) : ∃ z, rmI x (nI q) = some z := by
  unfold rmI
  rw [if_neg (fun z => by
    have := (nI_eq (a := q) (b := 0) (by omega) (by omega)).mp z
    omega)]
  exact ⟨_, rfl⟩
theorem acts_sp (h : IV L P R B T w u ch fi) (Y : TY) (v : Int32) : ∃ r L' tr' P' R' B' Y' T' lr' ld' w' u' ch' fi', fW_acts L tr P R B Y T lr ld v = some (r.toInt64, L', tr', P', R', B', Y', T', lr', ld') ∧ IV L' P' R' B' T' w' u' ch' fi' ∧ CH r w u ch fi w' u' ch' fi' := by
  obtain ⟨c1, hc1, e1⟩ := chosen_sp (v >>> ((8 : Int32) &&& 31)) (show 0 < 40000 by omega) (by omega)
  obtain ⟨c2, hc2, e2⟩ := chosen_sp v (show 0 < 16 by omega) (by omega)
  obtain ⟨n, a, mk, hL, hR, hB⟩ := id h.1
  have hn := hL.1.1
  obtain ⟨q, hq0, hq, e3⟩ := max_sp hn
  have e4 := wr_acc0 hL P R B Y T
  have e1 : fW_chosen (v >>> ((8 : Int32) &&& 31)) (40000 : Int32) = some (nI c1) := e1
  have e2 : fW_chosen v (16 : Int32) = some (nI c2) := e2
  have e4 : fW_account L P R B Y T (0 : Int32) = some (lN n, Y) := e4
  obtain ⟨z1, f1⟩ := rmI_some (nI c1 / (32 : Int32)) hq0 hq
  obtain ⟨z2, f2⟩ := rmI_some (nI c1) hq0 hq
  unfold fW_acts
  rw [e1, obs, e4, obs, e2, obs]
  simp only [lN_i]
  rw [e3, f1, f2]
  simp only [obs]
  have hcs : c2 = 0 ∨ c2 = 1 ∨ c2 = 2 ∨ c2 = 3 ∨ c2 = 4 ∨ c2 = 5 ∨ c2 = 6 ∨ c2 = 7 ∨ c2 = 8 ∨ c2 = 9 ∨ c2 = 10 ∨ c2 = 11 ∨ 12 ≤ c2 := by omega
  have cput : ∀ x, ∃ r L' tr' P' R' B' Y' T' lr' ld' w' u' ch' fi', (Option.bind (fW_put L P R B lr ld x) fun t4 => some (t4.1, t4.2.1, tr, t4.2.2.1, t4.2.2.2.1, t4.2.2.2.2.1, Y, T, t4.2.2.2.2.2.1, t4.2.2.2.2.2.2)) = some (r.toInt64, L', tr', P', R', B', Y', T', lr', ld') ∧ IV L' P' R' B' T' w' u' ch' fi' ∧ CH r w u ch fi w' u' ch' fi' := fun x => by
    obtain ⟨r, L', P', R', B', lr', ld', w', u', ch', fi', g1, g2, g3⟩ := aput (lr := lr) (ld := ld) h x
    exact ⟨r, L', tr, P', R', B', Y, T, lr', ld', w', u', ch', fi', by rw [g1]; rfl, g2, g3⟩
  have cins : ∀ x y, ∃ r L' tr' P' R' B' Y' T' lr' ld' w' u' ch' fi', (Option.bind (fW_insert L P R B lr ld x y) fun t4 => some (t4.1, t4.2.1, tr, t4.2.2.1, t4.2.2.2.1, t4.2.2.2.2.1, Y, T, t4.2.2.2.2.2.1, t4.2.2.2.2.2.2)) = some (r.toInt64, L', tr', P', R', B', Y', T', lr', ld') ∧ IV L' P' R' B' T' w' u' ch' fi' ∧ CH r w u ch fi w' u' ch' fi' := fun x y => by
    obtain ⟨r, L', P', R', B', lr', ld', w', u', ch', fi', g1, g2, g3⟩ := ainsert (lr := lr) (ld := ld) h x y
    exact ⟨r, L', tr, P', R', B', Y, T, lr', ld', w', u', ch', fi', by rw [g1]; rfl, g2, g3⟩
  have ctak : ∀ x, ∃ r L' tr' P' R' B' Y' T' lr' ld' w' u' ch' fi', (Option.bind (fW_take L P R B x) fun t4 => some (t4.1, t4.2.1, tr, t4.2.2.1, t4.2.2.2.1, t4.2.2.2.2, Y, T, lr, ld)) = some (r.toInt64, L', tr', P', R', B', Y', T', lr', ld') ∧ IV L' P' R' B' T' w' u' ch' fi' ∧ CH r w u ch fi w' u' ch' fi' := fun x => by
    obtain ⟨r, L', P', R', B', w', u', ch', fi', g1, g2, g3⟩ := atake h x
    exact ⟨r, L', tr, P', R', B', Y, T, lr, ld, w', u', ch', fi', by rw [g1]; rfl, g2, g3⟩
  have cswp : ∀ x, ∃ r L' tr' P' R' B' Y' T' lr' ld' w' u' ch' fi', (Option.bind (fW_swap L P R B lr ld x) fun t4 => some (t4.1, t4.2.1, tr, t4.2.2.1, t4.2.2.2.1, t4.2.2.2.2.1, Y, T, t4.2.2.2.2.2.1, t4.2.2.2.2.2.2)) = some (r.toInt64, L', tr', P', R', B', Y', T', lr', ld') ∧ IV L' P' R' B' T' w' u' ch' fi' ∧ CH r w u ch fi w' u' ch' fi' := fun x => by
    obtain ⟨r, L', P', R', B', lr', ld', w', u', ch', fi', g1, g2, g3⟩ := aswap (lr := lr) (ld := ld) h x
    exact ⟨r, L', tr, P', R', B', Y, T, lr', ld', w', u', ch', fi', by rw [g1]; rfl, g2, g3⟩
  have cmrk : ∀ x b, ∃ r L' tr' P' R' B' Y' T' lr' ld' w' u' ch' fi', (Option.bind (fW_mark L P R B lr ld x (bI b)) fun t4 => some (t4.1, t4.2.1, tr, t4.2.2.1, t4.2.2.2.1, t4.2.2.2.2.1, Y, T, t4.2.2.2.2.2.1, t4.2.2.2.2.2.2)) = some (r.toInt64, L', tr', P', R', B', Y', T', lr', ld') ∧ IV L' P' R' B' T' w' u' ch' fi' ∧ CH r w u ch fi w' u' ch' fi' := fun x b => by
    obtain ⟨r, L', P', R', B', lr', ld', w', u', ch', fi', g1, g2, g3⟩ := amark (lr := lr) (ld := ld) h x b
    exact ⟨r, L', tr, P', R', B', Y, T, lr', ld', w', u', ch', fi', by rw [g1]; rfl, g2, g3⟩
  rcases hcs with rfl | rfl | rfl | rfl | rfl | rfl | rfl | rfl | rfl | rfl | rfl | rfl | hc
  · exact cput _
  · exact cput _
  · exact cput _
  · exact cput _
  · exact cins _ _
  · exact cins _ _
  · exact cins _ _
  · exact ctak _
  · exact ctak _
  · exact cswp _
  · exact cswp _
  · show ∃ r L' tr' P' R' B' Y' T' lr' ld' w' u' ch' fi', (if _ ≤ (0 : Int32) then _ else _) = _ ∧ _
    by_cases c : ((nI c1 / (20 : Int32)) - (nI c1 / (20 : Int32)) / (3 : Int32) * (3 : Int32)) ≤ 0
    · rw [if_pos c]
      exact cmrk _ false
    · rw [if_neg c]
      exact cmrk _ true
  · have hne : ∀ k, k < 12 → nI c2 ≠ nI k := fun k hk z => by
      have := (nI_eq (by omega) (by omega)).mp z
      omega
    rw [if_neg (show ¬ nI c2 = (0 : Int32) from hne 0 (by omega)), if_neg (show ¬ nI c2 = (1 : Int32) from hne 1 (by omega)), if_neg (show ¬ nI c2 = (2 : Int32) from hne 2 (by omega)), if_neg (show ¬ nI c2 = (3 : Int32) from hne 3 (by omega)), if_neg (show ¬ nI c2 = (4 : Int32) from hne 4 (by omega)), if_neg (show ¬ nI c2 = (5 : Int32) from hne 5 (by omega)), if_neg (show ¬ nI c2 = (6 : Int32) from hne 6 (by omega)), if_neg (show ¬ nI c2 = (7 : Int32) from hne 7 (by omega)), if_neg (show ¬ nI c2 = (8 : Int32) from hne 8 (by omega)), if_neg (show ¬ nI c2 = (9 : Int32) from hne 9 (by omega)), if_neg (show ¬ nI c2 = (10 : Int32) from hne 10 (by omega)), if_neg (show ¬ nI c2 = (11 : Int32) from hne 11 (by omega))]
    obtain ⟨r, L', tr', P', R', B', T', lr', ld', w', u', ch', fi', g1, g2, g3⟩ := adone (tr := tr) (lr := lr) (ld := ld) h (7 + c1 % 8)
    refine ⟨r, L', tr', P', R', B', Y, T', lr', ld', w', u', ch', fi', ?_, g2, g3⟩
    rw [show (nI c1 - nI c1 / (8 : Int32) * (8 : Int32)) = nI (c1 % 8) from pk_rem (d := 8) (by omega) (by omega) (by omega), jld (by omega) (by omega), obs, g1]
    rfl
end S
