/-! what is undone, what is restored -/
theorem PA.c {P : TP} {u : Nat → Int32} {ch fi : Int32} (h : PA P u ch fi) : ∃ c, c ≤ 8 ∧ ch = nI c ∧ P.2.2 = nI c := by
  obtain ⟨c, f1, f2, hc, hf1, hf2, e1, e2, e3, e4, hE⟩ := h
  exact ⟨c, hc, e3, e2⟩
theorem km_sp {P : TP} {w u u' : Nat → Int32} {ch fi ch' fi' : Int32} (hP : PA P u ch fi) (hK : KM w u ch fi u' ch' fi') : ∃ c c' f2, c ≤ 8 ∧ ch = nI c ∧ c' = min c 7 ∧ ch' = nI (c' + 1) ∧ fi' = nI f2 ∧ f2 < 8 ∧ ∀ k, k < 132 → u' (132 * ((f2 + c') % 8) + k) = w k := by
  obtain ⟨c, f1, f2, hc, hf1, hf2, e1, e2, e3, e4, hE⟩ := hP
  obtain ⟨wm, hm, hk⟩ := hK
  by_cases c8 : c = 8
  · subst c8
    obtain ⟨g, b3, b4, b5⟩ := keeps_47 (w := wm) (c := nI 7) (f := nI ((f2 + 1) % 8)) (show ((f2 + 1) % 8 + 7) % 8 < 8 by omega) 132 0 FU u (by omega) (fu_lt (by omega))
    have e : fM_keepsMind u wm ch fi = some (g, nI 7 + nI 1, nI ((f2 + 1) % 8)) := by
      unfold fM_keepsMind
      rw [e3, e4]
      simp only [jl_, nI_add]
      rw [if_pos trivial, pk_rem (show f2 + 1 < 2 ^ 31 by omega) (by omega) (by omega), pk_sub (by omega), nI_add, pk_rem (show (f2 + 1) % 8 + (8 - 1) < 2 ^ 31 by omega) (by omega) (by omega)]
      rw [nI_add] at b3
      exact b3
    rw [e] at hk
    cases hk
    exact ⟨8, 7, (f2 + 1) % 8, by omega, e3, by omega, by rw [nI_add], rfl, by omega, fun k hk => by rw [b5 k (by omega) hk, hm k hk]⟩
  · obtain ⟨g, b3, b4, b5⟩ := keeps_47 (w := wm) (c := nI c) (f := nI f2) (show (f2 + c) % 8 < 8 by omega) 132 0 FU u (by omega) (fu_lt (by omega))
    have e : fM_keepsMind u wm ch fi = some (g, nI c + nI 1, nI f2) := by
      unfold fM_keepsMind
      rw [e3, e4]
      simp only [jl_, nI_add]
      rw [jeq_f c8 (by omega) (by omega), pk_rem (show f2 + c < 2 ^ 31 by omega) (by omega) (by omega)]
      rw [nI_add] at b3
      exact b3
    rw [e] at hk
    cases hk
    exact ⟨c, c, f2, hc, e3, by omega, by rw [nI_add], rfl, hf2, fun k hk => by rw [b5 k (by omega) hk, hm k hk]⟩
/-- all that is known between two steps of the law -/
def IV (L : TL) (P : TP) (R : TR) (B : TB) (T : TT) (w u : Nat → Int32) (ch fi : Int32) : Prop := ST L w R B ∧ PA P u ch fi ∧ T.2.1 = nI 0 ∧ BA L ∧ BP P
section S
variable {L L' : TL} {R R' : TR} {B B' : TB} {P P' : TP} {T T' : TT} {w u w' u' : Nat → Int32} {ch fi ch' fi' : Int32}
/-- behind a change undo gives back what was -/
theorem undo_sp (hP : PA P u ch fi) (hK : KM w u ch fi u' ch' fi') (h : IV L' P' R' B' T' w' u' ch' fi') : ∃ c L2 P2 R2 B2 ch2, ch = nI c ∧ c ≤ 8 ∧ fW_undo L' P' R' B' = some (lN (min c 7), L2, P2, R2, B2) ∧ IV L2 P2 R2 B2 T' w u' ch2 fi' := by
  obtain ⟨c, c', f2, hc, e3, hc', e5, e6, hf2, hu⟩ := km_sp hP hK
  obtain ⟨h1, h2, h3, h4, h5⟩ := h
  obtain ⟨r, L2, P2, R2, B2, w2, ch2, g1, g2, g3, g4⟩ := st_undo h1 h2
  obtain ⟨q, b3, -, b5⟩ := undo_35 (u := u') (c := nI c') (f := nI f2) (show (f2 + c') % 8 < 8 by omega) 132 0 FU w' (by omega) (fu_lt (by omega))
  have e : fM_undo w' u' ch' fi' = some (nI c', q, nI c') := by
    unfold fM_undo
    rw [e5, e6]
    simp only [jl_]
    rw [jeq_f (show c' + 1 ≠ 0 by omega) (by omega) (by omega), pk_sub (by omega), Nat.add_sub_cancel, nI_add, pk_rem (show f2 + c' < 2 ^ 31 by omega) (by omega) (by omega)]
    exact b3
  rw [e] at g2
  cases g2
  obtain ⟨k1, k2⟩ := undo_ba g1 h4 h5
  refine ⟨c, L2, P2, R2, B2, nI c', e3, hc, ?_, g3.cong (fun k hk => by rw [b5 k (by omega) hk, hu k hk]), g4, h3, k1, k2⟩
  unfold fW_undo
  rw [g1, ← hc']
  simp (disch := omega) only [obs, nI_l]
/-- nothing to undo -/
theorem undo_no (h : IV L P R B T w u (nI 0) fi) : fW_undo L P R B = some ((-15 : Int64), L, P, R, B) := by
  obtain ⟨h1, h2, h3, h4, h5⟩ := h
  have e1 : P.2.2 = nI 0 := by
    obtain ⟨c, f1, f2, hc, hf1, hf2, e1, e2, e3, e4, hE⟩ := h2
    rw [e2, ← e3]
  unfold fW_undo fS_undo fP_giveBack
  rw [e1]
  simp only [jl_]
  rw [if_pos (by trivial)]
  simp only [obs]
  rw [if_pos (by trivial)]
  simp only [obs]
  rw [← e1]
  rfl
theorem save_sp (h : IV L P R B T w u ch fi) (Sn : TL) (i : Int32) : ∃ n S', n ≤ 64 ∧ fW_save L Sn i = some (lN n, S', nI 1) ∧ LX S' w ∧ BA S' ∧ ∀ Y, fW_account L P R B Y T (nI 0) = some (lN n, Y) := by
  obtain ⟨⟨n, a, mk, hL, hR, hB⟩, h2, h3, h4, h5⟩ := h
  have hn := hL.1.1
  obtain ⟨W', e1, e2⟩ := hL.like Sn
  have e : fS_save L Sn i = some (nI n, (W', L.2), nI 1) := by
    unfold fS_save fL_size
    rw [e1, hL.2.1]
    simp only [obs, jl_]
    rw [← hL.2.1]
  refine ⟨n, (W', L.2), hn, ?_, ⟨n, a, mk, e2⟩, save_ba e h4, fun Y => wr_acc0 hL P R B Y T⟩
  unfold fW_save
  rw [e]
  simp (disch := omega) only [obs, nI_l]
theorem restore_sp (h : IV L P R B T w u ch fi) {Sn : TL} {sw : Nat → Int32} (hS : LX Sn sw) (hb : BA Sn) : ∃ n L' P' R' B' fi', fW_restore L Sn (nI 1) P R B = some (lN n, L', P', R', B') ∧ IV L' P' R' B' T sw u (nI 0) fi' ∧ ∀ Y, fW_account L' P' R' B' Y T (nI 0) = some (lN n, Y) := by
  obtain ⟨h1, h2, h3, h4, h5⟩ := h
  obtain ⟨r, L', P', R', B', w', ch', fi', g1, g2, g3, g4⟩ := st_restore (sr := sw) h1 h2 (Or.inr ⟨rfl, hS⟩)
  obtain ⟨q, e3, -, e4⟩ := restore_12 (w := sw) (c := ch) (f := fi) (i := nI 1) 132 0 FU w (by omega) (fu_lt (by omega))
  have e : fM_restore w sw ch fi (nI 1) = some (q 0, q, nI 0, nI 0) := by
    unfold fM_restore
    rw [if_neg (by decide)]
    simp only [jl_]
    exact e3
  rw [e] at g2
  cases g2
  obtain ⟨k1, k2⟩ := restore_ba g1 h4 h5 hb
  obtain ⟨n, a, mk, hL, hR, hB⟩ := id g3
  have hn := hL.1.1
  refine ⟨n, L', P', R', B', nI 0, ?_, ⟨g3.cong (fun k hk => (e4 k (by omega) hk).symm), g4, h3, k1, k2⟩, fun Y => wr_acc0 hL P' R' B' Y T⟩
  unfold fW_restore
  rw [g1, hL.1.2.2.1]
  simp (disch := omega) only [obs, nI_l]
theorem acc9_sp (h : T.2.1 = nI 0) (L : TL) (P : TP) (R : TR) (B : TB) (Y : TY) : fW_account L P R B Y T (nI 9) = some (lN 0, Y) := by
  unfold fW_account fS_account fT_size
  rw [h]
  simp (disch := omega) only [jl_, obs, jeq_f, jeq_t, nI_l, if_true]
theorem acc10_sp {c : Nat} (hc : c ≤ 8) (h : P.2.2 = nI c) (L : TL) (R : TR) (B : TB) (Y : TY) (T : TT) : fW_account L P R B Y T (nI 10) = some (lN c, Y) := by
  unfold fW_account fS_account fP_size
  rw [h]
  simp (disch := omega) only [jl_, obs, jeq_f, jeq_t, nI_l, if_true]
theorem min_sp {c : Nat} (hc : c ≤ 8) : fJ_min (lN c) (7 : Int64) = lN (min c 7) := by
  have hcs : c = 0 ∨ c = 1 ∨ c = 2 ∨ c = 3 ∨ c = 4 ∨ c = 5 ∨ c = 6 ∨ c = 7 ∨ c = 8 := by omega
  rcases hcs with rfl | rfl | rfl | rfl | rfl | rfl | rfl | rfl | rfl <;> decide
end S
