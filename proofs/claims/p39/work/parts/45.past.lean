/-! copies of rows -/
theorem thinks_2 {w : Nat → Int32} : ∀ d k m (g : Nat → Int32), k + d = 132 → d < m → ∃ g', fM_thinks_2 m w g (nI k) = some g' ∧ (∀ j, j < k → g' j = g j) ∧ ∀ j, k ≤ j → j < 132 → g' j = w j := by
  intro d
  induction d with
  | zero =>
    intro k m g h1 h2
    obtain ⟨m, rfl⟩ : ∃ q, m = q + 1 := ⟨m - 1, by omega⟩
    refine ⟨g, ?_, fun _ _ => rfl, fun j h3 h4 => by omega⟩
    rw [fM_thinks_2]
    simp (disch := omega) only [jl_, nI_add, pk_sub, pk_mul, j_neg, jlt_t, jlt_f, jle_t, jle_f, jeq_t, jeq_f, jld, jst, obs, j_div, ↓reduceIte, if_true, if_false, Nat.add_zero, Nat.sub_zero, Nat.add_sub_cancel_left]
  | succ d ih =>
    intro k m g h1 h2
    obtain ⟨m, rfl⟩ : ∃ q, m = q + 1 := ⟨m - 1, by omega⟩
    obtain ⟨g', e, a1, a2⟩ := ih (k + 1) m (up g k (w k)) (by omega) (by omega)
    refine ⟨g', ?_, fun j hj => by rw [a1 j (by omega), up_ne (by omega)], fun j h3 h4 => ?_⟩
    · rw [fM_thinks_2]
      simp (disch := omega) only [jl_, nI_add, pk_sub, pk_mul, j_neg, jlt_t, jlt_f, jle_t, jle_f, jeq_t, jeq_f, jld, jst, obs, j_div, ↓reduceIte, if_true, if_false, Nat.add_zero, Nat.sub_zero, Nat.add_sub_cancel_left]
      exact e
    · by_cases c : j = k
      · subst c; rw [a1 j (by omega), up_eq rfl]
      · exact a2 j (by omega) h4
theorem thinks_sp (w g : Nat → Int32) : ∃ g', fM_thinks w g = some g' ∧ ∀ j, j < 132 → g' j = w j := by
  obtain ⟨g', e, -, a2⟩ := thinks_2 (w := w) 132 0 FU g (by omega) (fu_lt (by omega))
  exact ⟨g', e, fun j hj => a2 j (by omega) hj⟩
theorem forgets_2 {w : Nat → Int32} : ∀ d k m (g : Nat → Int32), k + d = 132 → d < m → ∃ g', fM_forgets_2 m g w (nI k) = some g' ∧ (∀ j, j < k → g' j = g j) ∧ ∀ j, k ≤ j → j < 132 → g' j = w j := by
  intro d
  induction d with
  | zero =>
    intro k m g h1 h2
    obtain ⟨m, rfl⟩ : ∃ q, m = q + 1 := ⟨m - 1, by omega⟩
    refine ⟨g, ?_, fun _ _ => rfl, fun j h3 h4 => by omega⟩
    rw [fM_forgets_2]
    simp (disch := omega) only [jl_, nI_add, pk_sub, pk_mul, j_neg, jlt_t, jlt_f, jle_t, jle_f, jeq_t, jeq_f, jld, jst, obs, j_div, ↓reduceIte, if_true, if_false, Nat.add_zero, Nat.sub_zero, Nat.add_sub_cancel_left]
  | succ d ih =>
    intro k m g h1 h2
    obtain ⟨m, rfl⟩ : ∃ q, m = q + 1 := ⟨m - 1, by omega⟩
    obtain ⟨g', e, a1, a2⟩ := ih (k + 1) m (up g k (w k)) (by omega) (by omega)
    refine ⟨g', ?_, fun j hj => by rw [a1 j (by omega), up_ne (by omega)], fun j h3 h4 => ?_⟩
    · rw [fM_forgets_2]
      simp (disch := omega) only [jl_, nI_add, pk_sub, pk_mul, j_neg, jlt_t, jlt_f, jle_t, jle_f, jeq_t, jeq_f, jld, jst, obs, j_div, ↓reduceIte, if_true, if_false, Nat.add_zero, Nat.sub_zero, Nat.add_sub_cancel_left]
      exact e
    · by_cases c : j = k
      · subst c; rw [a1 j (by omega), up_eq rfl]
      · exact a2 j (by omega) h4
theorem forgets_sp (w g : Nat → Int32) : ∃ g', fM_forgets g w = some g' ∧ ∀ j, j < 132 → g' j = w j := by
  obtain ⟨g', e, -, a2⟩ := forgets_2 (w := w) 132 0 FU g (by omega) (fu_lt (by omega))
  exact ⟨g', e, fun j hj => a2 j (by omega) hj⟩
theorem save_2 {w : Nat → Int32} {i : Int32} : ∀ d k m (g : Nat → Int32), k + d = 132 → d < m → ∃ g', fM_save_2 m w g i (nI k) = some (w 0, g', nI 1) ∧ (∀ j, j < k → g' j = g j) ∧ ∀ j, k ≤ j → j < 132 → g' j = w j := by
  intro d
  induction d with
  | zero =>
    intro k m g h1 h2
    obtain ⟨m, rfl⟩ : ∃ q, m = q + 1 := ⟨m - 1, by omega⟩
    refine ⟨g, ?_, fun _ _ => rfl, fun j h3 h4 => by omega⟩
    rw [fM_save_2]
    simp (disch := omega) only [jl_, nI_add, pk_sub, pk_mul, j_neg, jlt_t, jlt_f, jle_t, jle_f, jeq_t, jeq_f, jld, jst, obs, j_div, ↓reduceIte, if_true, if_false, Nat.add_zero, Nat.sub_zero, Nat.add_sub_cancel_left]
  | succ d ih =>
    intro k m g h1 h2
    obtain ⟨m, rfl⟩ : ∃ q, m = q + 1 := ⟨m - 1, by omega⟩
    obtain ⟨g', e, a1, a2⟩ := ih (k + 1) m (up g k (w k)) (by omega) (by omega)
    refine ⟨g', ?_, fun j hj => by rw [a1 j (by omega), up_ne (by omega)], fun j h3 h4 => ?_⟩
    · rw [fM_save_2]
      simp (disch := omega) only [jl_, nI_add, pk_sub, pk_mul, j_neg, jlt_t, jlt_f, jle_t, jle_f, jeq_t, jeq_f, jld, jst, obs, j_div, ↓reduceIte, if_true, if_false, Nat.add_zero, Nat.sub_zero, Nat.add_sub_cancel_left]
      exact e
    · by_cases c : j = k
      · subst c; rw [a1 j (by omega), up_eq rfl]
      · exact a2 j (by omega) h4
theorem restore_12 {w : Nat → Int32} {c f i : Int32} : ∀ d k m (g : Nat → Int32), k + d = 132 → d < m → ∃ g', fM_restore_12 m g w c f i (nI k) = some (g' 0, g', nI 0, nI 0) ∧ (∀ j, j < k → g' j = g j) ∧ ∀ j, k ≤ j → j < 132 → g' j = w j := by
  intro d
  induction d with
  | zero =>
    intro k m g h1 h2
    obtain ⟨m, rfl⟩ : ∃ q, m = q + 1 := ⟨m - 1, by omega⟩
    refine ⟨g, ?_, fun _ _ => rfl, fun j h3 h4 => by omega⟩
    rw [fM_restore_12]
    simp (disch := omega) only [jl_, nI_add, pk_sub, pk_mul, j_neg, jlt_t, jlt_f, jle_t, jle_f, jeq_t, jeq_f, jld, jst, obs, j_div, ↓reduceIte, if_true, if_false, Nat.add_zero, Nat.sub_zero, Nat.add_sub_cancel_left]
  | succ d ih =>
    intro k m g h1 h2
    obtain ⟨m, rfl⟩ : ∃ q, m = q + 1 := ⟨m - 1, by omega⟩
    obtain ⟨g', e, a1, a2⟩ := ih (k + 1) m (up g k (w k)) (by omega) (by omega)
    refine ⟨g', ?_, fun j hj => by rw [a1 j (by omega), up_ne (by omega)], fun j h3 h4 => ?_⟩
    · rw [fM_restore_12]
      simp (disch := omega) only [jl_, nI_add, pk_sub, pk_mul, j_neg, jlt_t, jlt_f, jle_t, jle_f, jeq_t, jeq_f, jld, jst, obs, j_div, ↓reduceIte, if_true, if_false, Nat.add_zero, Nat.sub_zero, Nat.add_sub_cancel_left]
      exact e
    · by_cases c : j = k
      · subst c; rw [a1 j (by omega), up_eq rfl]
      · exact a2 j (by omega) h4
theorem undo_35 {u : Nat → Int32} {c f : Int32} {r : Nat} (hr : r < 8) : ∀ d k m (g : Nat → Int32), k + d = 132 → d < m → ∃ g', fM_undo_35 m g u c f (nI r) (nI k) = some (c, g', c) ∧ (∀ j, j < k → g' j = g j) ∧ ∀ j, k ≤ j → j < 132 → g' j = u (132 * r + j) := by
  intro d
  induction d with
  | zero =>
    intro k m g h1 h2
    obtain ⟨m, rfl⟩ : ∃ q, m = q + 1 := ⟨m - 1, by omega⟩
    refine ⟨g, ?_, fun _ _ => rfl, fun j h3 h4 => by omega⟩
    rw [fM_undo_35]
    simp (disch := omega) only [jl_, nI_add, pk_sub, pk_mul, j_neg, jlt_t, jlt_f, jle_t, jle_f, jeq_t, jeq_f, jld, jst, obs, j_div, ↓reduceIte, if_true, if_false, Nat.add_zero, Nat.sub_zero, Nat.add_sub_cancel_left]
  | succ d ih =>
    intro k m g h1 h2
    obtain ⟨m, rfl⟩ : ∃ q, m = q + 1 := ⟨m - 1, by omega⟩
    obtain ⟨g', e, a1, a2⟩ := ih (k + 1) m (up g k (u (132 * r + k))) (by omega) (by omega)
    refine ⟨g', ?_, fun j hj => by rw [a1 j (by omega), up_ne (by omega)], fun j h3 h4 => ?_⟩
    · rw [fM_undo_35]
      simp (disch := omega) only [jl_, nI_add, pk_sub, pk_mul, j_neg, jlt_t, jlt_f, jle_t, jle_f, jeq_t, jeq_f, jld, jst, obs, j_div, ↓reduceIte, if_true, if_false, Nat.add_zero, Nat.sub_zero, Nat.add_sub_cancel_left]
      exact e
    · by_cases c : j = k
      · subst c; rw [a1 j (by omega), up_eq rfl]
      · exact a2 j (by omega) h4
theorem keeps_47 {w : Nat → Int32} {c f : Int32} {r : Nat} (hr : r < 8) : ∀ d k m (g : Nat → Int32), k + d = 132 → d < m → ∃ g', fM_keepsMind_47 m g w c f (nI r) (nI k) = some (g', c + nI 1, f) ∧ (∀ j, (j < 132 * r + k ∨ 132 * r + 132 ≤ j) → g' j = g j) ∧ ∀ j, k ≤ j → j < 132 → g' (132 * r + j) = w j := by
  intro d
  induction d with
  | zero =>
    intro k m g h1 h2
    obtain ⟨m, rfl⟩ : ∃ q, m = q + 1 := ⟨m - 1, by omega⟩
    refine ⟨g, ?_, fun _ _ => rfl, fun j h3 h4 => by omega⟩
    rw [fM_keepsMind_47]
    simp (disch := omega) only [jl_, nI_add, pk_sub, pk_mul, j_neg, jlt_t, jlt_f, jle_t, jle_f, jeq_t, jeq_f, jld, jst, obs, j_div, ↓reduceIte, if_true, if_false, Nat.add_zero, Nat.sub_zero, Nat.add_sub_cancel_left]
  | succ d ih =>
    intro k m g h1 h2
    obtain ⟨m, rfl⟩ : ∃ q, m = q + 1 := ⟨m - 1, by omega⟩
    obtain ⟨g', e, a1, a2⟩ := ih (k + 1) m (up g (132 * r + k) (w k)) (by omega) (by omega)
    refine ⟨g', ?_, fun j hj => by rw [a1 j (by omega), up_ne (by omega)], fun j h3 h4 => ?_⟩
    · rw [fM_keepsMind_47]
      simp (disch := omega) only [jl_, nI_add, pk_sub, pk_mul, j_neg, jlt_t, jlt_f, jle_t, jle_f, jeq_t, jeq_f, jld, jst, obs, j_div, ↓reduceIte, if_true, if_false, Nat.add_zero, Nat.sub_zero, Nat.add_sub_cancel_left]
      exact e
    · by_cases c : j = k
      · subst c; rw [a1 _ (by omega), up_eq rfl]
      · exact a2 j (by omega) h4
/-! what can be undone -/
def LX (L : TL) (w : Nat → Int32) : Prop := ∃ n a mk, LW L w n a mk
theorem LX.cong {L : TL} {w w' : Nat → Int32} (h : LX L w) (hw : ∀ k, k < 132 → w' k = w k) : LX L w' := by
  obtain ⟨n, a, mk, h⟩ := h
  exact ⟨n, a, mk, h.cong hw⟩
def PE (kept : Nat → TL) (u : Nat → Int32) (c f1 f2 : Nat) : Prop := ∀ j, j < c → LX (kept ((f1 + j) % 8)) (fun k => u (132 * ((f2 + j) % 8) + k))
def PA (past : TP) (u : Nat → Int32) (ch fi : Int32) : Prop := ∃ c f1 f2, c ≤ 8 ∧ f1 < 8 ∧ f2 < 8 ∧ past.2.1 = nI f1 ∧ past.2.2 = nI c ∧ ch = nI c ∧ fi = nI f2 ∧ PE past.1 u c f1 f2
theorem slotAt_sp {f c : Nat} (hf : f < 8) (hc : c < 8) : fP_slotAt (nI f) (nI c) = some (some ((f + c) % 8)) := by
  unfold fP_slotAt
  simp only [jl_, nI_add]
  rw [pk_rem (show f + c < 2 ^ 31 by omega) (by omega) (by omega)]
  simp (disch := omega) only [jl_, nI_add, pk_sub, pk_mul, j_neg, jlt_t, jlt_f, jle_t, jle_f, jeq_t, jeq_f, jld, jst, obs, j_div, ↓reduceIte, if_true, if_false, Nat.add_zero, Nat.sub_zero, Nat.add_sub_cancel_left]
theorem PE.put {kept : Nat → TL} {u u' w : Nat → Int32} {c f1 f2 : Nat} {L : TL} (h : PE kept u c f1 f2) (hc : c ≤ 7) (hL : LX L w) (h1 : ∀ j, (j < 132 * ((f2 + c) % 8) + 0 ∨ 132 * ((f2 + c) % 8) + 132 ≤ j) → u' j = u j) (h2 : ∀ j, 0 ≤ j → j < 132 → u' (132 * ((f2 + c) % 8) + j) = w j) : PE (up kept ((f1 + c) % 8) L) u' (c + 1) f1 f2 := by
  intro j hj
  by_cases e : j = c
  · subst e
    rw [up_eq rfl]
    exact hL.cong (fun k hk => h2 k (by omega) hk)
  · rw [up_ne (by omega)]
    exact (h j (by omega)).cong (fun k hk => h1 _ (by omega))
theorem keep_both {past : TP} {u w : Nat → Int32} {ch fi : Int32} {L : TL} (hP : PA past u ch fi) (hL : LX L w) : ∃ kp f s u' ch' fi', fP_keep past.1 past.2.1 past.2.2 L.1 L.2.1 L.2.2.1 L.2.2.2.1 L.2.2.2.2.1 L.2.2.2.2.2 = some (kp, f, s) ∧ fM_keepsMind u w ch fi = some (u', ch', fi') ∧ PA (kp, f, s) u' ch' fi' := by
  obtain ⟨c, f1, f2, hc, hf1, hf2, e1, e2, e3, e4, hE⟩ := hP
  obtain ⟨n, a, mk, hL⟩ := hL
  by_cases c8 : c = 8
  · subst c8
    obtain ⟨W', b1, b2⟩ := hL.like (past.1 (((f1 + 1) % 8 + 7) % 8))
    obtain ⟨u', b3, b4, b5⟩ := keeps_47 (w := w) (c := nI 7) (f := nI ((f2 + 1) % 8)) (show ((f2 + 1) % 8 + 7) % 8 < 8 by omega) 132 0 FU u (by omega) (fu_lt (by omega))
    refine ⟨up past.1 (((f1 + 1) % 8 + 7) % 8) (W', L.2), nI ((f1 + 1) % 8), nI 8, u', nI 8, nI ((f2 + 1) % 8), ?_, ?_, ⟨8, (f1 + 1) % 8, (f2 + 1) % 8, by omega, by omega, by omega, rfl, rfl, rfl, rfl, ?_⟩⟩
    · unfold fP_keep
      rw [e1, e2]
      simp only [jl_, nI_add]
      rw [if_pos trivial, pk_rem (show f1 + 1 < 2 ^ 31 by omega) (by omega) (by omega), pk_sub (by omega), slotAt_sp (by omega) (by omega)]
      simp only [obs, Option.elim]
      rw [b1]
      simp only [obs]
      rw [nI_add]
      rfl
    · unfold fM_keepsMind
      rw [e3, e4]
      simp only [jl_, nI_add]
      rw [if_pos trivial, pk_rem (show f2 + 1 < 2 ^ 31 by omega) (by omega) (by omega), pk_sub (by omega), nI_add, pk_rem (show (f2 + 1) % 8 + (8 - 1) < 2 ^ 31 by omega) (by omega) (by omega)]
      rw [nI_add] at b3
      exact b3
    · refine PE.put (w := w) (u := u) (c := 7) (fun j hj => ?_) (by omega) ⟨n, a, mk, b2⟩ b4 b5
      have := hE (j + 1) (by omega)
      rw [show ((f1 + 1) % 8 + j) % 8 = (f1 + (j + 1)) % 8 by omega, show ((f2 + 1) % 8 + j) % 8 = (f2 + (j + 1)) % 8 by omega]
      exact this
  · obtain ⟨W', b1, b2⟩ := hL.like (past.1 ((f1 + c) % 8))
    obtain ⟨u', b3, b4, b5⟩ := keeps_47 (w := w) (c := nI c) (f := nI f2) (show (f2 + c) % 8 < 8 by omega) 132 0 FU u (by omega) (fu_lt (by omega))
    refine ⟨up past.1 ((f1 + c) % 8) (W', L.2), nI f1, nI (c + 1), u', nI (c + 1), nI f2, ?_, ?_, ⟨c + 1, f1, f2, by omega, by omega, by omega, rfl, rfl, rfl, rfl, ?_⟩⟩
    · unfold fP_keep
      rw [e1, e2]
      simp only [jl_, nI_add]
      rw [jeq_f c8 (by omega) (by omega), slotAt_sp hf1 (by omega)]
      simp only [obs, Option.elim]
      rw [b1]
      simp only [obs]
      rfl
    · unfold fM_keepsMind
      rw [e3, e4]
      simp only [jl_, nI_add]
      rw [jeq_f c8 (by omega) (by omega), pk_rem (show f2 + c < 2 ^ 31 by omega) (by omega) (by omega)]
      rw [nI_add] at b3
      exact b3
    · exact PE.put (w := w) hE (by omega) ⟨n, a, mk, b2⟩ b4 b5
theorem remembers_both {past : TP} {u w mind : Nat → Int32} {ch fi : Int32} {L : TL} (hP : PA past u ch fi) (hL : LX L w) : ∃ kp f s u' mind' ch' fi', fP_keep past.1 past.2.1 past.2.2 L.1 L.2.1 L.2.2.1 L.2.2.2.1 L.2.2.2.2.1 L.2.2.2.2.2 = some (kp, f, s) ∧ fM_remembers w u mind ch fi = some (u', mind', ch', fi') ∧ PA (kp, f, s) u' ch' fi' := by
  obtain ⟨g, e, h⟩ := thinks_sp w mind
  obtain ⟨kp, f, s, u', ch', fi', e1, e2, e3⟩ := keep_both hP (hL.cong h)
  refine ⟨kp, f, s, u', g, ch', fi', e1, ?_, e3⟩
  unfold fM_remembers
  rw [e]
  simp only [obs]
  rw [e2]
  rfl
theorem undo_both {past : TP} {u w : Nat → Int32} {ch fi : Int32} (hP : PA past u ch fi) (L : TL) : (past.2.2 = nI 0 ∧ ch = nI 0) ∨ ∃ c L' w', c < 8 ∧ past.2.2 = nI (c + 1) ∧ ch = nI (c + 1) ∧ LX L' w' ∧ PA (past.1, past.2.1, nI c) u (nI c) fi ∧
    fP_giveBack past.1 past.2.1 past.2.2 L.1 L.2.1 L.2.2.1 L.2.2.2.1 L.2.2.2.2.1 L.2.2.2.2.2 = some (nI 1, nI c, L'.1, L'.2.1, L'.2.2.1, L'.2.2.2.1, L'.2.2.2.2.1, L'.2.2.2.2.2) ∧ fM_undo w u ch fi = some (nI c, w', nI c) := by
  obtain ⟨c, f1, f2, hc, hf1, hf2, e1, e2, e3, e4, hE⟩ := hP
  cases c with
  | zero => exact Or.inl ⟨e2, e3⟩
  | succ c =>
    right
    obtain ⟨n, a, mk, hL⟩ := hE c (by omega)
    obtain ⟨W', b1, b2⟩ := hL.like L
    obtain ⟨w', b3, -, b5⟩ := undo_35 (u := u) (c := nI c) (f := nI f2) (show (f2 + c) % 8 < 8 by omega) 132 0 FU w (by omega) (fu_lt (by omega))
    refine ⟨c, (W', (past.1 ((f1 + c) % 8)).2), w', by omega, e2, e3, ⟨n, a, mk, b2.cong (fun k hk => b5 k (by omega) hk)⟩, ⟨c, f1, f2, by omega, hf1, hf2, e1, rfl, rfl, e4, fun j hj => hE j (by omega)⟩, ?_, ?_⟩
    · unfold fP_giveBack
      rw [e1, e2]
      simp only [jl_]
      rw [jeq_f (show c + 1 ≠ 0 by omega) (by omega) (by omega), pk_sub (by omega), Nat.add_sub_cancel, slotAt_sp hf1 (by omega)]
      simp only [obs, Option.elim]
      rw [b1]
      rfl
    · unfold fM_undo
      rw [e3, e4]
      simp only [jl_]
      rw [jeq_f (show c + 1 ≠ 0 by omega) (by omega) (by omega), pk_sub (by omega), Nat.add_sub_cancel, nI_add, pk_rem (show f2 + c < 2 ^ 31 by omega) (by omega) (by omega)]
      exact b3
/-! rows and bags made anew -/
def RO (R : TR) (n : Nat) (a : Nat → Nat) : Prop := RR R.1 R.2.1 R.2.2.1 (qb a) n ∧ R.2.2.2.2.2 = nI n
def ST (L : TL) (w : Nat → Int32) (R : TR) (B : TB) : Prop := ∃ n a mk, LW L w n a mk ∧ RO R n a ∧ BG B.1 B.2.1 B.2.2.1 B.2.2.2 (bg mk) n a
theorem follow_sp {L : TL} {w : Nat → Int32} (h : LX L w) (R : TR) (B : TB) : ∃ R' B', fS_follow L R B = some (R', B') ∧ ST L w R' B' := by
  obtain ⟨n, a, mk, h⟩ := h
  have hn := h.1.1
  obtain ⟨W', O', Z', o', nx', e1, h1⟩ := fill_sp (a := a) (n := n) (w2 := L.1) (s := R.2.2.2.2.2) (W := R.1) (O := R.2.1) (Z := R.2.2.1) (o := R.2.2.2.1) (nx := R.2.2.2.2.1) hn h.1.2.1 h.2.2.1
  obtain ⟨B', T', e2, h2⟩ := bfill_sp (a := a) hn h.2.2.1 h.2.2.2.1 B.1 B.2.1 B.2.2.1 B.2.2.2
  refine ⟨(W', O', Z', o', nx', nI n), (B', T', nI (cn (bg mk) 0 n), nI n), ?_, n, a, mk, h, ⟨h1, rfl⟩, h2⟩
  unfold fS_follow
  rw [h.2.1, e1]
  simp only [obs]
  rw [e2]
  rfl
