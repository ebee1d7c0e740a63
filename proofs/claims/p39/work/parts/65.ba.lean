/-! letters are all accounted for, whatever is done -/
theorem ba_up (c l : Int32) : c - l + 1 = c + 1 - l := by
  rw [Int32.sub_eq_add_neg, Int32.sub_eq_add_neg, Int32.add_assoc, Int32.add_comm (-l) 1, ← Int32.add_assoc]
theorem ba_dn (c l : Int32) : c - l - 1 = c - (l + 1) := by
  rw [Int32.sub_eq_add_neg, Int32.sub_eq_add_neg, Int32.sub_eq_add_neg, Int32.neg_add, Int32.sub_eq_add_neg, Int32.add_assoc]
theorem come33_ba {s cm x y : Int32} : ∀ m (W : Nat → Int32) (k : Int32) t, fL_come_33 m W s cm x y k = some t → t.2.2.1 = s + 1 ∧ t.2.2.2 = cm + 1 := by
  intro m
  induction m with
  | zero => intro W k t h; cases h
  | succ m ih =>
    intro W k t h
    rw [fL_come_33] at h
    split at h
    · obtain ⟨t6, h6, h⟩ := ob h
      cases h
      exact ⟨rfl, rfl⟩
    · obtain ⟨t7, h7, h⟩ := ob h
      obtain ⟨t8, h8, h⟩ := ob h
      exact ih _ _ _ h
theorem come_ba {W : Nat → Int32} {s cm l x y : Int32} {t : Int32 × (Nat → Int32) × Int32 × Int32} (h : fL_come W s cm x y = some t) (hb : s = cm - l) : t.2.2.1 = t.2.2.2 - l := by
  unfold fL_come at h
  split at h
  · cases h; exact hb
  · split at h
    · cases h; exact hb
    · split at h
      · cases h; exact hb
      · split at h
        · obtain ⟨e1, e2⟩ := come33_ba _ _ _ _ h
          rw [e1, e2, hb, ba_up]
        · cases h; exact hb
theorem leave12_ba {s l : Int32} : ∀ m (W : Nat → Int32) (k : Int32) t, fL_leave_12 m W s l k = some t → t.2.2.1 = s - 1 ∧ t.2.2.2 = l + 1 := by
  intro m
  induction m with
  | zero => intro W k t h; cases h
  | succ m ih =>
    intro W k t h
    rw [fL_leave_12] at h
    split at h
    · cases h
      exact ⟨rfl, rfl⟩
    · obtain ⟨t7, h7, h⟩ := ob h
      obtain ⟨t8, h8, h⟩ := ob h
      exact ih _ _ _ h
theorem leave_ba {W : Nat → Int32} {s cm l x : Int32} {t : Int32 × (Nat → Int32) × Int32 × Int32} (h : fL_leave W s l x = some t) (hb : s = cm - l) : t.2.2.1 = cm - t.2.2.2 := by
  unfold fL_leave at h
  split at h
  · cases h; exact hb
  · obtain ⟨e1, e2⟩ := leave12_ba _ _ _ _ h
    rw [e1, e2, hb, ba_dn]
theorem like47_ba {s : Int32} {M : Int64} {c l z : Int32} {W2 : Nat → Int32} {s2 : Int32} {M2 : Int64} {c2 l2 z2 : Int32} : ∀ m (W : Nat → Int32) (k : Int32) t, fL_becomeLike_47 m W s M c l z W2 s2 M2 c2 l2 z2 k = some t → t.2 = (s, M, c, l, z) := by
  intro m
  induction m with
  | zero => intro W k t h; cases h
  | succ m ih =>
    intro W k t h
    rw [fL_becomeLike_47] at h
    split at h
    · cases h
      rfl
    · obtain ⟨t7, h7, h⟩ := ob h
      obtain ⟨t8, h8, h⟩ := ob h
      exact ih _ _ _ h
theorem like_ba {W : Nat → Int32} {s : Int32} {M : Int64} {c l z : Int32} {W2 : Nat → Int32} {s2 : Int32} {M2 : Int64} {c2 l2 z2 : Int32} {t : (Nat → Int32) × Int32 × Int64 × Int32 × Int32 × Int32} (h : fL_becomeLike W s M c l z W2 s2 M2 c2 l2 z2 = some t) (hb : s2 = c2 - l2) : t.2.1 = t.2.2.2.1 - t.2.2.2.2.1 := by
  unfold fL_becomeLike at h
  rw [like47_ba _ _ _ _ h]
  exact hb
def BP (P : TP) : Prop := ∀ j, BA (P.1 j)
theorem keep_ba {kept : Nat → TL} {f s : Int32} {L : TL} {t : (Nat → TL) × Int32 × Int32} (h : fP_keep kept f s L.1 L.2.1 L.2.2.1 L.2.2.2.1 L.2.2.2.2.1 L.2.2.2.2.2 = some t) (hP : ∀ j, BA (kept j)) (hL : BA L) : ∀ j, BA (t.1 j) := by
  unfold fP_keep at h
  split at h
  · obtain ⟨t5, h5, h⟩ := ob h
    cases t5 with
    | none =>
      have h := opt_n h
      cases h
      exact hP
    | some k =>
      have h := opt_s h
      obtain ⟨t7, h7, h⟩ := ob h
      cases h
      intro j
      show BA (if j = k then _ else kept j)
      by_cases c : j = k
      · rw [if_pos c]
        exact like_ba h7 hL
      · rw [if_neg c]
        exact hP j
  · obtain ⟨t5, h5, h⟩ := ob h
    cases t5 with
    | none =>
      have h := opt_n h
      cases h
      exact hP
    | some k =>
      have h := opt_s h
      obtain ⟨t7, h7, h⟩ := ob h
      cases h
      intro j
      show BA (if j = k then _ else kept j)
      by_cases c : j = k
      · rw [if_pos c]
        exact like_ba h7 hL
      · rw [if_neg c]
        exact hP j
section S
variable {L L' : TL} {R R' : TR} {B B' : TB} {P P' : TP} {lr ld lr' ld' r x y : Int32}
theorem put_ba (h : fS_put L P R B lr ld x = some (r, L', P', R', B', lr', ld')) (hL : BA L) (hP : BP P) : BA L' ∧ BP P' := by
  unfold fS_put at h
  split at h
  · cases h; exact ⟨hL, hP⟩
  · split at h
    · obtain ⟨t3, h3, h⟩ := ob h
      obtain ⟨t4, h4, h⟩ := ob h
      obtain ⟨t5, h5, h⟩ := ob h
      cases h
      exact ⟨come_ba h4 hL, keep_ba h3 hP hL⟩
    · obtain ⟨t6, h6, h⟩ := ob h
      cases h; exact ⟨hL, hP⟩
theorem insert_ba (h : fS_insert L P R B lr ld x y = some (r, L', P', R', B', lr', ld')) (hL : BA L) (hP : BP P) : BA L' ∧ BP P' := by
  unfold fS_insert at h
  split at h
  · cases h; exact ⟨hL, hP⟩
  · split at h
    · split at h
      · cases h; exact ⟨hL, hP⟩
      · split at h
        · obtain ⟨t3, h3, h⟩ := ob h
          obtain ⟨t4, h4, h⟩ := ob h
          obtain ⟨t5, h5, h⟩ := ob h
          cases h
          exact ⟨come_ba h4 hL, keep_ba h3 hP hL⟩
        · obtain ⟨t6, h6, h⟩ := ob h
          cases h; exact ⟨hL, hP⟩
    · cases h; exact ⟨hL, hP⟩
theorem take_ba (h : fS_take L P R B x = some (r, L', P', R', B')) (hL : BA L) (hP : BP P) : BA L' ∧ BP P' := by
  unfold fS_take at h
  split at h
  · cases h; exact ⟨hL, hP⟩
  · obtain ⟨t2, h2, h⟩ := ob h
    obtain ⟨t3, h3, h⟩ := ob h
    obtain ⟨t4, h4, h⟩ := ob h
    obtain ⟨t5, h5, h⟩ := ob h
    cases h
    exact ⟨leave_ba h4 hL, keep_ba h3 hP hL⟩
theorem swap_ba (h : fS_swap L P R B lr ld x = some (r, L', P', R', B', lr', ld')) (hL : BA L) (hP : BP P) : BA L' ∧ BP P' := by
  unfold fS_swap at h
  split at h
  · cases h; exact ⟨hL, hP⟩
  · obtain ⟨t2, h2, h⟩ := ob h
    obtain ⟨t3, h3, h⟩ := ob h
    split at h
    · obtain ⟨t9, h9, h⟩ := ob h
      obtain ⟨t10, h10, h⟩ := ob h
      cases h; exact ⟨hL, hP⟩
    · obtain ⟨t5, h5, h⟩ := ob h
      obtain ⟨t6, h6, h⟩ := ob h
      obtain ⟨t7, h7, h⟩ := ob h
      obtain ⟨t8, h8, h⟩ := ob h
      cases h
      exact ⟨hL, keep_ba h5 hP hL⟩
theorem mark_ba (h : fS_mark L P R B lr ld x y = some (r, L', P', R', B', lr', ld')) (hL : BA L) (hP : BP P) : BA L' ∧ BP P' := by
  unfold fS_mark at h
  split at h
  · cases h; exact ⟨hL, hP⟩
  · split at h
    · obtain ⟨t6, h6, h⟩ := ob h
      cases h; exact ⟨hL, hP⟩
    · obtain ⟨t3, h3, h⟩ := ob h
      obtain ⟨t4, h4, h⟩ := ob h
      obtain ⟨t5, h5, h⟩ := ob h
      cases h
      exact ⟨hL, keep_ba h3 hP hL⟩
theorem obey_ba {W : Nat → Int32} {s : Int32} {M : Int64} {c l z k x y : Int32} {t : Int32 × (Nat → Int32) × Int32 × Int64 × Int32 × Int32 × Int32} (h : fL_obey W s M c l z k x y = some t) (hb : s = c - l) : t.2.2.1 = t.2.2.2.2.1 - t.2.2.2.2.2.1 := by
  unfold fL_obey at h
  split at h
  · obtain ⟨t1, h1, h⟩ := ob h
    cases h; exact hb
  · split at h
    · obtain ⟨t1, h1, h⟩ := ob h
      cases h; exact come_ba h1 hb
    · split at h
      · obtain ⟨t1, h1, h⟩ := ob h
        cases h; exact hb
      · split at h
        · obtain ⟨t1, h1, h⟩ := ob h
          cases h; exact leave_ba h1 hb
        · split at h
          · obtain ⟨t1, h1, h⟩ := ob h
            cases h; exact come_ba h1 hb
          · split at h
            · obtain ⟨t1, h1, h⟩ := ob h
              cases h; exact hb
            · cases h; exact hb
theorem try13_ba {T : TT} : ∀ m (tr : TL) (k : Int32) t, fS_tryOrders_13 m L tr T k = some t → BA tr → BA t.2 := by
  intro m
  induction m with
  | zero => intro tr k t h; cases h
  | succ m ih =>
    intro tr k t h hb
    rw [fS_tryOrders_13] at h
    split at h
    · cases h; exact hb
    · obtain ⟨t3, h3, h⟩ := ob h
      obtain ⟨t4, h4, h⟩ := ob h
      obtain ⟨t5, h5, h⟩ := ob h
      obtain ⟨t6, h6, h⟩ := ob h
      have e := obey_ba h6 hb
      split at h
      · cases h; exact e
      · exact ih _ _ _ h e
theorem try_ba {T : TT} {tr : TL} {t : Int32 × TL} (h : fS_tryOrders L tr T = some t) (hL : BA L) : BA t.2 := by
  unfold fS_tryOrders at h
  obtain ⟨t1, h1, h⟩ := ob h
  exact try13_ba _ _ _ _ h (like_ba h1 hL)
theorem run_ba {T T' : TT} {tr tr' : TL} (h : fS_run L tr P R B T lr ld = some (r, L', tr', P', R', B', T', lr', ld')) (hL : BA L) (hP : BP P) : BA L' ∧ BP P' := by
  unfold fS_run at h
  obtain ⟨t1, h1, h⟩ := ob h
  obtain ⟨t2, h2, h⟩ := ob h
  split at h
  · obtain ⟨t4, h4, h⟩ := ob h
    have e := try_ba h4 hL
    split at h
    · obtain ⟨t6, h6, h⟩ := ob h
      obtain ⟨t7, h7, h⟩ := ob h
      obtain ⟨t8, h8, h⟩ := ob h
      cases h
      exact ⟨like_ba h7 e, keep_ba h6 hP hL⟩
    · obtain ⟨t9, h9, h⟩ := ob h
      cases h; exact ⟨hL, hP⟩
  · have h1 : L = L' := congrArg (fun z => z.2.1) (Option.some.inj h)
    have h2 : P = P' := congrArg (fun z => z.2.2.2.1) (Option.some.inj h)
    subst h1
    subst h2
    exact ⟨hL, hP⟩
theorem back_ba {kept : Nat → TL} {f s : Int32} {t : Int32 × Int32 × (Nat → Int32) × Int32 × Int64 × Int32 × Int32 × Int32} (h : fP_giveBack kept f s L.1 L.2.1 L.2.2.1 L.2.2.2.1 L.2.2.2.2.1 L.2.2.2.2.2 = some t) (hP : ∀ j, BA (kept j)) (hL : BA L) : BA t.2.2 := by
  unfold fP_giveBack at h
  split at h
  · cases h; exact hL
  · obtain ⟨t5, h5, h⟩ := ob h
    cases t5 with
    | none => exact absurd (opt_n h) (by simp)
    | some k =>
      have h := opt_s h
      obtain ⟨t7, h7, h⟩ := ob h
      cases h
      exact like_ba h7 (hP k)
theorem undo_ba (h : fS_undo L P R B = some (r, L', P', R', B')) (hL : BA L) (hP : BP P) : BA L' ∧ BP P' := by
  unfold fS_undo at h
  obtain ⟨t1, h1, h⟩ := ob h
  have e := back_ba h1 hP hL
  split at h
  · cases h; exact ⟨e, hP⟩
  · obtain ⟨t3, h3, h⟩ := ob h
    cases h; exact ⟨e, hP⟩
theorem save_ba {Sn S' : TL} {i i' : Int32} (h : fS_save L Sn i = some (r, S', i')) (hL : BA L) : BA S' := by
  unfold fS_save at h
  obtain ⟨t1, h1, h⟩ := ob h
  cases h
  exact like_ba h1 hL
theorem restore_ba {Sn : TL} {i : Int32} (h : fS_restore L Sn i P R B = some (r, L', P', R', B')) (hL : BA L) (hP : BP P) (hS : BA Sn) : BA L' ∧ BP P' := by
  unfold fS_restore at h
  split at h
  · cases h; exact ⟨hL, hP⟩
  · obtain ⟨t2, h2, h⟩ := ob h
    obtain ⟨t3, h3, h⟩ := ob h
    obtain ⟨t4, h4, h⟩ := ob h
    cases h
    exact ⟨like_ba h2 hS, hP⟩
end S
