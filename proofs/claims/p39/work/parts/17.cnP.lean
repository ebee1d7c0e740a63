abbrev rmP_size : Room := { frames := 0, cells := 0, slots := 0, locals := 0 }
set_option maxHeartbeats 4000000 in
set_option maxRecDepth 100000 in
theorem cP_size (l : Launch) (E : eE) (ad : Nat → Nat) (q0_kept : (Nat → TL)) (q0_first : Int32) (q0_size : Int32) (r : Int32) (hf : fP_size q0_size = r) : cP l E yX3_size cX3_size 1 (some .int) rmP_size [.ref (ad 0)] (wP E ad q0_kept q0_first q0_size) (some (.int r)) := by
  refine Met.ofW (cc := cX3_size) (maxL := 1) (ret := (some .int)) (by decide) rfl ?_
  intro p e s m args below meth c s₁ B hml hv
  obtain ⟨hargs, hP, hK⟩ := hv
  have hx := B.exec
  have hb := B.bytes
  have hr := B.returns
  have hts := atoms_spec (ws := ws_ yX3_size cX3_size 1 (some .int)) B.pre
  have hta : ∀ w ∈ lw_all, w.before args s = true := fun w h => hts w (List.mem_cons_of_mem _ h)
  have hown : s.vm.findClass RX3 = some m.cls := findClass_of_methodNamed B.named
  have hlocks := B.notSynchronized
  have hC : Cx p s m args c cX3_size 1 RX3 E := ⟨hx, hb, hml, hown, hta, hK⟩
  obtain ⟨ls, he, hl⟩ := entry_ (m := m) (n := 1) hargs (Nat.le_of_ble_eq_true rfl)
  rw [he]
  have hl : lv_has ls 1 [(0, .ref (ad 0))] := hl
  show W p l e rmP_size s m args below meth c s.heap [] 0 0 (MQ below (qP (some .int) (some (.int r))) args s 0 0 (fun _ => False)) (F0 m 0 ls [])
  rw [fP_size] at hf
  refine lv_aload_n hx hb dX3_size_0 rfl (lv_at hl 0 rfl) ?_
  refine gX3_18 hC hP 0 rfl (v := .int q0_size) rfl dX3_size_1 ?_
  exact e_Pi hC hr hlocks hf dX3_size_4
abbrev rmP_slotAt : Room := { frames := 0, cells := 0, slots := 0, locals := 0 }
set_option maxHeartbeats 4000000 in
set_option maxRecDepth 100000 in
theorem cP_slotAt (l : Launch) (E : eE) (ad : Nat → Nat) (q0_kept : (Nat → TL)) (q0_first : Int32) (q0_size : Int32) (a1 : Int32) (r : Option Nat) (hf : fP_slotAt q0_first a1 = some r) : cP l E yX3_slotAt cX3_slotAt 3 (some (.object "LetterShelves$Letters")) rmP_slotAt [.ref (ad 0), .int a1] (wP E ad q0_kept q0_first q0_size) (some (va_rf (r.map (fun k => ad (2 + 2 * k))))) := by
  refine Met.ofW (cc := cX3_slotAt) (maxL := 3) (ret := (some (.object "LetterShelves$Letters"))) (by decide) rfl ?_
  intro p e s m args below meth c s₁ B hml hv
  obtain ⟨hargs, hP, hK⟩ := hv
  have hx := B.exec
  have hb := B.bytes
  have hr := B.returns
  have hts := atoms_spec (ws := ws_ yX3_slotAt cX3_slotAt 3 (some (.object "LetterShelves$Letters"))) B.pre
  have hta : ∀ w ∈ lw_all, w.before args s = true := fun w h => hts w (List.mem_cons_of_mem _ h)
  have hown : s.vm.findClass RX3 = some m.cls := findClass_of_methodNamed B.named
  have hlocks := B.notSynchronized
  have hC : Cx p s m args c cX3_slotAt 3 RX3 E := ⟨hx, hb, hml, hown, hta, hK⟩
  obtain ⟨ls, he, hl⟩ := entry_ (m := m) (n := 3) hargs (Nat.le_of_ble_eq_true rfl)
  rw [he]
  have hl : lv_has ls 3 [(0, .ref (ad 0)), (1, .int a1)] := hl
  show W p l e rmP_slotAt s m args below meth c s.heap [] 0 0 (MQ below (qP (some (.object "LetterShelves$Letters")) (some (va_rf (r.map (fun k => ad (2 + 2 * k)))))) args s 0 0 (fun _ => False)) (F0 m 0 ls [])
  rw [fP_slotAt] at hf
  refine lv_aload_n hx hb dX3_slotAt_0 rfl (lv_at hl 0 rfl) ?_
  refine gX3_22 hC hP 0 rfl (v := .int q0_first) rfl dX3_slotAt_1 ?_
  refine lv_iload_n hx hb dX3_slotAt_4 rfl (lv_at hl 1 rfl) ?_
  refine lv_iadd hx hb dX3_slotAt_5 ?_
  refine lv_bipush (v := 8) hx hb dX3_slotAt_6 (by decide) ?_
  refine lv_irem hx hb dX3_slotAt_8 (by decide) ?_
  refine lv_istore_n (lv' := [(2, .int ((q0_first + a1) - (q0_first + a1) / (8 : Int32) * (8 : Int32))), (0, .ref (ad 0)), (1, .int a1)]) hx hb dX3_slotAt_9 rfl hl (by decide) rfl (fun ls hl => ?_)
  refine lv_iload_n hx hb dX3_slotAt_10 rfl (lv_at hl 0 rfl) ?_
  refine lv_if_lt (tgt := 32) hx hb dX3_slotAt_11 (by decide) (fun c1 => ?_) (fun c1 => ?_)
  · have hf := ite_t hf c1
    refine lv_null hx hb dX3_slotAt_32 ?_
    cases hf
    exact e_Pr hC hr hlocks (Or.inl rfl) rfl dX3_slotAt_33
  · have hf := ite_f hf c1
    refine lv_iload_n hx hb dX3_slotAt_14 rfl (lv_at hl 0 rfl) ?_
    refine lv_aload_n hx hb dX3_slotAt_15 rfl (lv_at hl 1 rfl) ?_
    refine gX3_11 hC hP 0 rfl (v := .ref (ad 1)) rfl dX3_slotAt_16 ?_
    refine va_alen (v := 8) hx hb hK.1 hP 1 3 rfl rfl rfl dX3_slotAt_19 ?_
    refine lv_icmp_ge (tgt := 32) hx hb dX3_slotAt_20 (by decide) (fun c2 => ?_) (fun c2 => ?_)
    · have hf := ite_t hf c2
      refine lv_null hx hb dX3_slotAt_32 ?_
      cases hf
      exact e_Pr hC hr hlocks (Or.inl rfl) rfl dX3_slotAt_33
    · have hf := ite_f hf c2
      refine lv_aload_n hx hb dX3_slotAt_23 rfl (lv_at hl 1 rfl) ?_
      refine gX3_11 hC hP 0 rfl (v := .ref (ad 1)) rfl dX3_slotAt_24 ?_
      refine lv_iload_n hx hb dX3_slotAt_27 rfl (lv_at hl 0 rfl) ?_
      obtain ⟨k3, hk3, hf⟩ := ob hf
      obtain ⟨hk3a, hk3b⟩ := ldA_ok hk3
      have hk3c : k3 < 8 := by rw [← hk3b]; exact Nat.not_le.mp fun q => hk3a (Or.inr q)
      refine a_qld hC hP 1 rfl hk3a dX3_slotAt_28 (kk := ?_)
      rw [hk3b]
      show W p l e _ s m args below meth c _ _ _ _ _ (F0 m 29 _ (.ref (ad (2 + 2 * k3)) :: _))
      refine lv_goto (tgt := 33) hx hb dX3_slotAt_29 (by decide) ?_
      cases hf
      exact e_Pr hC hr hlocks (Or.inr ⟨_, rfl⟩) rfl dX3_slotAt_33
abbrev rmP_keep : Room := { frames := 2, cells := 0, slots := 0, locals := 44 }
set_option maxHeartbeats 4000000 in
set_option maxRecDepth 100000 in
theorem cP_keep (l : Launch) (E : eE) (ad : Nat → Nat) (q0_kept : (Nat → TL)) (q0_first : Int32) (q0_size : Int32) (ad2 : Nat → Nat) (q1_weights : (Nat → Int32)) (q1_size : Int32) (q1_marks : Int64) (q1_came : Int32) (q1_left : Int32) (q1_swaps : Int32) (t : (Nat → TL) × Int32 × Int32) (hf : fP_keep q0_kept q0_first q0_size q1_weights q1_size q1_marks q1_came q1_left q1_swaps = some t) : cW l E yX3_keep cX3_keep 3 none rmP_keep [.ref (ad 0), .ref (ad2 0)] (wP E ad q0_kept q0_first q0_size ++ wL E ad2 q1_weights q1_size q1_marks q1_came q1_left q1_swaps) none (wP E ad t.1 t.2.1 t.2.2 ++ wL E ad2 q1_weights q1_size q1_marks q1_came q1_left q1_swaps) := by
  refine Met.ofW (cc := cX3_keep) (maxL := 3) (ret := none) (by decide) rfl ?_
  intro p e s m args below meth c s₁ B hml hv
  obtain ⟨hargs, hP, hK, hD0⟩ := hv
  have hx := B.exec
  have hb := B.bytes
  have hr := B.returns
  have hts := atoms_spec (ws := ws_ yX3_keep cX3_keep 3 none) B.pre
  have hta : ∀ w ∈ lw_all, w.before args s = true := fun w h => hts w (List.mem_cons_of_mem _ h)
  have hown : s.vm.findClass RX3 = some m.cls := findClass_of_methodNamed B.named
  have hlocks := B.notSynchronized
  have hC : Cx p s m args c cX3_keep 3 RX3 E := ⟨hx, hb, hml, hown, hta, hK⟩
  have hH : Hp E (adr (wP E ad q0_kept q0_first q0_size ++ wL E ad2 q1_weights q1_size q1_marks q1_came q1_left q1_swaps)) (wP E ad q0_kept q0_first q0_size ++ wL E ad2 q1_weights q1_size q1_marks q1_came q1_left q1_swaps) s.heap s.heap [] := Hp.start hP hD0
  obtain ⟨ls, he, hl⟩ := entry_ (m := m) (n := 3) hargs (Nat.le_of_ble_eq_true rfl)
  rw [he]
  have hl : lv_has ls 3 [(0, .ref (ad 0)), (1, .ref (ad2 0))] := hl
  show W p l e rmP_keep s m args below meth c s.heap [] 0 0 (MQ below (qW E none none (wP E ad q0_kept q0_first q0_size ++ wL E ad2 q1_weights q1_size q1_marks q1_came q1_left q1_swaps) (wP E ad t.1 t.2.1 t.2.2 ++ wL E ad2 q1_weights q1_size q1_marks q1_came q1_left q1_swaps)) args s 0 0 (adr (wP E ad q0_kept q0_first q0_size ++ wL E ad2 q1_weights q1_size q1_marks q1_came q1_left q1_swaps))) (F0 m 0 ls [])
  suffices hmain : ∀ (H : Heap) (locs : List Loc), Hp E (adr (wP E ad q0_kept q0_first q0_size ++ wL E ad2 q1_weights q1_size q1_marks q1_came q1_left q1_swaps)) (wP E ad q0_kept q0_first q0_size ++ wL E ad2 q1_weights q1_size q1_marks q1_came q1_left q1_swaps) s.heap H locs → W p l e rmP_keep s m args below meth c H locs 0 0 (MQ below (qW E none none (wP E ad q0_kept q0_first q0_size ++ wL E ad2 q1_weights q1_size q1_marks q1_came q1_left q1_swaps) (wP E ad t.1 t.2.1 t.2.2 ++ wL E ad2 q1_weights q1_size q1_marks q1_came q1_left q1_swaps)) args s 0 0 (adr (wP E ad q0_kept q0_first q0_size ++ wL E ad2 q1_weights q1_size q1_marks q1_came q1_left q1_swaps))) (F0 m 0 ls []) from hmain _ _ hH
  clear hH
  intro H locs hH
  rw [fP_keep] at hf
  refine lv_aload_n hx hb dX3_keep_0 rfl (lv_at hl 0 rfl) ?_
  refine gX3_18 hC hH.1 0 rfl (v := .int q0_size) rfl dX3_keep_1 ?_
  refine lv_bipush (v := 8) hx hb dX3_keep_4 (by decide) ?_
  refine lv_icmp_ne (tgt := 32) hx hb dX3_keep_6 (by decide) (fun c1 => ?_) (fun c1 => ?_)
  · have hf := ite_f hf c1
    refine lv_aload_n hx hb dX3_keep_32 rfl (lv_at hl 0 rfl) ?_
    refine lv_aload_n hx hb dX3_keep_33 rfl (lv_at hl 0 rfl) ?_
    refine gX3_18 hC hH.1 0 rfl (v := .int q0_size) rfl dX3_keep_34 ?_
    obtain ⟨t2, ht2, hf⟩ := ob hf
    refine k_PVr hC LX3_25 ⟨Nat.le_of_ble_eq_true rfl, Nat.le_of_ble_eq_true rfl⟩ ⟨Nat.zero_le _, Nat.zero_le _⟩ (cP_slotAt l E ad q0_kept q0_first q0_size q0_size t2 ht2) rfl rfl (hH.1.sub (ws' := wP E ad q0_kept q0_first q0_size) [0, 1, 2, 3, 4, 5, 6, 7, 8, 9, 10, 11, 12, 13, 14, 15, 16, 17] rfl) rfl rfl hl.1 rfl (Nat.le_of_ble_eq_true rfl) rfl dX3_keep_37 (fun hz37 => ?_)
    cases t2 with
    | none =>
      have hf := opt_n hf
      refine W.eq (g2 := F0 m 40 ls (.null :: [])) rfl ?_
      refine lv_astore_nN (lv' := [(2, .null), (0, .ref (ad 0)), (1, .ref (ad2 0))]) hx hb dX3_keep_40 rfl hl (by decide) rfl (fun ls hl => ?_)
      refine lv_aload_nN hx hb dX3_keep_41 rfl (lv_at hl 0 rfl) ?_
      refine lv_ifnullN (tgt := 60) hx hb dX3_keep_42 (by decide) ?_
      have hf := Option.some.inj hf
      subst hf
      exact e_Wv hC hH hr hlocks rfl dX3_keep_60
    | some k3 =>
      have hf := opt_s hf
      have hk3c := slot_lt ht2
      refine W.eq (g2 := F0 m 40 ls (.ref (ad (2 + 2 * k3)) :: [])) rfl ?_
      refine lv_astore_n (lv' := [(2, .ref (ad (2 + 2 * k3))), (0, .ref (ad 0)), (1, .ref (ad2 0))]) hx hb dX3_keep_40 rfl hl (by decide) rfl (fun ls hl => ?_)
      refine lv_aload_n hx hb dX3_keep_41 rfl (lv_at hl 0 rfl) ?_
      refine lv_ifnull hx hb dX3_keep_42 ?_
      refine lv_aload_n hx hb dX3_keep_45 rfl (lv_at hl 0 rfl) ?_
      refine lv_aload_n hx hb dX3_keep_46 rfl (lv_at hl 2 rfl) ?_
      obtain ⟨t4, ht4, hf⟩ := ob hf
      refine k_WVv hC LX3_29 ⟨Nat.le_of_ble_eq_true rfl, Nat.le_of_ble_eq_true rfl⟩ ⟨Nat.zero_le _, Nat.zero_le _⟩ (cL_becomeLike l E (fun j => ad (2 + 2 * k3 + j)) ((q0_kept k3).1) ((q0_kept k3).2.1) ((q0_kept k3).2.2.1) ((q0_kept k3).2.2.2.1) ((q0_kept k3).2.2.2.2.1) ((q0_kept k3).2.2.2.2.2) ad2 q1_weights q1_size q1_marks q1_came q1_left q1_swaps t4 ht4) rfl rfl hH [2 + 2 * k3, 3 + 2 * k3, 18, 19] (all8 (P := fun k9 => [2 + 2 * k9, 3 + 2 * k9, 18, 19].map (fun i => (wP E ad q0_kept q0_first q0_size ++ wL E ad2 q1_weights q1_size q1_marks q1_came q1_left q1_swaps)[i]?) = (wL E (fun j => ad (2 + 2 * k9 + j)) ((q0_kept k9).1) ((q0_kept k9).2.1) ((q0_kept k9).2.2.1) ((q0_kept k9).2.2.2.1) ((q0_kept k9).2.2.2.2.1) ((q0_kept k9).2.2.2.2.2) ++ wL E ad2 q1_weights q1_size q1_marks q1_came q1_left q1_swaps).map some) hk3c rfl rfl rfl rfl rfl rfl rfl rfl) (all8 (P := fun k9 => va_nd [2 + 2 * k9, 3 + 2 * k9, 18, 19] = true) hk3c rfl rfl rfl rfl rfl rfl rfl rfl) rfl (W1 := wP E ad (fun j => if j = k3 then (t4.1, t4.2.1, t4.2.2.1, t4.2.2.2.1, t4.2.2.2.2.1, t4.2.2.2.2.2) else q0_kept j) q0_first q0_size ++ wL E ad2 q1_weights q1_size q1_marks q1_came q1_left q1_swaps) (all8 (P := fun k9 => putAt (wP E ad q0_kept q0_first q0_size ++ wL E ad2 q1_weights q1_size q1_marks q1_came q1_left q1_swaps) [2 + 2 * k9, 3 + 2 * k9, 18, 19] (wL E (fun j => ad (2 + 2 * k9 + j)) t4.1 t4.2.1 t4.2.2.1 t4.2.2.2.1 t4.2.2.2.2.1 t4.2.2.2.2.2 ++ wL E ad2 q1_weights q1_size q1_marks q1_came q1_left q1_swaps) = wP E ad (fun j => if j = k9 then (t4.1, t4.2.1, t4.2.2.1, t4.2.2.2.1, t4.2.2.2.2.1, t4.2.2.2.2.2) else q0_kept j) q0_first q0_size ++ wL E ad2 q1_weights q1_size q1_marks q1_came q1_left q1_swaps) hk3c rfl rfl rfl rfl rfl rfl rfl rfl) rfl rfl hl.1 rfl (Nat.le_of_ble_eq_true rfl) rfl dX3_keep_47 (fun H locs hz47 hH => ?_)
      refine lv_aload_n hx hb dX3_keep_50 rfl (lv_at hl 1 rfl) ?_
      refine lv_dup hx hb dX3_keep_51 rfl ?_
      refine gX3_18 hC hH.1 0 rfl (v := .int q0_size) rfl dX3_keep_52 ?_
      refine lv_iconst (v := 1) hx hb dX3_keep_55 (by decide) ?_
      refine lv_iadd hx hb dX3_keep_56 ?_
      refine pX3_18 hC hH 0 rfl (v := .int (q0_size + (1 : Int32))) rfl rfl (Nat.le_of_ble_eq_true rfl) (W1 := wP E ad (fun j => if j = k3 then (t4.1, t4.2.1, t4.2.2.1, t4.2.2.2.1, t4.2.2.2.2.1, t4.2.2.2.2.2) else q0_kept j) q0_first (q0_size + (1 : Int32)) ++ wL E ad2 q1_weights q1_size q1_marks q1_came q1_left q1_swaps) rfl dX3_keep_57 (fun H locs hH => ?_)
      have hf := Option.some.inj hf
      subst hf
      exact e_Wv hC hH hr hlocks rfl dX3_keep_60
  · have hf := ite_t hf c1
    refine lv_aload_n hx hb dX3_keep_9 rfl (lv_at hl 0 rfl) ?_
    refine lv_aload_n hx hb dX3_keep_10 rfl (lv_at hl 0 rfl) ?_
    refine gX3_22 hC hH.1 0 rfl (v := .int q0_first) rfl dX3_keep_11 ?_
    refine lv_iconst (v := 1) hx hb dX3_keep_14 (by decide) ?_
    refine lv_iadd hx hb dX3_keep_15 ?_
    refine lv_bipush (v := 8) hx hb dX3_keep_16 (by decide) ?_
    refine lv_irem hx hb dX3_keep_18 (by decide) ?_
    refine pX3_22 hC hH 0 rfl (v := .int ((q0_first + (1 : Int32)) - (q0_first + (1 : Int32)) / (8 : Int32) * (8 : Int32))) rfl rfl (Nat.le_of_ble_eq_true rfl) (W1 := wP E ad q0_kept ((q0_first + (1 : Int32)) - (q0_first + (1 : Int32)) / (8 : Int32) * (8 : Int32)) q0_size ++ wL E ad2 q1_weights q1_size q1_marks q1_came q1_left q1_swaps) rfl dX3_keep_19 (fun H locs hH => ?_)
    refine lv_aload_n hx hb dX3_keep_22 rfl (lv_at hl 0 rfl) ?_
    refine lv_dup hx hb dX3_keep_23 rfl ?_
    refine gX3_18 hC hH.1 0 rfl (v := .int q0_size) rfl dX3_keep_24 ?_
    refine lv_iconst (v := 1) hx hb dX3_keep_27 (by decide) ?_
    refine lv_isub hx hb dX3_keep_28 ?_
    refine pX3_18 hC hH 0 rfl (v := .int (q0_size - (1 : Int32))) rfl rfl (Nat.le_of_ble_eq_true rfl) (W1 := wP E ad q0_kept ((q0_first + (1 : Int32)) - (q0_first + (1 : Int32)) / (8 : Int32) * (8 : Int32)) (q0_size - (1 : Int32)) ++ wL E ad2 q1_weights q1_size q1_marks q1_came q1_left q1_swaps) rfl dX3_keep_29 (fun H locs hH => ?_)
    refine lv_aload_n hx hb dX3_keep_32 rfl (lv_at hl 0 rfl) ?_
    refine lv_aload_n hx hb dX3_keep_33 rfl (lv_at hl 0 rfl) ?_
    refine gX3_18 hC hH.1 0 rfl (v := .int (q0_size - (1 : Int32))) rfl dX3_keep_34 ?_
    obtain ⟨t5, ht5, hf⟩ := ob hf
    refine k_PVr hC LX3_25 ⟨Nat.le_of_ble_eq_true rfl, Nat.le_of_ble_eq_true rfl⟩ ⟨Nat.zero_le _, Nat.zero_le _⟩ (cP_slotAt l E ad q0_kept ((q0_first + (1 : Int32)) - (q0_first + (1 : Int32)) / (8 : Int32) * (8 : Int32)) (q0_size - (1 : Int32)) (q0_size - (1 : Int32)) t5 ht5) rfl rfl (hH.1.sub (ws' := wP E ad q0_kept ((q0_first + (1 : Int32)) - (q0_first + (1 : Int32)) / (8 : Int32) * (8 : Int32)) (q0_size - (1 : Int32))) [0, 1, 2, 3, 4, 5, 6, 7, 8, 9, 10, 11, 12, 13, 14, 15, 16, 17] rfl) rfl rfl hl.1 rfl (Nat.le_of_ble_eq_true rfl) rfl dX3_keep_37 (fun hz37 => ?_)
    cases t5 with
    | none =>
      have hf := opt_n hf
      refine W.eq (g2 := F0 m 40 ls (.null :: [])) rfl ?_
      refine lv_astore_nN (lv' := [(2, .null), (0, .ref (ad 0)), (1, .ref (ad2 0))]) hx hb dX3_keep_40 rfl hl (by decide) rfl (fun ls hl => ?_)
      refine lv_aload_nN hx hb dX3_keep_41 rfl (lv_at hl 0 rfl) ?_
      refine lv_ifnullN (tgt := 60) hx hb dX3_keep_42 (by decide) ?_
      have hf := Option.some.inj hf
      subst hf
      exact e_Wv hC hH hr hlocks rfl dX3_keep_60
    | some k6 =>
      have hf := opt_s hf
      have hk6c := slot_lt ht5
      refine W.eq (g2 := F0 m 40 ls (.ref (ad (2 + 2 * k6)) :: [])) rfl ?_
      refine lv_astore_n (lv' := [(2, .ref (ad (2 + 2 * k6))), (0, .ref (ad 0)), (1, .ref (ad2 0))]) hx hb dX3_keep_40 rfl hl (by decide) rfl (fun ls hl => ?_)
      refine lv_aload_n hx hb dX3_keep_41 rfl (lv_at hl 0 rfl) ?_
      refine lv_ifnull hx hb dX3_keep_42 ?_
      refine lv_aload_n hx hb dX3_keep_45 rfl (lv_at hl 0 rfl) ?_
      refine lv_aload_n hx hb dX3_keep_46 rfl (lv_at hl 2 rfl) ?_
      obtain ⟨t7, ht7, hf⟩ := ob hf
      refine k_WVv hC LX3_29 ⟨Nat.le_of_ble_eq_true rfl, Nat.le_of_ble_eq_true rfl⟩ ⟨Nat.zero_le _, Nat.zero_le _⟩ (cL_becomeLike l E (fun j => ad (2 + 2 * k6 + j)) ((q0_kept k6).1) ((q0_kept k6).2.1) ((q0_kept k6).2.2.1) ((q0_kept k6).2.2.2.1) ((q0_kept k6).2.2.2.2.1) ((q0_kept k6).2.2.2.2.2) ad2 q1_weights q1_size q1_marks q1_came q1_left q1_swaps t7 ht7) rfl rfl hH [2 + 2 * k6, 3 + 2 * k6, 18, 19] (all8 (P := fun k9 => [2 + 2 * k9, 3 + 2 * k9, 18, 19].map (fun i => (wP E ad q0_kept ((q0_first + (1 : Int32)) - (q0_first + (1 : Int32)) / (8 : Int32) * (8 : Int32)) (q0_size - (1 : Int32)) ++ wL E ad2 q1_weights q1_size q1_marks q1_came q1_left q1_swaps)[i]?) = (wL E (fun j => ad (2 + 2 * k9 + j)) ((q0_kept k9).1) ((q0_kept k9).2.1) ((q0_kept k9).2.2.1) ((q0_kept k9).2.2.2.1) ((q0_kept k9).2.2.2.2.1) ((q0_kept k9).2.2.2.2.2) ++ wL E ad2 q1_weights q1_size q1_marks q1_came q1_left q1_swaps).map some) hk6c rfl rfl rfl rfl rfl rfl rfl rfl) (all8 (P := fun k9 => va_nd [2 + 2 * k9, 3 + 2 * k9, 18, 19] = true) hk6c rfl rfl rfl rfl rfl rfl rfl rfl) rfl (W1 := wP E ad (fun j => if j = k6 then (t7.1, t7.2.1, t7.2.2.1, t7.2.2.2.1, t7.2.2.2.2.1, t7.2.2.2.2.2) else q0_kept j) ((q0_first + (1 : Int32)) - (q0_first + (1 : Int32)) / (8 : Int32) * (8 : Int32)) (q0_size - (1 : Int32)) ++ wL E ad2 q1_weights q1_size q1_marks q1_came q1_left q1_swaps) (all8 (P := fun k9 => putAt (wP E ad q0_kept ((q0_first + (1 : Int32)) - (q0_first + (1 : Int32)) / (8 : Int32) * (8 : Int32)) (q0_size - (1 : Int32)) ++ wL E ad2 q1_weights q1_size q1_marks q1_came q1_left q1_swaps) [2 + 2 * k9, 3 + 2 * k9, 18, 19] (wL E (fun j => ad (2 + 2 * k9 + j)) t7.1 t7.2.1 t7.2.2.1 t7.2.2.2.1 t7.2.2.2.2.1 t7.2.2.2.2.2 ++ wL E ad2 q1_weights q1_size q1_marks q1_came q1_left q1_swaps) = wP E ad (fun j => if j = k9 then (t7.1, t7.2.1, t7.2.2.1, t7.2.2.2.1, t7.2.2.2.2.1, t7.2.2.2.2.2) else q0_kept j) ((q0_first + (1 : Int32)) - (q0_first + (1 : Int32)) / (8 : Int32) * (8 : Int32)) (q0_size - (1 : Int32)) ++ wL E ad2 q1_weights q1_size q1_marks q1_came q1_left q1_swaps) hk6c rfl rfl rfl rfl rfl rfl rfl rfl) rfl rfl hl.1 rfl (Nat.le_of_ble_eq_true rfl) rfl dX3_keep_47 (fun H locs hz47 hH => ?_)
      refine lv_aload_n hx hb dX3_keep_50 rfl (lv_at hl 1 rfl) ?_
      refine lv_dup hx hb dX3_keep_51 rfl ?_
      refine gX3_18 hC hH.1 0 rfl (v := .int (q0_size - (1 : Int32))) rfl dX3_keep_52 ?_
      refine lv_iconst (v := 1) hx hb dX3_keep_55 (by decide) ?_
      refine lv_iadd hx hb dX3_keep_56 ?_
      refine pX3_18 hC hH 0 rfl (v := .int ((q0_size - (1 : Int32)) + (1 : Int32))) rfl rfl (Nat.le_of_ble_eq_true rfl) (W1 := wP E ad (fun j => if j = k6 then (t7.1, t7.2.1, t7.2.2.1, t7.2.2.2.1, t7.2.2.2.2.1, t7.2.2.2.2.2) else q0_kept j) ((q0_first + (1 : Int32)) - (q0_first + (1 : Int32)) / (8 : Int32) * (8 : Int32)) ((q0_size - (1 : Int32)) + (1 : Int32)) ++ wL E ad2 q1_weights q1_size q1_marks q1_came q1_left q1_swaps) rfl dX3_keep_57 (fun H locs hH => ?_)
      have hf := Option.some.inj hf
      subst hf
      exact e_Wv hC hH hr hlocks rfl dX3_keep_60
abbrev rmP_giveBack : Room := { frames := 2, cells := 0, slots := 0, locals := 44 }
set_option maxHeartbeats 4000000 in
set_option maxRecDepth 100000 in
theorem cP_giveBack (l : Launch) (E : eE) (ad : Nat → Nat) (q0_kept : (Nat → TL)) (q0_first : Int32) (q0_size : Int32) (ad2 : Nat → Nat) (q1_weights : (Nat → Int32)) (q1_size : Int32) (q1_marks : Int64) (q1_came : Int32) (q1_left : Int32) (q1_swaps : Int32) (t : Int32 × Int32 × (Nat → Int32) × Int32 × Int64 × Int32 × Int32 × Int32) (hf : fP_giveBack q0_kept q0_first q0_size q1_weights q1_size q1_marks q1_came q1_left q1_swaps = some t) : cW l E yX3_giveBack cX3_giveBack 2 (some .boolean) rmP_giveBack [.ref (ad 0), .ref (ad2 0)] (wP E ad q0_kept q0_first q0_size ++ wL E ad2 q1_weights q1_size q1_marks q1_came q1_left q1_swaps) (some (.int t.1)) (wP E ad q0_kept q0_first t.2.1 ++ wL E ad2 t.2.2.1 t.2.2.2.1 t.2.2.2.2.1 t.2.2.2.2.2.1 t.2.2.2.2.2.2.1 t.2.2.2.2.2.2.2) := by
  refine Met.ofW (cc := cX3_giveBack) (maxL := 2) (ret := (some .boolean)) (by decide) rfl ?_
  intro p e s m args below meth c s₁ B hml hv
  obtain ⟨hargs, hP, hK, hD0⟩ := hv
  have hx := B.exec
  have hb := B.bytes
  have hr := B.returns
  have hts := atoms_spec (ws := ws_ yX3_giveBack cX3_giveBack 2 (some .boolean)) B.pre
  have hta : ∀ w ∈ lw_all, w.before args s = true := fun w h => hts w (List.mem_cons_of_mem _ h)
  have hown : s.vm.findClass RX3 = some m.cls := findClass_of_methodNamed B.named
  have hlocks := B.notSynchronized
  have hC : Cx p s m args c cX3_giveBack 2 RX3 E := ⟨hx, hb, hml, hown, hta, hK⟩
  have hH : Hp E (adr (wP E ad q0_kept q0_first q0_size ++ wL E ad2 q1_weights q1_size q1_marks q1_came q1_left q1_swaps)) (wP E ad q0_kept q0_first q0_size ++ wL E ad2 q1_weights q1_size q1_marks q1_came q1_left q1_swaps) s.heap s.heap [] := Hp.start hP hD0
  obtain ⟨ls, he, hl⟩ := entry_ (m := m) (n := 2) hargs (Nat.le_of_ble_eq_true rfl)
  rw [he]
  have hl : lv_has ls 2 [(0, .ref (ad 0)), (1, .ref (ad2 0))] := hl
  show W p l e rmP_giveBack s m args below meth c s.heap [] 0 0 (MQ below (qW E (some .boolean) (some (.int t.1)) (wP E ad q0_kept q0_first q0_size ++ wL E ad2 q1_weights q1_size q1_marks q1_came q1_left q1_swaps) (wP E ad q0_kept q0_first t.2.1 ++ wL E ad2 t.2.2.1 t.2.2.2.1 t.2.2.2.2.1 t.2.2.2.2.2.1 t.2.2.2.2.2.2.1 t.2.2.2.2.2.2.2)) args s 0 0 (adr (wP E ad q0_kept q0_first q0_size ++ wL E ad2 q1_weights q1_size q1_marks q1_came q1_left q1_swaps))) (F0 m 0 ls [])
  suffices hmain : ∀ (H : Heap) (locs : List Loc), Hp E (adr (wP E ad q0_kept q0_first q0_size ++ wL E ad2 q1_weights q1_size q1_marks q1_came q1_left q1_swaps)) (wP E ad q0_kept q0_first q0_size ++ wL E ad2 q1_weights q1_size q1_marks q1_came q1_left q1_swaps) s.heap H locs → W p l e rmP_giveBack s m args below meth c H locs 0 0 (MQ below (qW E (some .boolean) (some (.int t.1)) (wP E ad q0_kept q0_first q0_size ++ wL E ad2 q1_weights q1_size q1_marks q1_came q1_left q1_swaps) (wP E ad q0_kept q0_first t.2.1 ++ wL E ad2 t.2.2.1 t.2.2.2.1 t.2.2.2.2.1 t.2.2.2.2.2.1 t.2.2.2.2.2.2.1 t.2.2.2.2.2.2.2)) args s 0 0 (adr (wP E ad q0_kept q0_first q0_size ++ wL E ad2 q1_weights q1_size q1_marks q1_came q1_left q1_swaps))) (F0 m 0 ls []) from hmain _ _ hH
  clear hH
  intro H locs hH
  rw [fP_giveBack] at hf
  refine lv_aload_n hx hb dX3_giveBack_0 rfl (lv_at hl 0 rfl) ?_
  refine gX3_18 hC hH.1 0 rfl (v := .int q0_size) rfl dX3_giveBack_1 ?_
  refine lv_if_ne (tgt := 9) hx hb dX3_giveBack_4 (by decide) (fun c1 => ?_) (fun c1 => ?_)
  · have hf := ite_f hf c1
    refine lv_aload_n hx hb dX3_giveBack_9 rfl (lv_at hl 0 rfl) ?_
    refine lv_dup hx hb dX3_giveBack_10 rfl ?_
    refine gX3_18 hC hH.1 0 rfl (v := .int q0_size) rfl dX3_giveBack_11 ?_
    refine lv_iconst (v := 1) hx hb dX3_giveBack_14 (by decide) ?_
    refine lv_isub hx hb dX3_giveBack_15 ?_
    refine pX3_18 hC hH 0 rfl (v := .int (q0_size - (1 : Int32))) rfl rfl (Nat.le_of_ble_eq_true rfl) (W1 := wP E ad q0_kept q0_first (q0_size - (1 : Int32)) ++ wL E ad2 q1_weights q1_size q1_marks q1_came q1_left q1_swaps) rfl dX3_giveBack_16 (fun H locs hH => ?_)
    refine lv_aload_n hx hb dX3_giveBack_19 rfl (lv_at hl 1 rfl) ?_
    refine lv_aload_n hx hb dX3_giveBack_20 rfl (lv_at hl 0 rfl) ?_
    refine lv_aload_n hx hb dX3_giveBack_21 rfl (lv_at hl 0 rfl) ?_
    refine gX3_18 hC hH.1 0 rfl (v := .int (q0_size - (1 : Int32))) rfl dX3_giveBack_22 ?_
    obtain ⟨t2, ht2, hf⟩ := ob hf
    refine k_PVr hC LX3_25 ⟨Nat.le_of_ble_eq_true rfl, Nat.le_of_ble_eq_true rfl⟩ ⟨Nat.zero_le _, Nat.zero_le _⟩ (cP_slotAt l E ad q0_kept q0_first (q0_size - (1 : Int32)) (q0_size - (1 : Int32)) t2 ht2) rfl rfl (hH.1.sub (ws' := wP E ad q0_kept q0_first (q0_size - (1 : Int32))) [0, 1, 2, 3, 4, 5, 6, 7, 8, 9, 10, 11, 12, 13, 14, 15, 16, 17] rfl) rfl rfl hl.1 rfl (Nat.le_of_ble_eq_true rfl) rfl dX3_giveBack_25 (fun hz25 => ?_)
    cases t2 with
    | none =>
      have hf := opt_n hf
      refine W.eq (g2 := F0 m 28 ls (.null :: [.ref (ad2 0)])) rfl ?_
      cases hf
    | some k3 =>
      have hf := opt_s hf
      have hk3c := slot_lt ht2
      refine W.eq (g2 := F0 m 28 ls (.ref (ad (2 + 2 * k3)) :: [.ref (ad2 0)])) rfl ?_
      obtain ⟨t4, ht4, hf⟩ := ob hf
      refine k_WVv hC LX3_29 ⟨Nat.le_of_ble_eq_true rfl, Nat.le_of_ble_eq_true rfl⟩ ⟨Nat.zero_le _, Nat.zero_le _⟩ (cL_becomeLike l E ad2 q1_weights q1_size q1_marks q1_came q1_left q1_swaps (fun j => ad (2 + 2 * k3 + j)) ((q0_kept k3).1) ((q0_kept k3).2.1) ((q0_kept k3).2.2.1) ((q0_kept k3).2.2.2.1) ((q0_kept k3).2.2.2.2.1) ((q0_kept k3).2.2.2.2.2) t4 ht4) rfl rfl hH [18, 19, 2 + 2 * k3, 3 + 2 * k3] (all8 (P := fun k9 => [18, 19, 2 + 2 * k9, 3 + 2 * k9].map (fun i => (wP E ad q0_kept q0_first (q0_size - (1 : Int32)) ++ wL E ad2 q1_weights q1_size q1_marks q1_came q1_left q1_swaps)[i]?) = (wL E ad2 q1_weights q1_size q1_marks q1_came q1_left q1_swaps ++ wL E (fun j => ad (2 + 2 * k9 + j)) ((q0_kept k9).1) ((q0_kept k9).2.1) ((q0_kept k9).2.2.1) ((q0_kept k9).2.2.2.1) ((q0_kept k9).2.2.2.2.1) ((q0_kept k9).2.2.2.2.2)).map some) hk3c rfl rfl rfl rfl rfl rfl rfl rfl) (all8 (P := fun k9 => va_nd [18, 19, 2 + 2 * k9, 3 + 2 * k9] = true) hk3c rfl rfl rfl rfl rfl rfl rfl rfl) rfl (W1 := wP E ad q0_kept q0_first (q0_size - (1 : Int32)) ++ wL E ad2 t4.1 t4.2.1 t4.2.2.1 t4.2.2.2.1 t4.2.2.2.2.1 t4.2.2.2.2.2) (all8 (P := fun k9 => putAt (wP E ad q0_kept q0_first (q0_size - (1 : Int32)) ++ wL E ad2 q1_weights q1_size q1_marks q1_came q1_left q1_swaps) [18, 19, 2 + 2 * k9, 3 + 2 * k9] (wL E ad2 t4.1 t4.2.1 t4.2.2.1 t4.2.2.2.1 t4.2.2.2.2.1 t4.2.2.2.2.2 ++ wL E (fun j => ad (2 + 2 * k9 + j)) ((q0_kept k9).1) ((q0_kept k9).2.1) ((q0_kept k9).2.2.1) ((q0_kept k9).2.2.2.1) ((q0_kept k9).2.2.2.2.1) ((q0_kept k9).2.2.2.2.2)) = wP E ad q0_kept q0_first (q0_size - (1 : Int32)) ++ wL E ad2 t4.1 t4.2.1 t4.2.2.1 t4.2.2.2.1 t4.2.2.2.2.1 t4.2.2.2.2.2) hk3c rfl rfl rfl rfl rfl rfl rfl rfl) rfl rfl hl.1 rfl (Nat.le_of_ble_eq_true rfl) rfl dX3_giveBack_28 (fun H locs hz28 hH => ?_)
      refine lv_iconst (v := 1) hx hb dX3_giveBack_31 (by decide) ?_
      have hf := Option.some.inj hf
      subst hf
      exact e_Wz hC hH hr hlocks rfl rfl rfl dX3_giveBack_32
  · have hf := ite_t hf c1
    refine lv_iconst (v := 0) hx hb dX3_giveBack_7 (by decide) ?_
    have hf := Option.some.inj hf
    subst hf
    exact e_Wz hC hH hr hlocks rfl rfl rfl dX3_giveBack_8
abbrev rmP_forget : Room := { frames := 0, cells := 0, slots := 0, locals := 0 }
set_option maxHeartbeats 4000000 in
set_option maxRecDepth 100000 in
theorem cP_forget (l : Launch) (E : eE) (ad : Nat → Nat) (q0_kept : (Nat → TL)) (q0_first : Int32) (q0_size : Int32) (t : Int32) (hf : fP_forget q0_size = some t) : cW l E yX3_forget cX3_forget 1 none rmP_forget [.ref (ad 0)] (wP E ad q0_kept q0_first q0_size) none (wP E ad q0_kept q0_first t) := by
  refine Met.ofW (cc := cX3_forget) (maxL := 1) (ret := none) (by decide) rfl ?_
  intro p e s m args below meth c s₁ B hml hv
  obtain ⟨hargs, hP, hK, hD0⟩ := hv
  have hx := B.exec
  have hb := B.bytes
  have hr := B.returns
  have hts := atoms_spec (ws := ws_ yX3_forget cX3_forget 1 none) B.pre
  have hta : ∀ w ∈ lw_all, w.before args s = true := fun w h => hts w (List.mem_cons_of_mem _ h)
  have hown : s.vm.findClass RX3 = some m.cls := findClass_of_methodNamed B.named
  have hlocks := B.notSynchronized
  have hC : Cx p s m args c cX3_forget 1 RX3 E := ⟨hx, hb, hml, hown, hta, hK⟩
  have hH : Hp E (adr (wP E ad q0_kept q0_first q0_size)) (wP E ad q0_kept q0_first q0_size) s.heap s.heap [] := Hp.start hP hD0
  obtain ⟨ls, he, hl⟩ := entry_ (m := m) (n := 1) hargs (Nat.le_of_ble_eq_true rfl)
  rw [he]
  have hl : lv_has ls 1 [(0, .ref (ad 0))] := hl
  show W p l e rmP_forget s m args below meth c s.heap [] 0 0 (MQ below (qW E none none (wP E ad q0_kept q0_first q0_size) (wP E ad q0_kept q0_first t)) args s 0 0 (adr (wP E ad q0_kept q0_first q0_size))) (F0 m 0 ls [])
  suffices hmain : ∀ (H : Heap) (locs : List Loc), Hp E (adr (wP E ad q0_kept q0_first q0_size)) (wP E ad q0_kept q0_first q0_size) s.heap H locs → W p l e rmP_forget s m args below meth c H locs 0 0 (MQ below (qW E none none (wP E ad q0_kept q0_first q0_size) (wP E ad q0_kept q0_first t)) args s 0 0 (adr (wP E ad q0_kept q0_first q0_size))) (F0 m 0 ls []) from hmain _ _ hH
  clear hH
  intro H locs hH
  rw [fP_forget] at hf
  refine lv_aload_n hx hb dX3_forget_0 rfl (lv_at hl 0 rfl) ?_
  refine lv_iconst (v := 0) hx hb dX3_forget_1 (by decide) ?_
  refine pX3_18 hC hH 0 rfl (v := .int (0 : Int32)) rfl rfl (Nat.le_of_ble_eq_true rfl) (W1 := wP E ad q0_kept q0_first (0 : Int32)) rfl dX3_forget_2 (fun H locs hH => ?_)
  have hf := Option.some.inj hf
  subst hf
  exact e_Wv hC hH hr hlocks rfl dX3_forget_5
