abbrev rmS_isPart : Room := { frames := 1, cells := 0, slots := 0, locals := 20 }
set_option maxHeartbeats 4000000 in
set_option maxRecDepth 100000 in
theorem cS_isPart (l : Launch) (E : eE) (ad : Nat → Nat) (q0_letters : TL) (q0_trial : TL) (q0_snapshot : TL) (q0_isSaved : Int32) (q0_past : TP) (q0_rows : TR) (q0_bags : TB) (q0_tally : TY) (q0_sizes : TZ) (q0_text : TT) (q0_line : TN) (q0_latestReason : Int32) (q0_latestDetail : Int32) (a1 : Int32) (a2 : Int32) (r : Int32) (hf : fS_isPart q0_letters a1 a2 = r) : cP l E yX8_isPart cX8_isPart 3 (some .boolean) rmS_isPart [.ref (ad 0), .int a1, .int a2] (wS E ad q0_letters q0_trial q0_snapshot q0_isSaved q0_past q0_rows q0_bags q0_tally q0_sizes q0_text q0_line q0_latestReason q0_latestDetail) (some (.int r)) := by
  refine Met.ofW (cc := cX8_isPart) (maxL := 3) (ret := (some .boolean)) (by decide) rfl ?_
  intro p e s m args below meth c s₁ B hml hv
  obtain ⟨hargs, hP, hK⟩ := hv
  have hx := B.exec
  have hb := B.bytes
  have hr := B.returns
  have hts := atoms_spec (ws := ws_ yX8_isPart cX8_isPart 3 (some .boolean)) B.pre
  have hta : ∀ w ∈ lw_all, w.before args s = true := fun w h => hts w (List.mem_cons_of_mem _ h)
  have hown : s.vm.findClass RX8 = some m.cls := findClass_of_methodNamed B.named
  have hlocks := B.notSynchronized
  have hC : Cx p s m args c cX8_isPart 3 RX8 E := ⟨hx, hb, hml, hown, hta, hK⟩
  obtain ⟨ls, he, hl⟩ := entry_ (m := m) (n := 3) hargs (Nat.le_of_ble_eq_true rfl)
  rw [he]
  have hl : lv_has ls 3 [(0, .ref (ad 0)), (1, .int a1), (2, .int a2)] := hl
  show W p l e rmS_isPart s m args below meth c s.heap [] 0 0 (MQ below (qP (some .boolean) (some (.int r))) args s 0 0 (fun _ => False)) (F0 m 0 ls [])
  rw [fS_isPart] at hf
  refine lv_iload_n hx hb dX8_isPart_0 rfl (lv_at hl 1 rfl) ?_
  refine lv_if_lt (tgt := 24) hx hb dX8_isPart_1 (by decide) (fun c1 => ?_) (fun c1 => ?_)
  · have hf := ite_t hf c1
    refine lv_iconst (v := 0) hx hb dX8_isPart_24 (by decide) ?_
    exact e_Pz hC hr hlocks hf rfl dX8_isPart_25
  · have hf := ite_f hf c1
    refine lv_iload_n hx hb dX8_isPart_4 rfl (lv_at hl 1 rfl) ?_
    refine lv_iload_n hx hb dX8_isPart_5 rfl (lv_at hl 2 rfl) ?_
    refine lv_icmp_gt (tgt := 24) hx hb dX8_isPart_6 (by decide) (fun c2 => ?_) (fun c2 => ?_)
    · have hf := ite_t hf c2
      refine lv_iconst (v := 0) hx hb dX8_isPart_24 (by decide) ?_
      exact e_Pz hC hr hlocks hf rfl dX8_isPart_25
    · have hf := ite_f hf c2
      refine lv_iload_n hx hb dX8_isPart_9 rfl (lv_at hl 2 rfl) ?_
      refine lv_aload_n hx hb dX8_isPart_10 rfl (lv_at hl 0 rfl) ?_
      refine gX8_10 hC hP 0 rfl (v := .ref (ad 1)) rfl dX8_isPart_11 ?_
      refine k_PVi hC LX8_87 ⟨Nat.le_of_ble_eq_true rfl, Nat.le_of_ble_eq_true rfl⟩ ⟨Nat.zero_le _, Nat.zero_le _⟩ (cL_size l E (fun j => ad (1 + j)) q0_letters.1 q0_letters.2.1 q0_letters.2.2.1 q0_letters.2.2.2.1 q0_letters.2.2.2.2.1 q0_letters.2.2.2.2.2 _ rfl) rfl rfl (ss_letters hP) rfl rfl hl.1 rfl (Nat.le_of_ble_eq_true rfl) rfl dX8_isPart_14 (fun hz14 => ?_)
      refine lv_icmp_gt (tgt := 24) hx hb dX8_isPart_17 (by decide) (fun c3 => ?_) (fun c3 => ?_)
      · have hf := ite_t hf c3
        refine lv_iconst (v := 0) hx hb dX8_isPart_24 (by decide) ?_
        exact e_Pz hC hr hlocks hf rfl dX8_isPart_25
      · have hf := ite_f hf c3
        refine lv_iconst (v := 1) hx hb dX8_isPart_20 (by decide) ?_
        refine lv_goto (tgt := 25) hx hb dX8_isPart_21 (by decide) ?_
        exact e_Pz hC hr hlocks hf rfl dX8_isPart_25
abbrev rmS_isPlaceOfPart : Room := { frames := 2, cells := 0, slots := 0, locals := 42 }
set_option maxHeartbeats 4000000 in
set_option maxRecDepth 100000 in
theorem cS_isPlaceOfPart (l : Launch) (E : eE) (ad : Nat → Nat) (q0_letters : TL) (q0_trial : TL) (q0_snapshot : TL) (q0_isSaved : Int32) (q0_past : TP) (q0_rows : TR) (q0_bags : TB) (q0_tally : TY) (q0_sizes : TZ) (q0_text : TT) (q0_line : TN) (q0_latestReason : Int32) (q0_latestDetail : Int32) (a1 : Int32) (a2 : Int32) (a3 : Int32) (r : Int32) (hf : fS_isPlaceOfPart q0_letters a1 a2 a3 = r) : cP l E yX8_isPlaceOfPart cX8_isPlaceOfPart 4 (some .boolean) rmS_isPlaceOfPart [.ref (ad 0), .int a1, .int a2, .int a3] (wS E ad q0_letters q0_trial q0_snapshot q0_isSaved q0_past q0_rows q0_bags q0_tally q0_sizes q0_text q0_line q0_latestReason q0_latestDetail) (some (.int r)) := by
  refine Met.ofW (cc := cX8_isPlaceOfPart) (maxL := 4) (ret := (some .boolean)) (by decide) rfl ?_
  intro p e s m args below meth c s₁ B hml hv
  obtain ⟨hargs, hP, hK⟩ := hv
  have hx := B.exec
  have hb := B.bytes
  have hr := B.returns
  have hts := atoms_spec (ws := ws_ yX8_isPlaceOfPart cX8_isPlaceOfPart 4 (some .boolean)) B.pre
  have hta : ∀ w ∈ lw_all, w.before args s = true := fun w h => hts w (List.mem_cons_of_mem _ h)
  have hown : s.vm.findClass RX8 = some m.cls := findClass_of_methodNamed B.named
  have hlocks := B.notSynchronized
  have hC : Cx p s m args c cX8_isPlaceOfPart 4 RX8 E := ⟨hx, hb, hml, hown, hta, hK⟩
  obtain ⟨ls, he, hl⟩ := entry_ (m := m) (n := 4) hargs (Nat.le_of_ble_eq_true rfl)
  rw [he]
  have hl : lv_has ls 4 [(0, .ref (ad 0)), (1, .int a1), (2, .int a2), (3, .int a3)] := hl
  show W p l e rmS_isPlaceOfPart s m args below meth c s.heap [] 0 0 (MQ below (qP (some .boolean) (some (.int r))) args s 0 0 (fun _ => False)) (F0 m 0 ls [])
  rw [fS_isPlaceOfPart] at hf
  refine lv_aload_n hx hb dX8_isPlaceOfPart_0 rfl (lv_at hl 0 rfl) ?_
  refine lv_iload_n hx hb dX8_isPlaceOfPart_1 rfl (lv_at hl 1 rfl) ?_
  refine lv_iload_n hx hb dX8_isPlaceOfPart_2 rfl (lv_at hl 2 rfl) ?_
  refine k_PVi hC LX8_169 ⟨Nat.le_of_ble_eq_true rfl, Nat.le_of_ble_eq_true rfl⟩ ⟨Nat.zero_le _, Nat.zero_le _⟩ (cS_isPart l E ad q0_letters q0_trial q0_snapshot q0_isSaved q0_past q0_rows q0_bags q0_tally q0_sizes q0_text q0_line q0_latestReason q0_latestDetail a1 a2 _ rfl) rfl rfl hP rfl rfl hl.1 rfl (Nat.le_of_ble_eq_true rfl) rfl dX8_isPlaceOfPart_3 (fun hz3 => ?_)
  refine lv_if_eq (tgt := 24) hx hb dX8_isPlaceOfPart_6 (by decide) (fun c1 => ?_) (fun c1 => ?_)
  · have hf := ite_t hf c1
    refine lv_iconst (v := 0) hx hb dX8_isPlaceOfPart_24 (by decide) ?_
    exact e_Pz hC hr hlocks hf rfl dX8_isPlaceOfPart_25
  · have hf := ite_f hf c1
    refine lv_iload_n hx hb dX8_isPlaceOfPart_9 rfl (lv_at hl 3 rfl) ?_
    refine lv_if_lt (tgt := 24) hx hb dX8_isPlaceOfPart_10 (by decide) (fun c2 => ?_) (fun c2 => ?_)
    · have hf := ite_t hf c2
      refine lv_iconst (v := 0) hx hb dX8_isPlaceOfPart_24 (by decide) ?_
      exact e_Pz hC hr hlocks hf rfl dX8_isPlaceOfPart_25
    · have hf := ite_f hf c2
      refine lv_iload_n hx hb dX8_isPlaceOfPart_13 rfl (lv_at hl 3 rfl) ?_
      refine lv_iload_n hx hb dX8_isPlaceOfPart_14 rfl (lv_at hl 2 rfl) ?_
      refine lv_iload_n hx hb dX8_isPlaceOfPart_15 rfl (lv_at hl 1 rfl) ?_
      refine lv_isub hx hb dX8_isPlaceOfPart_16 ?_
      refine lv_icmp_ge (tgt := 24) hx hb dX8_isPlaceOfPart_17 (by decide) (fun c3 => ?_) (fun c3 => ?_)
      · have hf := ite_t hf c3
        refine lv_iconst (v := 0) hx hb dX8_isPlaceOfPart_24 (by decide) ?_
        exact e_Pz hC hr hlocks hf rfl dX8_isPlaceOfPart_25
      · have hf := ite_f hf c3
        refine lv_iconst (v := 1) hx hb dX8_isPlaceOfPart_20 (by decide) ?_
        refine lv_goto (tgt := 25) hx hb dX8_isPlaceOfPart_21 (by decide) ?_
        exact e_Pz hC hr hlocks hf rfl dX8_isPlaceOfPart_25
abbrev rmS_quantile : Room := { frames := 4, cells := 0, slots := 0, locals := 102 }
set_option maxHeartbeats 4000000 in
set_option maxRecDepth 100000 in
theorem cS_quantile (l : Launch) (E : eE) (ad : Nat → Nat) (q0_letters : TL) (q0_trial : TL) (q0_snapshot : TL) (q0_isSaved : Int32) (q0_past : TP) (q0_rows : TR) (q0_bags : TB) (q0_tally : TY) (q0_sizes : TZ) (q0_text : TT) (q0_line : TN) (q0_latestReason : Int32) (q0_latestDetail : Int32) (a1 : Int32) (a2 : Int32) (a3 : Int32) (r : Int32) (hf : fS_quantile q0_letters q0_rows a1 a2 a3 = some r) : cP l E yX8_quantile cX8_quantile 4 (some .int) rmS_quantile [.ref (ad 0), .int a1, .int a2, .int a3] (wS E ad q0_letters q0_trial q0_snapshot q0_isSaved q0_past q0_rows q0_bags q0_tally q0_sizes q0_text q0_line q0_latestReason q0_latestDetail) (some (.int r)) := by
  refine Met.ofW (cc := cX8_quantile) (maxL := 4) (ret := (some .int)) (by decide) rfl ?_
  intro p e s m args below meth c s₁ B hml hv
  obtain ⟨hargs, hP, hK⟩ := hv
  have hx := B.exec
  have hb := B.bytes
  have hr := B.returns
  have hts := atoms_spec (ws := ws_ yX8_quantile cX8_quantile 4 (some .int)) B.pre
  have hta : ∀ w ∈ lw_all, w.before args s = true := fun w h => hts w (List.mem_cons_of_mem _ h)
  have hown : s.vm.findClass RX8 = some m.cls := findClass_of_methodNamed B.named
  have hlocks := B.notSynchronized
  have hC : Cx p s m args c cX8_quantile 4 RX8 E := ⟨hx, hb, hml, hown, hta, hK⟩
  obtain ⟨ls, he, hl⟩ := entry_ (m := m) (n := 4) hargs (Nat.le_of_ble_eq_true rfl)
  rw [he]
  have hl : lv_has ls 4 [(0, .ref (ad 0)), (1, .int a1), (2, .int a2), (3, .int a3)] := hl
  show W p l e rmS_quantile s m args below meth c s.heap [] 0 0 (MQ below (qP (some .int) (some (.int r))) args s 0 0 (fun _ => False)) (F0 m 0 ls [])
  rw [fS_quantile] at hf
  refine lv_aload_n hx hb dX8_quantile_0 rfl (lv_at hl 0 rfl) ?_
  refine lv_iload_n hx hb dX8_quantile_1 rfl (lv_at hl 1 rfl) ?_
  refine lv_iload_n hx hb dX8_quantile_2 rfl (lv_at hl 2 rfl) ?_
  refine lv_iload_n hx hb dX8_quantile_3 rfl (lv_at hl 3 rfl) ?_
  refine k_PVi hC LX8_156 ⟨Nat.le_of_ble_eq_true rfl, Nat.le_of_ble_eq_true rfl⟩ ⟨Nat.zero_le _, Nat.zero_le _⟩ (cS_isPlaceOfPart l E ad q0_letters q0_trial q0_snapshot q0_isSaved q0_past q0_rows q0_bags q0_tally q0_sizes q0_text q0_line q0_latestReason q0_latestDetail a1 a2 a3 _ rfl) rfl rfl hP rfl rfl hl.1 rfl (Nat.le_of_ble_eq_true rfl) rfl dX8_quantile_4 (fun hz4 => ?_)
  refine lv_if_eq (tgt := 23) hx hb dX8_quantile_7 (by decide) (fun c1 => ?_) (fun c1 => ?_)
  · have hf := ite_t hf c1
    refine lv_bipush (v := (-11)) hx hb dX8_quantile_23 (by decide) ?_
    have hf := Option.some.inj hf
    exact e_Pi hC hr hlocks hf dX8_quantile_25
  · have hf := ite_f hf c1
    refine lv_aload_n hx hb dX8_quantile_10 rfl (lv_at hl 0 rfl) ?_
    refine gX8_32 hC hP 0 rfl (v := .ref (ad 25)) rfl dX8_quantile_11 ?_
    refine lv_iload_n hx hb dX8_quantile_14 rfl (lv_at hl 1 rfl) ?_
    refine lv_iload_n hx hb dX8_quantile_15 rfl (lv_at hl 2 rfl) ?_
    refine lv_iload_n hx hb dX8_quantile_16 rfl (lv_at hl 3 rfl) ?_
    obtain ⟨t2, ht2, hf⟩ := ob hf
    refine k_PVi hC LX8_160 ⟨Nat.le_of_ble_eq_true rfl, Nat.le_of_ble_eq_true rfl⟩ ⟨Nat.zero_le _, Nat.zero_le _⟩ (cR_weightBySize l E (fun j => ad (25 + j)) q0_rows.1 q0_rows.2.1 q0_rows.2.2.1 q0_rows.2.2.2.1 q0_rows.2.2.2.2.1 q0_rows.2.2.2.2.2 a1 a2 a3 t2 ht2) rfl rfl (ss_rows hP) rfl rfl hl.1 rfl (Nat.le_of_ble_eq_true rfl) rfl dX8_quantile_17 (fun hz17 => ?_)
    refine lv_goto (tgt := 25) hx hb dX8_quantile_20 (by decide) ?_
    have hf := Option.some.inj hf
    exact e_Pi hC hr hlocks hf dX8_quantile_25
abbrev rmS_quantileAgain : Room := { frames := 3, cells := 0, slots := 0, locals := 65 }
set_option maxHeartbeats 4000000 in
set_option maxRecDepth 100000 in
theorem cS_quantileAgain (l : Launch) (E : eE) (ad : Nat → Nat) (q0_letters : TL) (q0_trial : TL) (q0_snapshot : TL) (q0_isSaved : Int32) (q0_past : TP) (q0_rows : TR) (q0_bags : TB) (q0_tally : TY) (q0_sizes : TZ) (q0_text : TT) (q0_line : TN) (q0_latestReason : Int32) (q0_latestDetail : Int32) (a1 : Int32) (a2 : Int32) (a3 : Int32) (t : Int32 × TZ) (hf : fS_quantileAgain q0_letters q0_sizes a1 a2 a3 = some t) : cW l E yX8_quantileAgain cX8_quantileAgain 4 (some .int) rmS_quantileAgain [.ref (ad 0), .int a1, .int a2, .int a3] (wS E ad q0_letters q0_trial q0_snapshot q0_isSaved q0_past q0_rows q0_bags q0_tally q0_sizes q0_text q0_line q0_latestReason q0_latestDetail) (some (.int t.1)) (wS E ad q0_letters q0_trial q0_snapshot q0_isSaved q0_past q0_rows q0_bags q0_tally t.2 q0_text q0_line q0_latestReason q0_latestDetail) := by
  refine Met.ofW (cc := cX8_quantileAgain) (maxL := 4) (ret := (some .int)) (by decide) rfl ?_
  intro p e s m args below meth c s₁ B hml hv
  obtain ⟨hargs, hP, hK, hD0⟩ := hv
  have hx := B.exec
  have hb := B.bytes
  have hr := B.returns
  have hts := atoms_spec (ws := ws_ yX8_quantileAgain cX8_quantileAgain 4 (some .int)) B.pre
  have hta : ∀ w ∈ lw_all, w.before args s = true := fun w h => hts w (List.mem_cons_of_mem _ h)
  have hown : s.vm.findClass RX8 = some m.cls := findClass_of_methodNamed B.named
  have hlocks := B.notSynchronized
  have hC : Cx p s m args c cX8_quantileAgain 4 RX8 E := ⟨hx, hb, hml, hown, hta, hK⟩
  have hH : Hp E (adr (wS E ad q0_letters q0_trial q0_snapshot q0_isSaved q0_past q0_rows q0_bags q0_tally q0_sizes q0_text q0_line q0_latestReason q0_latestDetail)) (wS E ad q0_letters q0_trial q0_snapshot q0_isSaved q0_past q0_rows q0_bags q0_tally q0_sizes q0_text q0_line q0_latestReason q0_latestDetail) s.heap s.heap [] := Hp.start hP hD0
  obtain ⟨ls, he, hl⟩ := entry_ (m := m) (n := 4) hargs (Nat.le_of_ble_eq_true rfl)
  rw [he]
  have hl : lv_has ls 4 [(0, .ref (ad 0)), (1, .int a1), (2, .int a2), (3, .int a3)] := hl
  show W p l e rmS_quantileAgain s m args below meth c s.heap [] 0 0 (MQ below (qW E (some .int) (some (.int t.1)) (wS E ad q0_letters q0_trial q0_snapshot q0_isSaved q0_past q0_rows q0_bags q0_tally q0_sizes q0_text q0_line q0_latestReason q0_latestDetail) (wS E ad q0_letters q0_trial q0_snapshot q0_isSaved q0_past q0_rows q0_bags q0_tally t.2 q0_text q0_line q0_latestReason q0_latestDetail)) args s 0 0 (adr (wS E ad q0_letters q0_trial q0_snapshot q0_isSaved q0_past q0_rows q0_bags q0_tally q0_sizes q0_text q0_line q0_latestReason q0_latestDetail))) (F0 m 0 ls [])
  suffices hmain : ∀ (H : Heap) (locs : List Loc), Hp E (adr (wS E ad q0_letters q0_trial q0_snapshot q0_isSaved q0_past q0_rows q0_bags q0_tally q0_sizes q0_text q0_line q0_latestReason q0_latestDetail)) (wS E ad q0_letters q0_trial q0_snapshot q0_isSaved q0_past q0_rows q0_bags q0_tally q0_sizes q0_text q0_line q0_latestReason q0_latestDetail) s.heap H locs → W p l e rmS_quantileAgain s m args below meth c H locs 0 0 (MQ below (qW E (some .int) (some (.int t.1)) (wS E ad q0_letters q0_trial q0_snapshot q0_isSaved q0_past q0_rows q0_bags q0_tally q0_sizes q0_text q0_line q0_latestReason q0_latestDetail) (wS E ad q0_letters q0_trial q0_snapshot q0_isSaved q0_past q0_rows q0_bags q0_tally t.2 q0_text q0_line q0_latestReason q0_latestDetail)) args s 0 0 (adr (wS E ad q0_letters q0_trial q0_snapshot q0_isSaved q0_past q0_rows q0_bags q0_tally q0_sizes q0_text q0_line q0_latestReason q0_latestDetail))) (F0 m 0 ls []) from hmain _ _ hH
  clear hH
  intro H locs hH
  rw [fS_quantileAgain] at hf
  refine lv_aload_n hx hb dX8_quantileAgain_0 rfl (lv_at hl 0 rfl) ?_
  refine lv_iload_n hx hb dX8_quantileAgain_1 rfl (lv_at hl 1 rfl) ?_
  refine lv_iload_n hx hb dX8_quantileAgain_2 rfl (lv_at hl 2 rfl) ?_
  refine lv_iload_n hx hb dX8_quantileAgain_3 rfl (lv_at hl 3 rfl) ?_
  refine k_PVi hC LX8_156 ⟨Nat.le_of_ble_eq_true rfl, Nat.le_of_ble_eq_true rfl⟩ ⟨Nat.zero_le _, Nat.zero_le _⟩ (cS_isPlaceOfPart l E ad q0_letters q0_trial q0_snapshot q0_isSaved q0_past q0_rows q0_bags q0_tally q0_sizes q0_text q0_line q0_latestReason q0_latestDetail a1 a2 a3 _ rfl) rfl rfl hH.1 rfl rfl hl.1 rfl (Nat.le_of_ble_eq_true rfl) rfl dX8_quantileAgain_4 (fun hz4 => ?_)
  refine lv_if_ne (tgt := 13) hx hb dX8_quantileAgain_7 (by decide) (fun c1 => ?_) (fun c1 => ?_)
  · have hf := ite_f hf c1
    refine lv_aload_n hx hb dX8_quantileAgain_13 rfl (lv_at hl 0 rfl) ?_
    refine gX8_53 hC hH.1 0 rfl (v := .ref (ad 41)) rfl dX8_quantileAgain_14 ?_
    refine lv_aload_n hx hb dX8_quantileAgain_17 rfl (lv_at hl 0 rfl) ?_
    refine gX8_10 hC hH.1 0 rfl (v := .ref (ad 1)) rfl dX8_quantileAgain_18 ?_
    refine lv_iload_n hx hb dX8_quantileAgain_21 rfl (lv_at hl 1 rfl) ?_
    refine lv_iload_n hx hb dX8_quantileAgain_22 rfl (lv_at hl 2 rfl) ?_
    obtain ⟨t2, ht2, hf⟩ := ob hf
    refine k_WVpv hC LX8_164 ⟨Nat.le_of_ble_eq_true rfl, Nat.le_of_ble_eq_true rfl⟩ ⟨Nat.zero_le _, Nat.zero_le _⟩ (cZ_fill l E (fun j => ad (41 + j)) q0_sizes.1 q0_sizes.2 (fun j => ad (1 + j)) q0_letters.1 q0_letters.2.1 q0_letters.2.2.1 q0_letters.2.2.2.1 q0_letters.2.2.2.2.1 q0_letters.2.2.2.2.2 a1 a2 t2 ht2) rfl rfl hH (W1 := wS E ad q0_letters q0_trial q0_snapshot q0_isSaved q0_past q0_rows q0_bags q0_tally (t2.1, t2.2) q0_text q0_line q0_latestReason q0_latestDetail) (sp_sizes_letters E ad q0_letters q0_trial q0_snapshot q0_isSaved q0_past q0_rows q0_bags q0_tally q0_sizes q0_text q0_line q0_latestReason q0_latestDetail) (sq_sizes_letters E ad q0_letters q0_trial q0_snapshot q0_isSaved q0_past q0_rows q0_bags q0_tally q0_sizes q0_text q0_line q0_latestReason q0_latestDetail t2.1 t2.2 q0_letters.1 q0_letters.2.1 q0_letters.2.2.1 q0_letters.2.2.2.1 q0_letters.2.2.2.2.1 q0_letters.2.2.2.2.2) rfl rfl rfl hl.1 rfl (Nat.le_of_ble_eq_true rfl) rfl dX8_quantileAgain_23 (fun H locs hz23 hH => ?_)
    refine lv_aload_n hx hb dX8_quantileAgain_26 rfl (lv_at hl 0 rfl) ?_
    refine gX8_53 hC hH.1 0 rfl (v := .ref (ad 41)) rfl dX8_quantileAgain_27 ?_
    refine lv_iload_n hx hb dX8_quantileAgain_30 rfl (lv_at hl 3 rfl) ?_
    obtain ⟨t3, ht3, hf⟩ := ob hf
    refine k_PVi hC LX8_168 ⟨Nat.le_of_ble_eq_true rfl, Nat.le_of_ble_eq_true rfl⟩ ⟨Nat.zero_le _, Nat.zero_le _⟩ (cZ_at l E (fun j => ad (41 + j)) t2.1 t2.2 a3 t3 ht3) rfl rfl (ss_sizes hH.1) rfl rfl hl.1 rfl (Nat.le_of_ble_eq_true rfl) rfl dX8_quantileAgain_31 (fun hz31 => ?_)
    have hf := Option.some.inj hf
    subst hf
    exact e_Wi hC hH hr hlocks rfl rfl dX8_quantileAgain_34
  · have hf := ite_t hf c1
    refine lv_bipush (v := (-11)) hx hb dX8_quantileAgain_10 (by decide) ?_
    have hf := Option.some.inj hf
    subst hf
    exact e_Wi hC hH hr hlocks rfl rfl dX8_quantileAgain_12
abbrev rmS_count : Room := { frames := 5, cells := 0, slots := 0, locals := 119 }
set_option maxHeartbeats 4000000 in
set_option maxRecDepth 100000 in
theorem cS_count (l : Launch) (E : eE) (ad : Nat → Nat) (q0_letters : TL) (q0_trial : TL) (q0_snapshot : TL) (q0_isSaved : Int32) (q0_past : TP) (q0_rows : TR) (q0_bags : TB) (q0_tally : TY) (q0_sizes : TZ) (q0_text : TT) (q0_line : TN) (q0_latestReason : Int32) (q0_latestDetail : Int32) (a1 : Int32) (a2 : Int32) (a3 : Int32) (r : Int32) (hf : fS_count q0_letters q0_rows a1 a2 a3 = some r) : cP l E yX8_count cX8_count 4 (some .int) rmS_count [.ref (ad 0), .int a1, .int a2, .int a3] (wS E ad q0_letters q0_trial q0_snapshot q0_isSaved q0_past q0_rows q0_bags q0_tally q0_sizes q0_text q0_line q0_latestReason q0_latestDetail) (some (.int r)) := by
  refine Met.ofW (cc := cX8_count) (maxL := 4) (ret := (some .int)) (by decide) rfl ?_
  intro p e s m args below meth c s₁ B hml hv
  obtain ⟨hargs, hP, hK⟩ := hv
  have hx := B.exec
  have hb := B.bytes
  have hr := B.returns
  have hts := atoms_spec (ws := ws_ yX8_count cX8_count 4 (some .int)) B.pre
  have hta : ∀ w ∈ lw_all, w.before args s = true := fun w h => hts w (List.mem_cons_of_mem _ h)
  have hown : s.vm.findClass RX8 = some m.cls := findClass_of_methodNamed B.named
  have hlocks := B.notSynchronized
  have hC : Cx p s m args c cX8_count 4 RX8 E := ⟨hx, hb, hml, hown, hta, hK⟩
  obtain ⟨ls, he, hl⟩ := entry_ (m := m) (n := 4) hargs (Nat.le_of_ble_eq_true rfl)
  rw [he]
  have hl : lv_has ls 4 [(0, .ref (ad 0)), (1, .int a1), (2, .int a2), (3, .int a3)] := hl
  show W p l e rmS_count s m args below meth c s.heap [] 0 0 (MQ below (qP (some .int) (some (.int r))) args s 0 0 (fun _ => False)) (F0 m 0 ls [])
  rw [fS_count] at hf
  refine lv_aload_n hx hb dX8_count_0 rfl (lv_at hl 0 rfl) ?_
  refine lv_iload_n hx hb dX8_count_1 rfl (lv_at hl 1 rfl) ?_
  refine lv_iload_n hx hb dX8_count_2 rfl (lv_at hl 2 rfl) ?_
  refine k_PVi hC LX8_169 ⟨Nat.le_of_ble_eq_true rfl, Nat.le_of_ble_eq_true rfl⟩ ⟨Nat.zero_le _, Nat.zero_le _⟩ (cS_isPart l E ad q0_letters q0_trial q0_snapshot q0_isSaved q0_past q0_rows q0_bags q0_tally q0_sizes q0_text q0_line q0_latestReason q0_latestDetail a1 a2 _ rfl) rfl rfl hP rfl rfl hl.1 rfl (Nat.le_of_ble_eq_true rfl) rfl dX8_count_3 (fun hz3 => ?_)
  refine lv_if_ne (tgt := 12) hx hb dX8_count_6 (by decide) (fun c1 => ?_) (fun c1 => ?_)
  · have hf := ite_f hf c1
    refine lv_iload_n hx hb dX8_count_12 rfl (lv_at hl 3 rfl) ?_
    refine k_PSi hC LX8_71 ⟨Nat.le_of_ble_eq_true rfl, Nat.le_of_ble_eq_true rfl⟩ ⟨Nat.zero_le _, Nat.zero_le _⟩ (cS_isWeight l E a3 _ rfl) rfl rfl (vP_nil) hl.1 rfl (Nat.le_of_ble_eq_true rfl) rfl dX8_count_13 (fun hz13 => ?_)
    refine lv_if_eq (tgt := 32) hx hb dX8_count_16 (by decide) (fun c2 => ?_) (fun c2 => ?_)
    · have hf := ite_t hf c2
      refine lv_bipush (v := (-12)) hx hb dX8_count_32 (by decide) ?_
      have hf := Option.some.inj hf
      exact e_Pi hC hr hlocks hf dX8_count_34
    · have hf := ite_f hf c2
      refine lv_aload_n hx hb dX8_count_19 rfl (lv_at hl 0 rfl) ?_
      refine gX8_32 hC hP 0 rfl (v := .ref (ad 25)) rfl dX8_count_20 ?_
      refine lv_iload_n hx hb dX8_count_23 rfl (lv_at hl 1 rfl) ?_
      refine lv_iload_n hx hb dX8_count_24 rfl (lv_at hl 2 rfl) ?_
      refine lv_iload_n hx hb dX8_count_25 rfl (lv_at hl 3 rfl) ?_
      obtain ⟨t3, ht3, hf⟩ := ob hf
      refine k_PVi hC LX8_172 ⟨Nat.le_of_ble_eq_true rfl, Nat.le_of_ble_eq_true rfl⟩ ⟨Nat.zero_le _, Nat.zero_le _⟩ (cR_numberOf l E (fun j => ad (25 + j)) q0_rows.1 q0_rows.2.1 q0_rows.2.2.1 q0_rows.2.2.2.1 q0_rows.2.2.2.2.1 q0_rows.2.2.2.2.2 a1 a2 a3 t3 ht3) rfl rfl (ss_rows hP) rfl rfl hl.1 rfl (Nat.le_of_ble_eq_true rfl) rfl dX8_count_26 (fun hz26 => ?_)
      refine lv_goto (tgt := 34) hx hb dX8_count_29 (by decide) ?_
      have hf := Option.some.inj hf
      exact e_Pi hC hr hlocks hf dX8_count_34
  · have hf := ite_t hf c1
    refine lv_bipush (v := (-11)) hx hb dX8_count_9 (by decide) ?_
    have hf := Option.some.inj hf
    exact e_Pi hC hr hlocks hf dX8_count_11
abbrev rmS_lighter : Room := { frames := 4, cells := 0, slots := 0, locals := 100 }
set_option maxHeartbeats 4000000 in
set_option maxRecDepth 100000 in
theorem cS_lighter (l : Launch) (E : eE) (ad : Nat → Nat) (q0_letters : TL) (q0_trial : TL) (q0_snapshot : TL) (q0_isSaved : Int32) (q0_past : TP) (q0_rows : TR) (q0_bags : TB) (q0_tally : TY) (q0_sizes : TZ) (q0_text : TT) (q0_line : TN) (q0_latestReason : Int32) (q0_latestDetail : Int32) (a1 : Int32) (a2 : Int32) (a3 : Int32) (r : Int32) (hf : fS_lighter q0_letters q0_rows a1 a2 a3 = some r) : cP l E yX8_lighter cX8_lighter 4 (some .int) rmS_lighter [.ref (ad 0), .int a1, .int a2, .int a3] (wS E ad q0_letters q0_trial q0_snapshot q0_isSaved q0_past q0_rows q0_bags q0_tally q0_sizes q0_text q0_line q0_latestReason q0_latestDetail) (some (.int r)) := by
  refine Met.ofW (cc := cX8_lighter) (maxL := 4) (ret := (some .int)) (by decide) rfl ?_
  intro p e s m args below meth c s₁ B hml hv
  obtain ⟨hargs, hP, hK⟩ := hv
  have hx := B.exec
  have hb := B.bytes
  have hr := B.returns
  have hts := atoms_spec (ws := ws_ yX8_lighter cX8_lighter 4 (some .int)) B.pre
  have hta : ∀ w ∈ lw_all, w.before args s = true := fun w h => hts w (List.mem_cons_of_mem _ h)
  have hown : s.vm.findClass RX8 = some m.cls := findClass_of_methodNamed B.named
  have hlocks := B.notSynchronized
  have hC : Cx p s m args c cX8_lighter 4 RX8 E := ⟨hx, hb, hml, hown, hta, hK⟩
  obtain ⟨ls, he, hl⟩ := entry_ (m := m) (n := 4) hargs (Nat.le_of_ble_eq_true rfl)
  rw [he]
  have hl : lv_has ls 4 [(0, .ref (ad 0)), (1, .int a1), (2, .int a2), (3, .int a3)] := hl
  show W p l e rmS_lighter s m args below meth c s.heap [] 0 0 (MQ below (qP (some .int) (some (.int r))) args s 0 0 (fun _ => False)) (F0 m 0 ls [])
  rw [fS_lighter] at hf
  refine lv_aload_n hx hb dX8_lighter_0 rfl (lv_at hl 0 rfl) ?_
  refine lv_iload_n hx hb dX8_lighter_1 rfl (lv_at hl 1 rfl) ?_
  refine lv_iload_n hx hb dX8_lighter_2 rfl (lv_at hl 2 rfl) ?_
  refine k_PVi hC LX8_169 ⟨Nat.le_of_ble_eq_true rfl, Nat.le_of_ble_eq_true rfl⟩ ⟨Nat.zero_le _, Nat.zero_le _⟩ (cS_isPart l E ad q0_letters q0_trial q0_snapshot q0_isSaved q0_past q0_rows q0_bags q0_tally q0_sizes q0_text q0_line q0_latestReason q0_latestDetail a1 a2 _ rfl) rfl rfl hP rfl rfl hl.1 rfl (Nat.le_of_ble_eq_true rfl) rfl dX8_lighter_3 (fun hz3 => ?_)
  refine lv_if_ne (tgt := 12) hx hb dX8_lighter_6 (by decide) (fun c1 => ?_) (fun c1 => ?_)
  · have hf := ite_f hf c1
    refine lv_iload_n hx hb dX8_lighter_12 rfl (lv_at hl 3 rfl) ?_
    refine k_PSi hC LX8_71 ⟨Nat.le_of_ble_eq_true rfl, Nat.le_of_ble_eq_true rfl⟩ ⟨Nat.zero_le _, Nat.zero_le _⟩ (cS_isWeight l E a3 _ rfl) rfl rfl (vP_nil) hl.1 rfl (Nat.le_of_ble_eq_true rfl) rfl dX8_lighter_13 (fun hz13 => ?_)
    refine lv_if_eq (tgt := 32) hx hb dX8_lighter_16 (by decide) (fun c2 => ?_) (fun c2 => ?_)
    · have hf := ite_t hf c2
      refine lv_bipush (v := (-12)) hx hb dX8_lighter_32 (by decide) ?_
      have hf := Option.some.inj hf
      exact e_Pi hC hr hlocks hf dX8_lighter_34
    · have hf := ite_f hf c2
      refine lv_aload_n hx hb dX8_lighter_19 rfl (lv_at hl 0 rfl) ?_
      refine gX8_32 hC hP 0 rfl (v := .ref (ad 25)) rfl dX8_lighter_20 ?_
      refine lv_iload_n hx hb dX8_lighter_23 rfl (lv_at hl 1 rfl) ?_
      refine lv_iload_n hx hb dX8_lighter_24 rfl (lv_at hl 2 rfl) ?_
      refine lv_iload_n hx hb dX8_lighter_25 rfl (lv_at hl 3 rfl) ?_
      obtain ⟨t3, ht3, hf⟩ := ob hf
      refine k_PVi hC LX8_175 ⟨Nat.le_of_ble_eq_true rfl, Nat.le_of_ble_eq_true rfl⟩ ⟨Nat.zero_le _, Nat.zero_le _⟩ (cR_numberBelow l E (fun j => ad (25 + j)) q0_rows.1 q0_rows.2.1 q0_rows.2.2.1 q0_rows.2.2.2.1 q0_rows.2.2.2.2.1 q0_rows.2.2.2.2.2 a1 a2 a3 t3 ht3) rfl rfl (ss_rows hP) rfl rfl hl.1 rfl (Nat.le_of_ble_eq_true rfl) rfl dX8_lighter_26 (fun hz26 => ?_)
      refine lv_goto (tgt := 34) hx hb dX8_lighter_29 (by decide) ?_
      have hf := Option.some.inj hf
      exact e_Pi hC hr hlocks hf dX8_lighter_34
  · have hf := ite_t hf c1
    refine lv_bipush (v := (-11)) hx hb dX8_lighter_9 (by decide) ?_
    have hf := Option.some.inj hf
    exact e_Pi hC hr hlocks hf dX8_lighter_11
abbrev rmS_atLeast : Room := { frames := 4, cells := 0, slots := 0, locals := 102 }
set_option maxHeartbeats 4000000 in
set_option maxRecDepth 100000 in
theorem cS_atLeast (l : Launch) (E : eE) (ad : Nat → Nat) (q0_letters : TL) (q0_trial : TL) (q0_snapshot : TL) (q0_isSaved : Int32) (q0_past : TP) (q0_rows : TR) (q0_bags : TB) (q0_tally : TY) (q0_sizes : TZ) (q0_text : TT) (q0_line : TN) (q0_latestReason : Int32) (q0_latestDetail : Int32) (a1 : Int32) (a2 : Int32) (a3 : Int32) (r : Int32) (hf : fS_atLeast q0_letters q0_rows a1 a2 a3 = some r) : cP l E yX8_atLeast cX8_atLeast 5 (some .int) rmS_atLeast [.ref (ad 0), .int a1, .int a2, .int a3] (wS E ad q0_letters q0_trial q0_snapshot q0_isSaved q0_past q0_rows q0_bags q0_tally q0_sizes q0_text q0_line q0_latestReason q0_latestDetail) (some (.int r)) := by
  refine Met.ofW (cc := cX8_atLeast) (maxL := 5) (ret := (some .int)) (by decide) rfl ?_
  intro p e s m args below meth c s₁ B hml hv
  obtain ⟨hargs, hP, hK⟩ := hv
  have hx := B.exec
  have hb := B.bytes
  have hr := B.returns
  have hts := atoms_spec (ws := ws_ yX8_atLeast cX8_atLeast 5 (some .int)) B.pre
  have hta : ∀ w ∈ lw_all, w.before args s = true := fun w h => hts w (List.mem_cons_of_mem _ h)
  have hown : s.vm.findClass RX8 = some m.cls := findClass_of_methodNamed B.named
  have hlocks := B.notSynchronized
  have hC : Cx p s m args c cX8_atLeast 5 RX8 E := ⟨hx, hb, hml, hown, hta, hK⟩
  obtain ⟨ls, he, hl⟩ := entry_ (m := m) (n := 5) hargs (Nat.le_of_ble_eq_true rfl)
  rw [he]
  have hl : lv_has ls 5 [(0, .ref (ad 0)), (1, .int a1), (2, .int a2), (3, .int a3)] := hl
  show W p l e rmS_atLeast s m args below meth c s.heap [] 0 0 (MQ below (qP (some .int) (some (.int r))) args s 0 0 (fun _ => False)) (F0 m 0 ls [])
  rw [fS_atLeast] at hf
  refine lv_aload_n hx hb dX8_atLeast_0 rfl (lv_at hl 0 rfl) ?_
  refine lv_iload_n hx hb dX8_atLeast_1 rfl (lv_at hl 1 rfl) ?_
  refine lv_iload_n hx hb dX8_atLeast_2 rfl (lv_at hl 2 rfl) ?_
  refine k_PVi hC LX8_169 ⟨Nat.le_of_ble_eq_true rfl, Nat.le_of_ble_eq_true rfl⟩ ⟨Nat.zero_le _, Nat.zero_le _⟩ (cS_isPart l E ad q0_letters q0_trial q0_snapshot q0_isSaved q0_past q0_rows q0_bags q0_tally q0_sizes q0_text q0_line q0_latestReason q0_latestDetail a1 a2 _ rfl) rfl rfl hP rfl rfl hl.1 rfl (Nat.le_of_ble_eq_true rfl) rfl dX8_atLeast_3 (fun hz3 => ?_)
  refine lv_if_ne (tgt := 12) hx hb dX8_atLeast_6 (by decide) (fun c1 => ?_) (fun c1 => ?_)
  · have hf := ite_f hf c1
    refine lv_iload_n hx hb dX8_atLeast_12 rfl (lv_at hl 3 rfl) ?_
    refine k_PSi hC LX8_71 ⟨Nat.le_of_ble_eq_true rfl, Nat.le_of_ble_eq_true rfl⟩ ⟨Nat.zero_le _, Nat.zero_le _⟩ (cS_isWeight l E a3 _ rfl) rfl rfl (vP_nil) hl.1 rfl (Nat.le_of_ble_eq_true rfl) rfl dX8_atLeast_13 (fun hz13 => ?_)
    refine lv_if_ne (tgt := 22) hx hb dX8_atLeast_16 (by decide) (fun c2 => ?_) (fun c2 => ?_)
    · have hf := ite_f hf c2
      refine lv_aload_n hx hb dX8_atLeast_22 rfl (lv_at hl 0 rfl) ?_
      refine gX8_32 hC hP 0 rfl (v := .ref (ad 25)) rfl dX8_atLeast_23 ?_
      refine lv_iload_n hx hb dX8_atLeast_26 rfl (lv_at hl 1 rfl) ?_
      refine lv_iload_n hx hb dX8_atLeast_27 rfl (lv_at hl 2 rfl) ?_
      refine lv_iload_n hx hb dX8_atLeast_28 rfl (lv_at hl 3 rfl) ?_
      obtain ⟨t3, ht3, hf⟩ := ob hf
      refine k_PVi hC LX8_175 ⟨Nat.le_of_ble_eq_true rfl, Nat.le_of_ble_eq_true rfl⟩ ⟨Nat.zero_le _, Nat.zero_le _⟩ (cR_numberBelow l E (fun j => ad (25 + j)) q0_rows.1 q0_rows.2.1 q0_rows.2.2.1 q0_rows.2.2.2.1 q0_rows.2.2.2.2.1 q0_rows.2.2.2.2.2 a1 a2 a3 t3 ht3) rfl rfl (ss_rows hP) rfl rfl hl.1 rfl (Nat.le_of_ble_eq_true rfl) rfl dX8_atLeast_29 (fun hz29 => ?_)
      refine lv_istore (lv' := [(4, .int t3), (0, .ref (ad 0)), (1, .int a1), (2, .int a2), (3, .int a3)]) hx hb dX8_atLeast_32 hl (by decide) rfl (fun ls hl => ?_)
      refine lv_iload hx hb dX8_atLeast_34 (lv_at hl 0 rfl) ?_
      refine lv_iload_n hx hb dX8_atLeast_36 rfl (lv_at hl 3 rfl) ?_
      refine lv_iload_n hx hb dX8_atLeast_37 rfl (lv_at hl 2 rfl) ?_
      refine lv_isub hx hb dX8_atLeast_38 ?_
      refine lv_icmp_ge (tgt := 56) hx hb dX8_atLeast_39 (by decide) (fun c4 => ?_) (fun c4 => ?_)
      · have hf := ite_t hf c4
        refine lv_bipush (v := (-15)) hx hb dX8_atLeast_56 (by decide) ?_
        have hf := Option.some.inj hf
        exact e_Pi hC hr hlocks hf dX8_atLeast_58
      · have hf := ite_f hf c4
        refine lv_aload_n hx hb dX8_atLeast_42 rfl (lv_at hl 1 rfl) ?_
        refine gX8_32 hC hP 0 rfl (v := .ref (ad 25)) rfl dX8_atLeast_43 ?_
        refine lv_iload_n hx hb dX8_atLeast_46 rfl (lv_at hl 2 rfl) ?_
        refine lv_iload_n hx hb dX8_atLeast_47 rfl (lv_at hl 3 rfl) ?_
        refine lv_iload hx hb dX8_atLeast_48 (lv_at hl 0 rfl) ?_
        obtain ⟨t5, ht5, hf⟩ := ob hf
        refine k_PVi hC LX8_160 ⟨Nat.le_of_ble_eq_true rfl, Nat.le_of_ble_eq_true rfl⟩ ⟨Nat.zero_le _, Nat.zero_le _⟩ (cR_weightBySize l E (fun j => ad (25 + j)) q0_rows.1 q0_rows.2.1 q0_rows.2.2.1 q0_rows.2.2.2.1 q0_rows.2.2.2.2.1 q0_rows.2.2.2.2.2 a1 a2 t3 t5 ht5) rfl rfl (ss_rows hP) rfl rfl hl.1 rfl (Nat.le_of_ble_eq_true rfl) rfl dX8_atLeast_50 (fun hz50 => ?_)
        refine lv_goto (tgt := 58) hx hb dX8_atLeast_53 (by decide) ?_
        have hf := Option.some.inj hf
        exact e_Pi hC hr hlocks hf dX8_atLeast_58
    · have hf := ite_t hf c2
      refine lv_bipush (v := (-12)) hx hb dX8_atLeast_19 (by decide) ?_
      have hf := Option.some.inj hf
      exact e_Pi hC hr hlocks hf dX8_atLeast_21
  · have hf := ite_t hf c1
    refine lv_bipush (v := (-11)) hx hb dX8_atLeast_9 (by decide) ?_
    have hf := Option.some.inj hf
    exact e_Pi hC hr hlocks hf dX8_atLeast_11
abbrev rmS_find : Room := { frames := 5, cells := 0, slots := 0, locals := 122 }
set_option maxHeartbeats 4000000 in
set_option maxRecDepth 100000 in
theorem cS_find (l : Launch) (E : eE) (ad : Nat → Nat) (q0_letters : TL) (q0_trial : TL) (q0_snapshot : TL) (q0_isSaved : Int32) (q0_past : TP) (q0_rows : TR) (q0_bags : TB) (q0_tally : TY) (q0_sizes : TZ) (q0_text : TT) (q0_line : TN) (q0_latestReason : Int32) (q0_latestDetail : Int32) (a1 : Int32) (a2 : Int32) (r : Int32) (hf : fS_find q0_rows a1 a2 = some r) : cP l E yX8_find cX8_find 4 (some .int) rmS_find [.ref (ad 0), .int a1, .int a2] (wS E ad q0_letters q0_trial q0_snapshot q0_isSaved q0_past q0_rows q0_bags q0_tally q0_sizes q0_text q0_line q0_latestReason q0_latestDetail) (some (.int r)) := by
  refine Met.ofW (cc := cX8_find) (maxL := 4) (ret := (some .int)) (by decide) rfl ?_
  intro p e s m args below meth c s₁ B hml hv
  obtain ⟨hargs, hP, hK⟩ := hv
  have hx := B.exec
  have hb := B.bytes
  have hr := B.returns
  have hts := atoms_spec (ws := ws_ yX8_find cX8_find 4 (some .int)) B.pre
  have hta : ∀ w ∈ lw_all, w.before args s = true := fun w h => hts w (List.mem_cons_of_mem _ h)
  have hown : s.vm.findClass RX8 = some m.cls := findClass_of_methodNamed B.named
  have hlocks := B.notSynchronized
  have hC : Cx p s m args c cX8_find 4 RX8 E := ⟨hx, hb, hml, hown, hta, hK⟩
  obtain ⟨ls, he, hl⟩ := entry_ (m := m) (n := 4) hargs (Nat.le_of_ble_eq_true rfl)
  rw [he]
  have hl : lv_has ls 4 [(0, .ref (ad 0)), (1, .int a1), (2, .int a2)] := hl
  show W p l e rmS_find s m args below meth c s.heap [] 0 0 (MQ below (qP (some .int) (some (.int r))) args s 0 0 (fun _ => False)) (F0 m 0 ls [])
  rw [fS_find] at hf
  refine lv_iload_n hx hb dX8_find_0 rfl (lv_at hl 1 rfl) ?_
  refine k_PSi hC LX8_71 ⟨Nat.le_of_ble_eq_true rfl, Nat.le_of_ble_eq_true rfl⟩ ⟨Nat.zero_le _, Nat.zero_le _⟩ (cS_isWeight l E a1 _ rfl) rfl rfl (vP_nil) hl.1 rfl (Nat.le_of_ble_eq_true rfl) rfl dX8_find_1 (fun hz1 => ?_)
  refine lv_if_ne (tgt := 10) hx hb dX8_find_4 (by decide) (fun c1 => ?_) (fun c1 => ?_)
  · have hf := ite_f hf c1
    refine lv_aload_n hx hb dX8_find_10 rfl (lv_at hl 0 rfl) ?_
    refine gX8_32 hC hP 0 rfl (v := .ref (ad 25)) rfl dX8_find_11 ?_
    refine lv_iload_n hx hb dX8_find_14 rfl (lv_at hl 1 rfl) ?_
    refine lv_iload_n hx hb dX8_find_15 rfl (lv_at hl 2 rfl) ?_
    obtain ⟨t2, ht2, hf⟩ := ob hf
    refine k_PVi hC LX8_178 ⟨Nat.le_of_ble_eq_true rfl, Nat.le_of_ble_eq_true rfl⟩ ⟨Nat.zero_le _, Nat.zero_le _⟩ (cR_placeBack l E (fun j => ad (25 + j)) q0_rows.1 q0_rows.2.1 q0_rows.2.2.1 q0_rows.2.2.2.1 q0_rows.2.2.2.2.1 q0_rows.2.2.2.2.2 a1 a2 t2 ht2) rfl rfl (ss_rows hP) rfl rfl hl.1 rfl (Nat.le_of_ble_eq_true rfl) rfl dX8_find_16 (fun hz16 => ?_)
    refine lv_istore_n (lv' := [(3, .int t2), (0, .ref (ad 0)), (1, .int a1), (2, .int a2)]) hx hb dX8_find_19 rfl hl (by decide) rfl (fun ls hl => ?_)
    refine lv_iload_n hx hb dX8_find_20 rfl (lv_at hl 0 rfl) ?_
    refine lv_if_ge (tgt := 29) hx hb dX8_find_21 (by decide) (fun c3 => ?_) (fun c3 => ?_)
    · have hf := ite_t hf c3
      refine lv_iload_n hx hb dX8_find_29 rfl (lv_at hl 0 rfl) ?_
      have hf := Option.some.inj hf
      exact e_Pi hC hr hlocks hf dX8_find_30
    · have hf := ite_f hf c3
      refine lv_bipush (v := (-15)) hx hb dX8_find_24 (by decide) ?_
      refine lv_goto (tgt := 30) hx hb dX8_find_26 (by decide) ?_
      have hf := Option.some.inj hf
      exact e_Pi hC hr hlocks hf dX8_find_30
  · have hf := ite_t hf c1
    refine lv_bipush (v := (-12)) hx hb dX8_find_7 (by decide) ?_
    have hf := Option.some.inj hf
    exact e_Pi hC hr hlocks hf dX8_find_9
