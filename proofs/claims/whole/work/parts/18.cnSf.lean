abbrev rmS_isBalanced : Room := { frames := 5, cells := 0, slots := 0, locals := 124 }
set_option maxHeartbeats 4000000 in
set_option maxRecDepth 100000 in
theorem cS_isBalanced (l : Launch) (E : eE) (ad : Nat → Nat) (q0_letters : TL) (q0_trial : TL) (q0_snapshot : TL) (q0_isSaved : Int32) (q0_past : TP) (q0_rows : TR) (q0_bags : TB) (q0_tally : TY) (q0_sizes : TZ) (q0_text : TT) (q0_line : TN) (q0_latestReason : Int32) (q0_latestDetail : Int32) (t : Int32 × TZ) (hf : fS_isBalanced q0_letters q0_rows q0_bags q0_sizes = some t) : cW l E yX8_isBalanced cX8_isBalanced 2 (some .int) rmS_isBalanced [.ref (ad 0)] (wS E ad q0_letters q0_trial q0_snapshot q0_isSaved q0_past q0_rows q0_bags q0_tally q0_sizes q0_text q0_line q0_latestReason q0_latestDetail) (some (.int t.1)) (wS E ad q0_letters q0_trial q0_snapshot q0_isSaved q0_past q0_rows q0_bags q0_tally t.2 q0_text q0_line q0_latestReason q0_latestDetail) := by
  refine Met.ofW (cc := cX8_isBalanced) (maxL := 2) (ret := (some .int)) (by decide) rfl ?_
  intro p e s m args below meth c s₁ B hml hv
  obtain ⟨hargs, hP, hK, hD0⟩ := hv
  have hx := B.exec
  have hb := B.bytes
  have hr := B.returns
  have hts := atoms_spec (ws := ws_ yX8_isBalanced cX8_isBalanced 2 (some .int)) B.pre
  have hta : ∀ w ∈ lw_all, w.before args s = true := fun w h => hts w (List.mem_cons_of_mem _ h)
  have hown : s.vm.findClass RX8 = some m.cls := findClass_of_methodNamed B.named
  have hlocks := B.notSynchronized
  have hC : Cx p s m args c cX8_isBalanced 2 RX8 E := ⟨hx, hb, hml, hown, hta, hK⟩
  have hH : Hp E (adr (wS E ad q0_letters q0_trial q0_snapshot q0_isSaved q0_past q0_rows q0_bags q0_tally q0_sizes q0_text q0_line q0_latestReason q0_latestDetail)) (wS E ad q0_letters q0_trial q0_snapshot q0_isSaved q0_past q0_rows q0_bags q0_tally q0_sizes q0_text q0_line q0_latestReason q0_latestDetail) s.heap s.heap [] := Hp.start hP hD0
  obtain ⟨ls, he, hl⟩ := entry_ (m := m) (n := 2) hargs (Nat.le_of_ble_eq_true rfl)
  rw [he]
  have hl : lv_has ls 2 [(0, .ref (ad 0))] := hl
  show W p l e rmS_isBalanced s m args below meth c s.heap [] 0 0 (MQ below (qW E (some .int) (some (.int t.1)) (wS E ad q0_letters q0_trial q0_snapshot q0_isSaved q0_past q0_rows q0_bags q0_tally q0_sizes q0_text q0_line q0_latestReason q0_latestDetail) (wS E ad q0_letters q0_trial q0_snapshot q0_isSaved q0_past q0_rows q0_bags q0_tally t.2 q0_text q0_line q0_latestReason q0_latestDetail)) args s 0 0 (adr (wS E ad q0_letters q0_trial q0_snapshot q0_isSaved q0_past q0_rows q0_bags q0_tally q0_sizes q0_text q0_line q0_latestReason q0_latestDetail))) (F0 m 0 ls [])
  suffices hmain : ∀ (H : Heap) (locs : List Loc), Hp E (adr (wS E ad q0_letters q0_trial q0_snapshot q0_isSaved q0_past q0_rows q0_bags q0_tally q0_sizes q0_text q0_line q0_latestReason q0_latestDetail)) (wS E ad q0_letters q0_trial q0_snapshot q0_isSaved q0_past q0_rows q0_bags q0_tally q0_sizes q0_text q0_line q0_latestReason q0_latestDetail) s.heap H locs → W p l e rmS_isBalanced s m args below meth c H locs 0 0 (MQ below (qW E (some .int) (some (.int t.1)) (wS E ad q0_letters q0_trial q0_snapshot q0_isSaved q0_past q0_rows q0_bags q0_tally q0_sizes q0_text q0_line q0_latestReason q0_latestDetail) (wS E ad q0_letters q0_trial q0_snapshot q0_isSaved q0_past q0_rows q0_bags q0_tally t.2 q0_text q0_line q0_latestReason q0_latestDetail)) args s 0 0 (adr (wS E ad q0_letters q0_trial q0_snapshot q0_isSaved q0_past q0_rows q0_bags q0_tally q0_sizes q0_text q0_line q0_latestReason q0_latestDetail))) (F0 m 0 ls []) from hmain _ _ hH
  clear hH
  intro H locs hH
  rw [fS_isBalanced] at hf
  refine lv_aload_n hx hb dX8_isBalanced_0 rfl (lv_at hl 0 rfl) ?_
  refine gX8_10 hC hH.1 0 rfl (v := .ref (ad 1)) rfl dX8_isBalanced_1 ?_
  refine k_PVi hC LX8_87 ⟨Nat.le_of_ble_eq_true rfl, Nat.le_of_ble_eq_true rfl⟩ ⟨Nat.zero_le _, Nat.zero_le _⟩ (cL_size l E (fun j => ad (1 + j)) q0_letters.1 q0_letters.2.1 q0_letters.2.2.1 q0_letters.2.2.2.1 q0_letters.2.2.2.2.1 q0_letters.2.2.2.2.2 _ rfl) rfl rfl (ss_letters hH.1) rfl rfl hl.1 rfl (Nat.le_of_ble_eq_true rfl) rfl dX8_isBalanced_4 (fun hz4 => ?_)
  refine lv_aload_n hx hb dX8_isBalanced_7 rfl (lv_at hl 0 rfl) ?_
  refine gX8_10 hC hH.1 0 rfl (v := .ref (ad 1)) rfl dX8_isBalanced_8 ?_
  refine k_PVi hC LX8_248 ⟨Nat.le_of_ble_eq_true rfl, Nat.le_of_ble_eq_true rfl⟩ ⟨Nat.zero_le _, Nat.zero_le _⟩ (cL_came l E (fun j => ad (1 + j)) q0_letters.1 q0_letters.2.1 q0_letters.2.2.1 q0_letters.2.2.2.1 q0_letters.2.2.2.2.1 q0_letters.2.2.2.2.2 _ rfl) rfl rfl (ss_letters hH.1) rfl rfl hl.1 rfl (Nat.le_of_ble_eq_true rfl) rfl dX8_isBalanced_11 (fun hz11 => ?_)
  refine lv_aload_n hx hb dX8_isBalanced_14 rfl (lv_at hl 0 rfl) ?_
  refine gX8_10 hC hH.1 0 rfl (v := .ref (ad 1)) rfl dX8_isBalanced_15 ?_
  refine k_PVi hC LX8_251 ⟨Nat.le_of_ble_eq_true rfl, Nat.le_of_ble_eq_true rfl⟩ ⟨Nat.zero_le _, Nat.zero_le _⟩ (cL_left l E (fun j => ad (1 + j)) q0_letters.1 q0_letters.2.1 q0_letters.2.2.1 q0_letters.2.2.2.1 q0_letters.2.2.2.2.1 q0_letters.2.2.2.2.2 _ rfl) rfl rfl (ss_letters hH.1) rfl rfl hl.1 rfl (Nat.le_of_ble_eq_true rfl) rfl dX8_isBalanced_18 (fun hz18 => ?_)
  refine lv_isub hx hb dX8_isBalanced_21 ?_
  refine lv_icmp_ne (tgt := 64) hx hb dX8_isBalanced_22 (by decide) (fun c1 => ?_) (fun c1 => ?_)
  · have hf := ite_f hf c1
    refine lv_iconst (v := 0) hx hb dX8_isBalanced_64 (by decide) ?_
    refine lv_istore_n (lv' := [(1, .int (0 : Int32)), (0, .ref (ad 0))]) hx hb dX8_isBalanced_65 rfl hl (by decide) rfl (fun ls hl => ?_)
    refine lv_iload_n hx hb dX8_isBalanced_66 rfl (lv_at hl 0 rfl) ?_
    refine lv_if_eq (tgt := 74) hx hb dX8_isBalanced_67 (by decide) (fun _ => ?_) (fun c => absurd c (by decide))
    refine lv_iconst (v := 0) hx hb dX8_isBalanced_74 (by decide) ?_
    have hf := Option.some.inj hf
    subst hf
    exact e_Wi hC hH hr hlocks rfl rfl dX8_isBalanced_75
  · have hf := ite_t hf c1
    refine lv_aload_n hx hb dX8_isBalanced_25 rfl (lv_at hl 0 rfl) ?_
    obtain ⟨t2, ht2, hf⟩ := ob hf
    refine k_PVi hC LX8_261 ⟨Nat.le_of_ble_eq_true rfl, Nat.le_of_ble_eq_true rfl⟩ ⟨Nat.zero_le _, Nat.zero_le _⟩ (cS_areWeightsAlike l E ad q0_letters q0_trial q0_snapshot q0_isSaved q0_past q0_rows q0_bags q0_tally q0_sizes q0_text q0_line q0_latestReason q0_latestDetail t2 ht2) rfl rfl hH.1 rfl rfl hl.1 rfl (Nat.le_of_ble_eq_true rfl) rfl dX8_isBalanced_26 (fun hz26 => ?_)
    refine lv_if_eq (tgt := 64) hx hb dX8_isBalanced_29 (by decide) (fun c3 => ?_) (fun c3 => ?_)
    · have hf := ite_t hf c3
      refine lv_iconst (v := 0) hx hb dX8_isBalanced_64 (by decide) ?_
      refine lv_istore_n (lv' := [(1, .int (0 : Int32)), (0, .ref (ad 0))]) hx hb dX8_isBalanced_65 rfl hl (by decide) rfl (fun ls hl => ?_)
      refine lv_iload_n hx hb dX8_isBalanced_66 rfl (lv_at hl 0 rfl) ?_
      refine lv_if_eq (tgt := 74) hx hb dX8_isBalanced_67 (by decide) (fun _ => ?_) (fun c => absurd c (by decide))
      refine lv_iconst (v := 0) hx hb dX8_isBalanced_74 (by decide) ?_
      have hf := Option.some.inj hf
      subst hf
      exact e_Wi hC hH hr hlocks rfl rfl dX8_isBalanced_75
    · have hf := ite_f hf c3
      refine lv_aload_n hx hb dX8_isBalanced_32 rfl (lv_at hl 0 rfl) ?_
      obtain ⟨t4, ht4, hf⟩ := ob hf
      refine k_PVi hC LX8_264 ⟨Nat.le_of_ble_eq_true rfl, Nat.le_of_ble_eq_true rfl⟩ ⟨Nat.zero_le _, Nat.zero_le _⟩ (cS_areCountsAlike l E ad q0_letters q0_trial q0_snapshot q0_isSaved q0_past q0_rows q0_bags q0_tally q0_sizes q0_text q0_line q0_latestReason q0_latestDetail t4 ht4) rfl rfl hH.1 rfl rfl hl.1 rfl (Nat.le_of_ble_eq_true rfl) rfl dX8_isBalanced_33 (fun hz33 => ?_)
      refine lv_if_eq (tgt := 64) hx hb dX8_isBalanced_36 (by decide) (fun c5 => ?_) (fun c5 => ?_)
      · have hf := ite_t hf c5
        refine lv_iconst (v := 0) hx hb dX8_isBalanced_64 (by decide) ?_
        refine lv_istore_n (lv' := [(1, .int (0 : Int32)), (0, .ref (ad 0))]) hx hb dX8_isBalanced_65 rfl hl (by decide) rfl (fun ls hl => ?_)
        refine lv_iload_n hx hb dX8_isBalanced_66 rfl (lv_at hl 0 rfl) ?_
        refine lv_if_eq (tgt := 74) hx hb dX8_isBalanced_67 (by decide) (fun _ => ?_) (fun c => absurd c (by decide))
        refine lv_iconst (v := 0) hx hb dX8_isBalanced_74 (by decide) ?_
        have hf := Option.some.inj hf
        subst hf
        exact e_Wi hC hH hr hlocks rfl rfl dX8_isBalanced_75
      · have hf := ite_f hf c5
        refine lv_aload_n hx hb dX8_isBalanced_39 rfl (lv_at hl 0 rfl) ?_
        obtain ⟨t6, ht6, hf⟩ := ob hf
        refine k_WVsi hC LX8_267 ⟨Nat.le_of_ble_eq_true rfl, Nat.le_of_ble_eq_true rfl⟩ ⟨Nat.zero_le _, Nat.zero_le _⟩ (cS_areSizesAlike l E ad q0_letters q0_trial q0_snapshot q0_isSaved q0_past q0_rows q0_bags q0_tally q0_sizes q0_text q0_line q0_latestReason q0_latestDetail t6 ht6) rfl rfl hH rfl rfl rfl hl.1 rfl (Nat.le_of_ble_eq_true rfl) rfl dX8_isBalanced_40 (fun H locs hz40 hH => ?_)
        have hH : Hp E (adr (wS E ad q0_letters q0_trial q0_snapshot q0_isSaved q0_past q0_rows q0_bags q0_tally q0_sizes q0_text q0_line q0_latestReason q0_latestDetail)) (wS E ad q0_letters q0_trial q0_snapshot q0_isSaved q0_past q0_rows q0_bags q0_tally t6.2 q0_text q0_line q0_latestReason q0_latestDetail) s.heap H locs := hH
        refine lv_if_eq (tgt := 64) hx hb dX8_isBalanced_43 (by decide) (fun c7 => ?_) (fun c7 => ?_)
        · have hf := ite_t hf c7
          refine lv_iconst (v := 0) hx hb dX8_isBalanced_64 (by decide) ?_
          refine lv_istore_n (lv' := [(1, .int (0 : Int32)), (0, .ref (ad 0))]) hx hb dX8_isBalanced_65 rfl hl (by decide) rfl (fun ls hl => ?_)
          refine lv_iload_n hx hb dX8_isBalanced_66 rfl (lv_at hl 0 rfl) ?_
          refine lv_if_eq (tgt := 74) hx hb dX8_isBalanced_67 (by decide) (fun _ => ?_) (fun c => absurd c (by decide))
          refine lv_iconst (v := 0) hx hb dX8_isBalanced_74 (by decide) ?_
          have hf := Option.some.inj hf
          subst hf
          exact e_Wi hC hH hr hlocks rfl rfl dX8_isBalanced_75
        · have hf := ite_f hf c7
          refine lv_aload_n hx hb dX8_isBalanced_46 rfl (lv_at hl 0 rfl) ?_
          obtain ⟨t8, ht8, hf⟩ := ob hf
          refine k_PVi hC LX8_270 ⟨Nat.le_of_ble_eq_true rfl, Nat.le_of_ble_eq_true rfl⟩ ⟨Nat.zero_le _, Nat.zero_le _⟩ (cS_lettersOfBags l E ad q0_letters q0_trial q0_snapshot q0_isSaved q0_past q0_rows q0_bags q0_tally t6.2 q0_text q0_line q0_latestReason q0_latestDetail t8 ht8) rfl rfl hH.1 rfl rfl hl.1 rfl (Nat.le_of_ble_eq_true rfl) rfl dX8_isBalanced_47 (fun hz47 => ?_)
          refine lv_aload_n hx hb dX8_isBalanced_50 rfl (lv_at hl 0 rfl) ?_
          refine gX8_10 hC hH.1 0 rfl (v := .ref (ad 1)) rfl dX8_isBalanced_51 ?_
          refine k_PVi hC LX8_87 ⟨Nat.le_of_ble_eq_true rfl, Nat.le_of_ble_eq_true rfl⟩ ⟨Nat.zero_le _, Nat.zero_le _⟩ (cL_size l E (fun j => ad (1 + j)) q0_letters.1 q0_letters.2.1 q0_letters.2.2.1 q0_letters.2.2.2.1 q0_letters.2.2.2.2.1 q0_letters.2.2.2.2.2 _ rfl) rfl rfl (ss_letters hH.1) rfl rfl hl.1 rfl (Nat.le_of_ble_eq_true rfl) rfl dX8_isBalanced_54 (fun hz54 => ?_)
          refine lv_icmp_ne (tgt := 64) hx hb dX8_isBalanced_57 (by decide) (fun c9 => ?_) (fun c9 => ?_)
          · have hf := ite_f hf c9
            refine lv_iconst (v := 0) hx hb dX8_isBalanced_64 (by decide) ?_
            refine lv_istore_n (lv' := [(1, .int (0 : Int32)), (0, .ref (ad 0))]) hx hb dX8_isBalanced_65 rfl hl (by decide) rfl (fun ls hl => ?_)
            refine lv_iload_n hx hb dX8_isBalanced_66 rfl (lv_at hl 0 rfl) ?_
            refine lv_if_eq (tgt := 74) hx hb dX8_isBalanced_67 (by decide) (fun _ => ?_) (fun c => absurd c (by decide))
            refine lv_iconst (v := 0) hx hb dX8_isBalanced_74 (by decide) ?_
            have hf := Option.some.inj hf
            subst hf
            exact e_Wi hC hH hr hlocks rfl rfl dX8_isBalanced_75
          · have hf := ite_t hf c9
            refine lv_iconst (v := 1) hx hb dX8_isBalanced_60 (by decide) ?_
            refine lv_goto (tgt := 65) hx hb dX8_isBalanced_61 (by decide) ?_
            refine lv_istore_n (lv' := [(1, .int (1 : Int32)), (0, .ref (ad 0))]) hx hb dX8_isBalanced_65 rfl hl (by decide) rfl (fun ls hl => ?_)
            refine lv_iload_n hx hb dX8_isBalanced_66 rfl (lv_at hl 0 rfl) ?_
            refine lv_if_eq (tgt := 74) hx hb dX8_isBalanced_67 (by decide) (fun c => absurd c (by decide)) (fun _ => ?_)
            refine lv_iconst (v := 1) hx hb dX8_isBalanced_70 (by decide) ?_
            refine lv_goto (tgt := 75) hx hb dX8_isBalanced_71 (by decide) ?_
            have hf := Option.some.inj hf
            subst hf
            exact e_Wi hC hH hr hlocks rfl rfl dX8_isBalanced_75
abbrev rmS_meanWeight : Room := { frames := 2, cells := 0, slots := 0, locals := 43 }
set_option maxHeartbeats 4000000 in
set_option maxRecDepth 100000 in
theorem cS_meanWeight (l : Launch) (E : eE) (ad : Nat → Nat) (q0_letters : TL) (q0_trial : TL) (q0_snapshot : TL) (q0_isSaved : Int32) (q0_past : TP) (q0_rows : TR) (q0_bags : TB) (q0_tally : TY) (q0_sizes : TZ) (q0_text : TT) (q0_line : TN) (q0_latestReason : Int32) (q0_latestDetail : Int32) (r : UInt64) (hf : fS_meanWeight q0_letters = some r) : cP l E yX8_meanWeight cX8_meanWeight 2 (some .double) rmS_meanWeight [.ref (ad 0)] (wS E ad q0_letters q0_trial q0_snapshot q0_isSaved q0_past q0_rows q0_bags q0_tally q0_sizes q0_text q0_line q0_latestReason q0_latestDetail) (some (.double r)) := by
  refine Met.ofW (cc := cX8_meanWeight) (maxL := 2) (ret := (some .double)) (by decide) rfl ?_
  intro p e s m args below meth c s₁ B hml hv
  obtain ⟨hargs, hP, hK⟩ := hv
  have hx := B.exec
  have hb := B.bytes
  have hr := B.returns
  have hts := atoms_spec (ws := ws_ yX8_meanWeight cX8_meanWeight 2 (some .double)) B.pre
  have hta : ∀ w ∈ lw_all, w.before args s = true := fun w h => hts w (List.mem_cons_of_mem _ h)
  have hown : s.vm.findClass RX8 = some m.cls := findClass_of_methodNamed B.named
  have hlocks := B.notSynchronized
  have hC : Cx p s m args c cX8_meanWeight 2 RX8 E := ⟨hx, hb, hml, hown, hta, hK⟩
  obtain ⟨ls, he, hl⟩ := entry_ (m := m) (n := 2) hargs (Nat.le_of_ble_eq_true rfl)
  rw [he]
  have hl : lv_has ls 2 [(0, .ref (ad 0))] := hl
  show W p l e rmS_meanWeight s m args below meth c s.heap [] 0 0 (MQ below (qP (some .double) (some (.double r))) args s 0 0 (fun _ => False)) (F0 m 0 ls [])
  rw [fS_meanWeight] at hf
  refine lv_aload_n hx hb dX8_meanWeight_0 rfl (lv_at hl 0 rfl) ?_
  refine gX8_10 hC hP 0 rfl (v := .ref (ad 1)) rfl dX8_meanWeight_1 ?_
  refine k_PVi hC LX8_87 ⟨Nat.le_of_ble_eq_true rfl, Nat.le_of_ble_eq_true rfl⟩ ⟨Nat.zero_le _, Nat.zero_le _⟩ (cL_size l E (fun j => ad (1 + j)) q0_letters.1 q0_letters.2.1 q0_letters.2.2.1 q0_letters.2.2.2.1 q0_letters.2.2.2.2.1 q0_letters.2.2.2.2.2 _ rfl) rfl rfl (ss_letters hP) rfl rfl hl.1 rfl (Nat.le_of_ble_eq_true rfl) rfl dX8_meanWeight_4 (fun hz4 => ?_)
  refine lv_istore_n (lv' := [(1, .int (fL_size q0_letters.2.1)), (0, .ref (ad 0))]) hx hb dX8_meanWeight_7 rfl hl (by decide) rfl (fun ls hl => ?_)
  refine lv_iload_n hx hb dX8_meanWeight_8 rfl (lv_at hl 0 rfl) ?_
  refine lv_if_le (tgt := 26) hx hb dX8_meanWeight_9 (by decide) (fun c1 => ?_) (fun c1 => ?_)
  · have hf := ite_t hf c1
    refine lv_dconst0 hx hb dX8_meanWeight_26 ?_
    have hf := Option.some.inj hf
    exact e_Pd hC hr hlocks hf dX8_meanWeight_27
  · have hf := ite_f hf c1
    refine lv_aload_n hx hb dX8_meanWeight_12 rfl (lv_at hl 1 rfl) ?_
    refine gX8_10 hC hP 0 rfl (v := .ref (ad 1)) rfl dX8_meanWeight_13 ?_
    obtain ⟨t2, ht2, hf⟩ := ob hf
    refine k_PVi hC LX8_245 ⟨Nat.le_of_ble_eq_true rfl, Nat.le_of_ble_eq_true rfl⟩ ⟨Nat.zero_le _, Nat.zero_le _⟩ (cL_total l E (fun j => ad (1 + j)) q0_letters.1 q0_letters.2.1 q0_letters.2.2.1 q0_letters.2.2.2.1 q0_letters.2.2.2.2.1 q0_letters.2.2.2.2.2 t2 ht2) rfl rfl (ss_letters hP) rfl rfl hl.1 rfl (Nat.le_of_ble_eq_true rfl) rfl dX8_meanWeight_16 (fun hz16 => ?_)
    refine lv_i2d hx hb dX8_meanWeight_19 ?_
    refine lv_iload_n hx hb dX8_meanWeight_20 rfl (lv_at hl 0 rfl) ?_
    refine lv_i2d hx hb dX8_meanWeight_21 ?_
    obtain ⟨w3, hw3, hf⟩ := ob hf
    obtain ⟨hw3a, hw3b⟩ := dvD_ok hw3
    refine lv_ddiv hx hb dX8_meanWeight_22 hw3a ?_
    rw [hw3b]
    refine lv_goto (tgt := 27) hx hb dX8_meanWeight_23 (by decide) ?_
    have hf := Option.some.inj hf
    exact e_Pd hC hr hlocks hf dX8_meanWeight_27
abbrev rmS_oneShare : Room := { frames := 3, cells := 0, slots := 0, locals := 62 }
set_option maxHeartbeats 4000000 in
set_option maxRecDepth 100000 in
theorem cS_oneShare (l : Launch) (E : eE) (ad : Nat → Nat) (q0_letters : TL) (q0_trial : TL) (q0_snapshot : TL) (q0_isSaved : Int32) (q0_past : TP) (q0_rows : TR) (q0_bags : TB) (q0_tally : TY) (q0_sizes : TZ) (q0_text : TT) (q0_line : TN) (q0_latestReason : Int32) (q0_latestDetail : Int32) (a1 : Int32) (r : UInt32) (hf : fS_oneShare q0_letters q0_rows a1 = some r) : cP l E yX8_oneShare cX8_oneShare 3 (some .float) rmS_oneShare [.ref (ad 0), .int a1] (wS E ad q0_letters q0_trial q0_snapshot q0_isSaved q0_past q0_rows q0_bags q0_tally q0_sizes q0_text q0_line q0_latestReason q0_latestDetail) (some (.float r)) := by
  refine Met.ofW (cc := cX8_oneShare) (maxL := 3) (ret := (some .float)) (by decide) rfl ?_
  intro p e s m args below meth c s₁ B hml hv
  obtain ⟨hargs, hP, hK⟩ := hv
  have hx := B.exec
  have hb := B.bytes
  have hr := B.returns
  have hts := atoms_spec (ws := ws_ yX8_oneShare cX8_oneShare 3 (some .float)) B.pre
  have hta : ∀ w ∈ lw_all, w.before args s = true := fun w h => hts w (List.mem_cons_of_mem _ h)
  have hown : s.vm.findClass RX8 = some m.cls := findClass_of_methodNamed B.named
  have hlocks := B.notSynchronized
  have hC : Cx p s m args c cX8_oneShare 3 RX8 E := ⟨hx, hb, hml, hown, hta, hK⟩
  obtain ⟨ls, he, hl⟩ := entry_ (m := m) (n := 3) hargs (Nat.le_of_ble_eq_true rfl)
  rw [he]
  have hl : lv_has ls 3 [(0, .ref (ad 0)), (1, .int a1)] := hl
  show W p l e rmS_oneShare s m args below meth c s.heap [] 0 0 (MQ below (qP (some .float) (some (.float r))) args s 0 0 (fun _ => False)) (F0 m 0 ls [])
  rw [fS_oneShare] at hf
  refine lv_aload_n hx hb dX8_oneShare_0 rfl (lv_at hl 0 rfl) ?_
  refine gX8_10 hC hP 0 rfl (v := .ref (ad 1)) rfl dX8_oneShare_1 ?_
  refine k_PVi hC LX8_87 ⟨Nat.le_of_ble_eq_true rfl, Nat.le_of_ble_eq_true rfl⟩ ⟨Nat.zero_le _, Nat.zero_le _⟩ (cL_size l E (fun j => ad (1 + j)) q0_letters.1 q0_letters.2.1 q0_letters.2.2.1 q0_letters.2.2.2.1 q0_letters.2.2.2.2.1 q0_letters.2.2.2.2.2 _ rfl) rfl rfl (ss_letters hP) rfl rfl hl.1 rfl (Nat.le_of_ble_eq_true rfl) rfl dX8_oneShare_4 (fun hz4 => ?_)
  refine lv_istore_n (lv' := [(2, .int (fL_size q0_letters.2.1)), (0, .ref (ad 0)), (1, .int a1)]) hx hb dX8_oneShare_7 rfl hl (by decide) rfl (fun ls hl => ?_)
  refine lv_iload_n hx hb dX8_oneShare_8 rfl (lv_at hl 2 rfl) ?_
  refine k_PSi hC LX8_130 ⟨Nat.le_of_ble_eq_true rfl, Nat.le_of_ble_eq_true rfl⟩ ⟨Nat.zero_le _, Nat.zero_le _⟩ (cS_isRow l E a1 _ rfl) rfl rfl (vP_nil) hl.1 rfl (Nat.le_of_ble_eq_true rfl) rfl dX8_oneShare_9 (fun hz9 => ?_)
  refine lv_if_eq (tgt := 34) hx hb dX8_oneShare_12 (by decide) (fun c1 => ?_) (fun c1 => ?_)
  · have hf := ite_t hf c1
    refine lv_fconst0 hx hb dX8_oneShare_34 ?_
    have hf := Option.some.inj hf
    exact e_Pf hC hr hlocks hf dX8_oneShare_35
  · have hf := ite_f hf c1
    refine lv_iload_n hx hb dX8_oneShare_15 rfl (lv_at hl 0 rfl) ?_
    refine lv_if_le (tgt := 34) hx hb dX8_oneShare_16 (by decide) (fun c2 => ?_) (fun c2 => ?_)
    · have hf := ite_t hf c2
      refine lv_fconst0 hx hb dX8_oneShare_34 ?_
      have hf := Option.some.inj hf
      exact e_Pf hC hr hlocks hf dX8_oneShare_35
    · have hf := ite_f hf c2
      refine lv_aload_n hx hb dX8_oneShare_19 rfl (lv_at hl 1 rfl) ?_
      refine gX8_32 hC hP 0 rfl (v := .ref (ad 25)) rfl dX8_oneShare_20 ?_
      refine lv_iload_n hx hb dX8_oneShare_23 rfl (lv_at hl 2 rfl) ?_
      obtain ⟨t3, ht3, hf⟩ := ob hf
      refine k_PVi hC LX8_273 ⟨Nat.le_of_ble_eq_true rfl, Nat.le_of_ble_eq_true rfl⟩ ⟨Nat.zero_le _, Nat.zero_le _⟩ (cR_onesOf l E (fun j => ad (25 + j)) q0_rows.1 q0_rows.2.1 q0_rows.2.2.1 q0_rows.2.2.2.1 q0_rows.2.2.2.2.1 q0_rows.2.2.2.2.2 a1 t3 ht3) rfl rfl (ss_rows hP) rfl rfl hl.1 rfl (Nat.le_of_ble_eq_true rfl) rfl dX8_oneShare_24 (fun hz24 => ?_)
      refine lv_i2f hx hb dX8_oneShare_27 ?_
      refine lv_iload_n hx hb dX8_oneShare_28 rfl (lv_at hl 0 rfl) ?_
      refine lv_i2f hx hb dX8_oneShare_29 ?_
      obtain ⟨w4, hw4, hf⟩ := ob hf
      obtain ⟨hw4a, hw4b⟩ := dvF_ok hw4
      refine lv_fdiv hx hb dX8_oneShare_30 hw4a ?_
      rw [hw4b]
      refine lv_goto (tgt := 35) hx hb dX8_oneShare_31 (by decide) ?_
      have hf := Option.some.inj hf
      exact e_Pf hC hr hlocks hf dX8_oneShare_35
abbrev rmS_undo : Room := { frames := 5, cells := 0, slots := 0, locals := 111 }
set_option maxHeartbeats 4000000 in
set_option maxRecDepth 100000 in
theorem cS_undo (l : Launch) (E : eE) (ad : Nat → Nat) (q0_letters : TL) (q0_trial : TL) (q0_snapshot : TL) (q0_isSaved : Int32) (q0_past : TP) (q0_rows : TR) (q0_bags : TB) (q0_tally : TY) (q0_sizes : TZ) (q0_text : TT) (q0_line : TN) (q0_latestReason : Int32) (q0_latestDetail : Int32) (t : Int32 × TL × TP × TR × TB) (hf : fS_undo q0_letters q0_past q0_rows q0_bags = some t) : cW l E yX8_undo cX8_undo 1 (some .int) rmS_undo [.ref (ad 0)] (wS E ad q0_letters q0_trial q0_snapshot q0_isSaved q0_past q0_rows q0_bags q0_tally q0_sizes q0_text q0_line q0_latestReason q0_latestDetail) (some (.int t.1)) (wS E ad t.2.1 q0_trial q0_snapshot q0_isSaved t.2.2.1 t.2.2.2.1 t.2.2.2.2 q0_tally q0_sizes q0_text q0_line q0_latestReason q0_latestDetail) := by
  refine Met.ofW (cc := cX8_undo) (maxL := 1) (ret := (some .int)) (by decide) rfl ?_
  intro p e s m args below meth c s₁ B hml hv
  obtain ⟨hargs, hP, hK, hD0⟩ := hv
  have hx := B.exec
  have hb := B.bytes
  have hr := B.returns
  have hts := atoms_spec (ws := ws_ yX8_undo cX8_undo 1 (some .int)) B.pre
  have hta : ∀ w ∈ lw_all, w.before args s = true := fun w h => hts w (List.mem_cons_of_mem _ h)
  have hown : s.vm.findClass RX8 = some m.cls := findClass_of_methodNamed B.named
  have hlocks := B.notSynchronized
  have hC : Cx p s m args c cX8_undo 1 RX8 E := ⟨hx, hb, hml, hown, hta, hK⟩
  have hH : Hp E (adr (wS E ad q0_letters q0_trial q0_snapshot q0_isSaved q0_past q0_rows q0_bags q0_tally q0_sizes q0_text q0_line q0_latestReason q0_latestDetail)) (wS E ad q0_letters q0_trial q0_snapshot q0_isSaved q0_past q0_rows q0_bags q0_tally q0_sizes q0_text q0_line q0_latestReason q0_latestDetail) s.heap s.heap [] := Hp.start hP hD0
  obtain ⟨ls, he, hl⟩ := entry_ (m := m) (n := 1) hargs (Nat.le_of_ble_eq_true rfl)
  rw [he]
  have hl : lv_has ls 1 [(0, .ref (ad 0))] := hl
  show W p l e rmS_undo s m args below meth c s.heap [] 0 0 (MQ below (qW E (some .int) (some (.int t.1)) (wS E ad q0_letters q0_trial q0_snapshot q0_isSaved q0_past q0_rows q0_bags q0_tally q0_sizes q0_text q0_line q0_latestReason q0_latestDetail) (wS E ad t.2.1 q0_trial q0_snapshot q0_isSaved t.2.2.1 t.2.2.2.1 t.2.2.2.2 q0_tally q0_sizes q0_text q0_line q0_latestReason q0_latestDetail)) args s 0 0 (adr (wS E ad q0_letters q0_trial q0_snapshot q0_isSaved q0_past q0_rows q0_bags q0_tally q0_sizes q0_text q0_line q0_latestReason q0_latestDetail))) (F0 m 0 ls [])
  suffices hmain : ∀ (H : Heap) (locs : List Loc), Hp E (adr (wS E ad q0_letters q0_trial q0_snapshot q0_isSaved q0_past q0_rows q0_bags q0_tally q0_sizes q0_text q0_line q0_latestReason q0_latestDetail)) (wS E ad q0_letters q0_trial q0_snapshot q0_isSaved q0_past q0_rows q0_bags q0_tally q0_sizes q0_text q0_line q0_latestReason q0_latestDetail) s.heap H locs → W p l e rmS_undo s m args below meth c H locs 0 0 (MQ below (qW E (some .int) (some (.int t.1)) (wS E ad q0_letters q0_trial q0_snapshot q0_isSaved q0_past q0_rows q0_bags q0_tally q0_sizes q0_text q0_line q0_latestReason q0_latestDetail) (wS E ad t.2.1 q0_trial q0_snapshot q0_isSaved t.2.2.1 t.2.2.2.1 t.2.2.2.2 q0_tally q0_sizes q0_text q0_line q0_latestReason q0_latestDetail)) args s 0 0 (adr (wS E ad q0_letters q0_trial q0_snapshot q0_isSaved q0_past q0_rows q0_bags q0_tally q0_sizes q0_text q0_line q0_latestReason q0_latestDetail))) (F0 m 0 ls []) from hmain _ _ hH
  clear hH
  intro H locs hH
  rw [fS_undo] at hf
  refine lv_aload_n hx hb dX8_undo_0 rfl (lv_at hl 0 rfl) ?_
  refine gX8_25 hC hH.1 0 rfl (v := .ref (ad 7)) rfl dX8_undo_1 ?_
  refine lv_aload_n hx hb dX8_undo_4 rfl (lv_at hl 0 rfl) ?_
  refine gX8_10 hC hH.1 0 rfl (v := .ref (ad 1)) rfl dX8_undo_5 ?_
  obtain ⟨t1, ht1, hf⟩ := ob hf
  refine k_WVpi hC LX8_276 ⟨Nat.le_of_ble_eq_true rfl, Nat.le_of_ble_eq_true rfl⟩ ⟨Nat.zero_le _, Nat.zero_le _⟩ (cP_giveBack l E (fun j => ad (7 + j)) q0_past.1 q0_past.2.1 q0_past.2.2 (fun j => ad (1 + j)) q0_letters.1 q0_letters.2.1 q0_letters.2.2.1 q0_letters.2.2.2.1 q0_letters.2.2.2.2.1 q0_letters.2.2.2.2.2 t1 ht1) rfl rfl hH (W1 := wS E ad (t1.2.2.1, t1.2.2.2.1, t1.2.2.2.2.1, t1.2.2.2.2.2.1, t1.2.2.2.2.2.2.1, t1.2.2.2.2.2.2.2) q0_trial q0_snapshot q0_isSaved (q0_past.1, q0_past.2.1, t1.2.1) q0_rows q0_bags q0_tally q0_sizes q0_text q0_line q0_latestReason q0_latestDetail) (sp_past_letters E ad q0_letters q0_trial q0_snapshot q0_isSaved q0_past q0_rows q0_bags q0_tally q0_sizes q0_text q0_line q0_latestReason q0_latestDetail) (sq_past_letters E ad q0_letters q0_trial q0_snapshot q0_isSaved q0_past q0_rows q0_bags q0_tally q0_sizes q0_text q0_line q0_latestReason q0_latestDetail q0_past.1 q0_past.2.1 t1.2.1 t1.2.2.1 t1.2.2.2.1 t1.2.2.2.2.1 t1.2.2.2.2.2.1 t1.2.2.2.2.2.2.1 t1.2.2.2.2.2.2.2) rfl rfl rfl hl.1 rfl (Nat.le_of_ble_eq_true rfl) rfl dX8_undo_8 (fun H locs hz8 hH => ?_)
  refine lv_if_ne (tgt := 17) hx hb dX8_undo_11 (by decide) (fun c2 => ?_) (fun c2 => ?_)
  · have hf := ite_f hf c2
    refine lv_aload_n hx hb dX8_undo_17 rfl (lv_at hl 0 rfl) ?_
    obtain ⟨t3, ht3, hf⟩ := ob hf
    refine k_WVsv hC LX8_95 ⟨Nat.le_of_ble_eq_true rfl, Nat.le_of_ble_eq_true rfl⟩ ⟨Nat.zero_le _, Nat.zero_le _⟩ (cS_follow l E ad (t1.2.2.1, t1.2.2.2.1, t1.2.2.2.2.1, t1.2.2.2.2.2.1, t1.2.2.2.2.2.2.1, t1.2.2.2.2.2.2.2) q0_trial q0_snapshot q0_isSaved (q0_past.1, q0_past.2.1, t1.2.1) q0_rows q0_bags q0_tally q0_sizes q0_text q0_line q0_latestReason q0_latestDetail t3 ht3) rfl rfl hH rfl rfl rfl hl.1 rfl (Nat.le_of_ble_eq_true rfl) rfl dX8_undo_18 (fun H locs hz18 hH => ?_)
    have hH : Hp E (adr (wS E ad q0_letters q0_trial q0_snapshot q0_isSaved q0_past q0_rows q0_bags q0_tally q0_sizes q0_text q0_line q0_latestReason q0_latestDetail)) (wS E ad (t1.2.2.1, t1.2.2.2.1, t1.2.2.2.2.1, t1.2.2.2.2.2.1, t1.2.2.2.2.2.2.1, t1.2.2.2.2.2.2.2) q0_trial q0_snapshot q0_isSaved (q0_past.1, q0_past.2.1, t1.2.1) t3.1 t3.2 q0_tally q0_sizes q0_text q0_line q0_latestReason q0_latestDetail) s.heap H locs := hH
    refine lv_aload_n hx hb dX8_undo_21 rfl (lv_at hl 0 rfl) ?_
    refine gX8_25 hC hH.1 0 rfl (v := .ref (ad 7)) rfl dX8_undo_22 ?_
    refine k_PVi hC LX8_260 ⟨Nat.le_of_ble_eq_true rfl, Nat.le_of_ble_eq_true rfl⟩ ⟨Nat.zero_le _, Nat.zero_le _⟩ (cP_size l E (fun j => ad (7 + j)) q0_past.1 q0_past.2.1 t1.2.1 _ rfl) rfl rfl (ss_past hH.1) rfl rfl hl.1 rfl (Nat.le_of_ble_eq_true rfl) rfl dX8_undo_25 (fun hz25 => ?_)
    have hf := Option.some.inj hf
    subst hf
    exact e_Wi hC hH hr hlocks rfl rfl dX8_undo_28
  · have hf := ite_t hf c2
    refine lv_bipush (v := (-15)) hx hb dX8_undo_14 (by decide) ?_
    have hf := Option.some.inj hf
    subst hf
    exact e_Wi hC hH hr hlocks rfl rfl dX8_undo_16
abbrev rmS_save : Room := { frames := 2, cells := 0, slots := 0, locals := 44 }
set_option maxHeartbeats 4000000 in
set_option maxRecDepth 100000 in
theorem cS_save (l : Launch) (E : eE) (ad : Nat → Nat) (q0_letters : TL) (q0_trial : TL) (q0_snapshot : TL) (q0_isSaved : Int32) (q0_past : TP) (q0_rows : TR) (q0_bags : TB) (q0_tally : TY) (q0_sizes : TZ) (q0_text : TT) (q0_line : TN) (q0_latestReason : Int32) (q0_latestDetail : Int32) (t : Int32 × TL × Int32) (hf : fS_save q0_letters q0_snapshot q0_isSaved = some t) : cW l E yX8_save cX8_save 1 (some .int) rmS_save [.ref (ad 0)] (wS E ad q0_letters q0_trial q0_snapshot q0_isSaved q0_past q0_rows q0_bags q0_tally q0_sizes q0_text q0_line q0_latestReason q0_latestDetail) (some (.int t.1)) (wS E ad q0_letters q0_trial t.2.1 t.2.2 q0_past q0_rows q0_bags q0_tally q0_sizes q0_text q0_line q0_latestReason q0_latestDetail) := by
  refine Met.ofW (cc := cX8_save) (maxL := 1) (ret := (some .int)) (by decide) rfl ?_
  intro p e s m args below meth c s₁ B hml hv
  obtain ⟨hargs, hP, hK, hD0⟩ := hv
  have hx := B.exec
  have hb := B.bytes
  have hr := B.returns
  have hts := atoms_spec (ws := ws_ yX8_save cX8_save 1 (some .int)) B.pre
  have hta : ∀ w ∈ lw_all, w.before args s = true := fun w h => hts w (List.mem_cons_of_mem _ h)
  have hown : s.vm.findClass RX8 = some m.cls := findClass_of_methodNamed B.named
  have hlocks := B.notSynchronized
  have hC : Cx p s m args c cX8_save 1 RX8 E := ⟨hx, hb, hml, hown, hta, hK⟩
  have hH : Hp E (adr (wS E ad q0_letters q0_trial q0_snapshot q0_isSaved q0_past q0_rows q0_bags q0_tally q0_sizes q0_text q0_line q0_latestReason q0_latestDetail)) (wS E ad q0_letters q0_trial q0_snapshot q0_isSaved q0_past q0_rows q0_bags q0_tally q0_sizes q0_text q0_line q0_latestReason q0_latestDetail) s.heap s.heap [] := Hp.start hP hD0
  obtain ⟨ls, he, hl⟩ := entry_ (m := m) (n := 1) hargs (Nat.le_of_ble_eq_true rfl)
  rw [he]
  have hl : lv_has ls 1 [(0, .ref (ad 0))] := hl
  show W p l e rmS_save s m args below meth c s.heap [] 0 0 (MQ below (qW E (some .int) (some (.int t.1)) (wS E ad q0_letters q0_trial q0_snapshot q0_isSaved q0_past q0_rows q0_bags q0_tally q0_sizes q0_text q0_line q0_latestReason q0_latestDetail) (wS E ad q0_letters q0_trial t.2.1 t.2.2 q0_past q0_rows q0_bags q0_tally q0_sizes q0_text q0_line q0_latestReason q0_latestDetail)) args s 0 0 (adr (wS E ad q0_letters q0_trial q0_snapshot q0_isSaved q0_past q0_rows q0_bags q0_tally q0_sizes q0_text q0_line q0_latestReason q0_latestDetail))) (F0 m 0 ls [])
  suffices hmain : ∀ (H : Heap) (locs : List Loc), Hp E (adr (wS E ad q0_letters q0_trial q0_snapshot q0_isSaved q0_past q0_rows q0_bags q0_tally q0_sizes q0_text q0_line q0_latestReason q0_latestDetail)) (wS E ad q0_letters q0_trial q0_snapshot q0_isSaved q0_past q0_rows q0_bags q0_tally q0_sizes q0_text q0_line q0_latestReason q0_latestDetail) s.heap H locs → W p l e rmS_save s m args below meth c H locs 0 0 (MQ below (qW E (some .int) (some (.int t.1)) (wS E ad q0_letters q0_trial q0_snapshot q0_isSaved q0_past q0_rows q0_bags q0_tally q0_sizes q0_text q0_line q0_latestReason q0_latestDetail) (wS E ad q0_letters q0_trial t.2.1 t.2.2 q0_past q0_rows q0_bags q0_tally q0_sizes q0_text q0_line q0_latestReason q0_latestDetail)) args s 0 0 (adr (wS E ad q0_letters q0_trial q0_snapshot q0_isSaved q0_past q0_rows q0_bags q0_tally q0_sizes q0_text q0_line q0_latestReason q0_latestDetail))) (F0 m 0 ls []) from hmain _ _ hH
  clear hH
  intro H locs hH
  rw [fS_save] at hf
  refine lv_aload_n hx hb dX8_save_0 rfl (lv_at hl 0 rfl) ?_
  refine gX8_19 hC hH.1 0 rfl (v := .ref (ad 5)) rfl dX8_save_1 ?_
  refine lv_aload_n hx hb dX8_save_4 rfl (lv_at hl 0 rfl) ?_
  refine gX8_10 hC hH.1 0 rfl (v := .ref (ad 1)) rfl dX8_save_5 ?_
  obtain ⟨t1, ht1, hf⟩ := ob hf
  refine k_WVpv hC LX8_221 ⟨Nat.le_of_ble_eq_true rfl, Nat.le_of_ble_eq_true rfl⟩ ⟨Nat.zero_le _, Nat.zero_le _⟩ (cL_becomeLike l E (fun j => ad (5 + j)) q0_snapshot.1 q0_snapshot.2.1 q0_snapshot.2.2.1 q0_snapshot.2.2.2.1 q0_snapshot.2.2.2.2.1 q0_snapshot.2.2.2.2.2 (fun j => ad (1 + j)) q0_letters.1 q0_letters.2.1 q0_letters.2.2.1 q0_letters.2.2.2.1 q0_letters.2.2.2.2.1 q0_letters.2.2.2.2.2 t1 ht1) rfl rfl hH (W1 := wS E ad q0_letters q0_trial (t1.1, t1.2.1, t1.2.2.1, t1.2.2.2.1, t1.2.2.2.2.1, t1.2.2.2.2.2) q0_isSaved q0_past q0_rows q0_bags q0_tally q0_sizes q0_text q0_line q0_latestReason q0_latestDetail) (sp_snapshot_letters E ad q0_letters q0_trial q0_snapshot q0_isSaved q0_past q0_rows q0_bags q0_tally q0_sizes q0_text q0_line q0_latestReason q0_latestDetail) (sq_snapshot_letters E ad q0_letters q0_trial q0_snapshot q0_isSaved q0_past q0_rows q0_bags q0_tally q0_sizes q0_text q0_line q0_latestReason q0_latestDetail t1.1 t1.2.1 t1.2.2.1 t1.2.2.2.1 t1.2.2.2.2.1 t1.2.2.2.2.2 q0_letters.1 q0_letters.2.1 q0_letters.2.2.1 q0_letters.2.2.2.1 q0_letters.2.2.2.2.1 q0_letters.2.2.2.2.2) rfl rfl rfl hl.1 rfl (Nat.le_of_ble_eq_true rfl) rfl dX8_save_8 (fun H locs hz8 hH => ?_)
  refine lv_aload_n hx hb dX8_save_11 rfl (lv_at hl 0 rfl) ?_
  refine lv_iconst (v := 1) hx hb dX8_save_12 (by decide) ?_
  refine pX8_280 hC hH 0 rfl (v := .int (1 : Int32)) rfl rfl (Nat.le_of_ble_eq_true rfl) (W1 := wS E ad q0_letters q0_trial (t1.1, t1.2.1, t1.2.2.1, t1.2.2.2.1, t1.2.2.2.2.1, t1.2.2.2.2.2) (1 : Int32) q0_past q0_rows q0_bags q0_tally q0_sizes q0_text q0_line q0_latestReason q0_latestDetail) rfl dX8_save_13 (fun H locs hH => ?_)
  refine lv_aload_n hx hb dX8_save_16 rfl (lv_at hl 0 rfl) ?_
  refine gX8_10 hC hH.1 0 rfl (v := .ref (ad 1)) rfl dX8_save_17 ?_
  refine k_PVi hC LX8_87 ⟨Nat.le_of_ble_eq_true rfl, Nat.le_of_ble_eq_true rfl⟩ ⟨Nat.zero_le _, Nat.zero_le _⟩ (cL_size l E (fun j => ad (1 + j)) q0_letters.1 q0_letters.2.1 q0_letters.2.2.1 q0_letters.2.2.2.1 q0_letters.2.2.2.2.1 q0_letters.2.2.2.2.2 _ rfl) rfl rfl (ss_letters hH.1) rfl rfl hl.1 rfl (Nat.le_of_ble_eq_true rfl) rfl dX8_save_20 (fun hz20 => ?_)
  have hf := Option.some.inj hf
  subst hf
  exact e_Wi hC hH hr hlocks rfl rfl dX8_save_23
abbrev rmS_restore : Room := { frames := 5, cells := 0, slots := 0, locals := 111 }
set_option maxHeartbeats 4000000 in
set_option maxRecDepth 100000 in
theorem cS_restore (l : Launch) (E : eE) (ad : Nat → Nat) (q0_letters : TL) (q0_trial : TL) (q0_snapshot : TL) (q0_isSaved : Int32) (q0_past : TP) (q0_rows : TR) (q0_bags : TB) (q0_tally : TY) (q0_sizes : TZ) (q0_text : TT) (q0_line : TN) (q0_latestReason : Int32) (q0_latestDetail : Int32) (t : Int32 × TL × TP × TR × TB) (hf : fS_restore q0_letters q0_snapshot q0_isSaved q0_past q0_rows q0_bags = some t) : cW l E yX8_restore cX8_restore 1 (some .int) rmS_restore [.ref (ad 0)] (wS E ad q0_letters q0_trial q0_snapshot q0_isSaved q0_past q0_rows q0_bags q0_tally q0_sizes q0_text q0_line q0_latestReason q0_latestDetail) (some (.int t.1)) (wS E ad t.2.1 q0_trial q0_snapshot q0_isSaved t.2.2.1 t.2.2.2.1 t.2.2.2.2 q0_tally q0_sizes q0_text q0_line q0_latestReason q0_latestDetail) := by
  refine Met.ofW (cc := cX8_restore) (maxL := 1) (ret := (some .int)) (by decide) rfl ?_
  intro p e s m args below meth c s₁ B hml hv
  obtain ⟨hargs, hP, hK, hD0⟩ := hv
  have hx := B.exec
  have hb := B.bytes
  have hr := B.returns
  have hts := atoms_spec (ws := ws_ yX8_restore cX8_restore 1 (some .int)) B.pre
  have hta : ∀ w ∈ lw_all, w.before args s = true := fun w h => hts w (List.mem_cons_of_mem _ h)
  have hown : s.vm.findClass RX8 = some m.cls := findClass_of_methodNamed B.named
  have hlocks := B.notSynchronized
  have hC : Cx p s m args c cX8_restore 1 RX8 E := ⟨hx, hb, hml, hown, hta, hK⟩
  have hH : Hp E (adr (wS E ad q0_letters q0_trial q0_snapshot q0_isSaved q0_past q0_rows q0_bags q0_tally q0_sizes q0_text q0_line q0_latestReason q0_latestDetail)) (wS E ad q0_letters q0_trial q0_snapshot q0_isSaved q0_past q0_rows q0_bags q0_tally q0_sizes q0_text q0_line q0_latestReason q0_latestDetail) s.heap s.heap [] := Hp.start hP hD0
  obtain ⟨ls, he, hl⟩ := entry_ (m := m) (n := 1) hargs (Nat.le_of_ble_eq_true rfl)
  rw [he]
  have hl : lv_has ls 1 [(0, .ref (ad 0))] := hl
  show W p l e rmS_restore s m args below meth c s.heap [] 0 0 (MQ below (qW E (some .int) (some (.int t.1)) (wS E ad q0_letters q0_trial q0_snapshot q0_isSaved q0_past q0_rows q0_bags q0_tally q0_sizes q0_text q0_line q0_latestReason q0_latestDetail) (wS E ad t.2.1 q0_trial q0_snapshot q0_isSaved t.2.2.1 t.2.2.2.1 t.2.2.2.2 q0_tally q0_sizes q0_text q0_line q0_latestReason q0_latestDetail)) args s 0 0 (adr (wS E ad q0_letters q0_trial q0_snapshot q0_isSaved q0_past q0_rows q0_bags q0_tally q0_sizes q0_text q0_line q0_latestReason q0_latestDetail))) (F0 m 0 ls [])
  suffices hmain : ∀ (H : Heap) (locs : List Loc), Hp E (adr (wS E ad q0_letters q0_trial q0_snapshot q0_isSaved q0_past q0_rows q0_bags q0_tally q0_sizes q0_text q0_line q0_latestReason q0_latestDetail)) (wS E ad q0_letters q0_trial q0_snapshot q0_isSaved q0_past q0_rows q0_bags q0_tally q0_sizes q0_text q0_line q0_latestReason q0_latestDetail) s.heap H locs → W p l e rmS_restore s m args below meth c H locs 0 0 (MQ below (qW E (some .int) (some (.int t.1)) (wS E ad q0_letters q0_trial q0_snapshot q0_isSaved q0_past q0_rows q0_bags q0_tally q0_sizes q0_text q0_line q0_latestReason q0_latestDetail) (wS E ad t.2.1 q0_trial q0_snapshot q0_isSaved t.2.2.1 t.2.2.2.1 t.2.2.2.2 q0_tally q0_sizes q0_text q0_line q0_latestReason q0_latestDetail)) args s 0 0 (adr (wS E ad q0_letters q0_trial q0_snapshot q0_isSaved q0_past q0_rows q0_bags q0_tally q0_sizes q0_text q0_line q0_latestReason q0_latestDetail))) (F0 m 0 ls []) from hmain _ _ hH
  clear hH
  intro H locs hH
  rw [fS_restore] at hf
  refine lv_aload_n hx hb dX8_restore_0 rfl (lv_at hl 0 rfl) ?_
  refine gX8_280 hC hH.1 0 rfl (v := .int q0_isSaved) rfl dX8_restore_1 ?_
  refine lv_if_ne (tgt := 10) hx hb dX8_restore_4 (by decide) (fun c1 => ?_) (fun c1 => ?_)
  · have hf := ite_f hf c1
    refine lv_aload_n hx hb dX8_restore_10 rfl (lv_at hl 0 rfl) ?_
    refine gX8_10 hC hH.1 0 rfl (v := .ref (ad 1)) rfl dX8_restore_11 ?_
    refine lv_aload_n hx hb dX8_restore_14 rfl (lv_at hl 0 rfl) ?_
    refine gX8_19 hC hH.1 0 rfl (v := .ref (ad 5)) rfl dX8_restore_15 ?_
    obtain ⟨t2, ht2, hf⟩ := ob hf
    refine k_WVpv hC LX8_221 ⟨Nat.le_of_ble_eq_true rfl, Nat.le_of_ble_eq_true rfl⟩ ⟨Nat.zero_le _, Nat.zero_le _⟩ (cL_becomeLike l E (fun j => ad (1 + j)) q0_letters.1 q0_letters.2.1 q0_letters.2.2.1 q0_letters.2.2.2.1 q0_letters.2.2.2.2.1 q0_letters.2.2.2.2.2 (fun j => ad (5 + j)) q0_snapshot.1 q0_snapshot.2.1 q0_snapshot.2.2.1 q0_snapshot.2.2.2.1 q0_snapshot.2.2.2.2.1 q0_snapshot.2.2.2.2.2 t2 ht2) rfl rfl hH (W1 := wS E ad (t2.1, t2.2.1, t2.2.2.1, t2.2.2.2.1, t2.2.2.2.2.1, t2.2.2.2.2.2) q0_trial q0_snapshot q0_isSaved q0_past q0_rows q0_bags q0_tally q0_sizes q0_text q0_line q0_latestReason q0_latestDetail) (sp_letters_snapshot E ad q0_letters q0_trial q0_snapshot q0_isSaved q0_past q0_rows q0_bags q0_tally q0_sizes q0_text q0_line q0_latestReason q0_latestDetail) (sq_letters_snapshot E ad q0_letters q0_trial q0_snapshot q0_isSaved q0_past q0_rows q0_bags q0_tally q0_sizes q0_text q0_line q0_latestReason q0_latestDetail t2.1 t2.2.1 t2.2.2.1 t2.2.2.2.1 t2.2.2.2.2.1 t2.2.2.2.2.2 q0_snapshot.1 q0_snapshot.2.1 q0_snapshot.2.2.1 q0_snapshot.2.2.2.1 q0_snapshot.2.2.2.2.1 q0_snapshot.2.2.2.2.2) rfl rfl rfl hl.1 rfl (Nat.le_of_ble_eq_true rfl) rfl dX8_restore_18 (fun H locs hz18 hH => ?_)
    refine lv_aload_n hx hb dX8_restore_21 rfl (lv_at hl 0 rfl) ?_
    refine gX8_25 hC hH.1 0 rfl (v := .ref (ad 7)) rfl dX8_restore_22 ?_
    obtain ⟨t3, ht3, hf⟩ := ob hf
    refine k_WVpv hC LX8_284 ⟨Nat.le_of_ble_eq_true rfl, Nat.le_of_ble_eq_true rfl⟩ ⟨Nat.zero_le _, Nat.zero_le _⟩ (cP_forget l E (fun j => ad (7 + j)) q0_past.1 q0_past.2.1 q0_past.2.2 t3 ht3) rfl rfl hH (W1 := wS E ad (t2.1, t2.2.1, t2.2.2.1, t2.2.2.2.1, t2.2.2.2.2.1, t2.2.2.2.2.2) q0_trial q0_snapshot q0_isSaved (q0_past.1, q0_past.2.1, t3) q0_rows q0_bags q0_tally q0_sizes q0_text q0_line q0_latestReason q0_latestDetail) (sp_past E ad (t2.1, t2.2.1, t2.2.2.1, t2.2.2.2.1, t2.2.2.2.2.1, t2.2.2.2.2.2) q0_trial q0_snapshot q0_isSaved q0_past q0_rows q0_bags q0_tally q0_sizes q0_text q0_line q0_latestReason q0_latestDetail) (sq_past E ad (t2.1, t2.2.1, t2.2.2.1, t2.2.2.2.1, t2.2.2.2.2.1, t2.2.2.2.2.2) q0_trial q0_snapshot q0_isSaved q0_past q0_rows q0_bags q0_tally q0_sizes q0_text q0_line q0_latestReason q0_latestDetail q0_past.1 q0_past.2.1 t3) rfl rfl rfl hl.1 rfl (Nat.le_of_ble_eq_true rfl) rfl dX8_restore_25 (fun H locs hz25 hH => ?_)
    refine lv_aload_n hx hb dX8_restore_28 rfl (lv_at hl 0 rfl) ?_
    obtain ⟨t4, ht4, hf⟩ := ob hf
    refine k_WVsv hC LX8_95 ⟨Nat.le_of_ble_eq_true rfl, Nat.le_of_ble_eq_true rfl⟩ ⟨Nat.zero_le _, Nat.zero_le _⟩ (cS_follow l E ad (t2.1, t2.2.1, t2.2.2.1, t2.2.2.2.1, t2.2.2.2.2.1, t2.2.2.2.2.2) q0_trial q0_snapshot q0_isSaved (q0_past.1, q0_past.2.1, t3) q0_rows q0_bags q0_tally q0_sizes q0_text q0_line q0_latestReason q0_latestDetail t4 ht4) rfl rfl hH rfl rfl rfl hl.1 rfl (Nat.le_of_ble_eq_true rfl) rfl dX8_restore_29 (fun H locs hz29 hH => ?_)
    have hH : Hp E (adr (wS E ad q0_letters q0_trial q0_snapshot q0_isSaved q0_past q0_rows q0_bags q0_tally q0_sizes q0_text q0_line q0_latestReason q0_latestDetail)) (wS E ad (t2.1, t2.2.1, t2.2.2.1, t2.2.2.2.1, t2.2.2.2.2.1, t2.2.2.2.2.2) q0_trial q0_snapshot q0_isSaved (q0_past.1, q0_past.2.1, t3) t4.1 t4.2 q0_tally q0_sizes q0_text q0_line q0_latestReason q0_latestDetail) s.heap H locs := hH
    refine lv_aload_n hx hb dX8_restore_32 rfl (lv_at hl 0 rfl) ?_
    refine gX8_10 hC hH.1 0 rfl (v := .ref (ad 1)) rfl dX8_restore_33 ?_
    refine k_PVi hC LX8_87 ⟨Nat.le_of_ble_eq_true rfl, Nat.le_of_ble_eq_true rfl⟩ ⟨Nat.zero_le _, Nat.zero_le _⟩ (cL_size l E (fun j => ad (1 + j)) t2.1 t2.2.1 t2.2.2.1 t2.2.2.2.1 t2.2.2.2.2.1 t2.2.2.2.2.2 _ rfl) rfl rfl (ss_letters hH.1) rfl rfl hl.1 rfl (Nat.le_of_ble_eq_true rfl) rfl dX8_restore_36 (fun hz36 => ?_)
    have hf := Option.some.inj hf
    subst hf
    exact e_Wi hC hH hr hlocks rfl rfl dX8_restore_39
  · have hf := ite_t hf c1
    refine lv_bipush (v := (-15)) hx hb dX8_restore_7 (by decide) ?_
    have hf := Option.some.inj hf
    subst hf
    exact e_Wi hC hH hr hlocks rfl rfl dX8_restore_9
