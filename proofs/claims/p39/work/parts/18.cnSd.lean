abbrev rmS_common : Room := { frames := 2, cells := 0, slots := 0, locals := 46 }
set_option maxHeartbeats 4000000 in
set_option maxRecDepth 100000 in
theorem cS_common (l : Launch) (E : eE) (ad : Nat → Nat) (q0_letters : TL) (q0_trial : TL) (q0_snapshot : TL) (q0_isSaved : Int32) (q0_past : TP) (q0_rows : TR) (q0_bags : TB) (q0_tally : TY) (q0_sizes : TZ) (q0_text : TT) (q0_line : TN) (q0_latestReason : Int32) (q0_latestDetail : Int32) (a1 : Int32) (a2 : Int32) (a3 : Int32) (t : Int32 × TY) (hf : fS_common q0_letters q0_tally a1 a2 a3 = some t) : cW l E yX8_common cX8_common 5 (some .int) rmS_common [.ref (ad 0), .int a1, .int a2, .int a3] (wS E ad q0_letters q0_trial q0_snapshot q0_isSaved q0_past q0_rows q0_bags q0_tally q0_sizes q0_text q0_line q0_latestReason q0_latestDetail) (some (.int t.1)) (wS E ad q0_letters q0_trial q0_snapshot q0_isSaved q0_past q0_rows q0_bags t.2 q0_sizes q0_text q0_line q0_latestReason q0_latestDetail) := by
  refine Met.ofW (cc := cX8_common) (maxL := 5) (ret := (some .int)) (by decide) rfl ?_
  intro p e s m args below meth c s₁ B hml hv
  obtain ⟨hargs, hP, hK, hD0⟩ := hv
  have hx := B.exec
  have hb := B.bytes
  have hr := B.returns
  have hts := atoms_spec (ws := ws_ yX8_common cX8_common 5 (some .int)) B.pre
  have hta : ∀ w ∈ lw_all, w.before args s = true := fun w h => hts w (List.mem_cons_of_mem _ h)
  have hown : s.vm.findClass RX8 = some m.cls := findClass_of_methodNamed B.named
  have hlocks := B.notSynchronized
  have hC : Cx p s m args c cX8_common 5 RX8 E := ⟨hx, hb, hml, hown, hta, hK⟩
  have hH : Hp E (adr (wS E ad q0_letters q0_trial q0_snapshot q0_isSaved q0_past q0_rows q0_bags q0_tally q0_sizes q0_text q0_line q0_latestReason q0_latestDetail)) (wS E ad q0_letters q0_trial q0_snapshot q0_isSaved q0_past q0_rows q0_bags q0_tally q0_sizes q0_text q0_line q0_latestReason q0_latestDetail) s.heap s.heap [] := Hp.start hP hD0
  obtain ⟨ls, he, hl⟩ := entry_ (m := m) (n := 5) hargs (Nat.le_of_ble_eq_true rfl)
  rw [he]
  have hl : lv_has ls 5 [(0, .ref (ad 0)), (1, .int a1), (2, .int a2), (3, .int a3)] := hl
  show W p l e rmS_common s m args below meth c s.heap [] 0 0 (MQ below (qW E (some .int) (some (.int t.1)) (wS E ad q0_letters q0_trial q0_snapshot q0_isSaved q0_past q0_rows q0_bags q0_tally q0_sizes q0_text q0_line q0_latestReason q0_latestDetail) (wS E ad q0_letters q0_trial q0_snapshot q0_isSaved q0_past q0_rows q0_bags t.2 q0_sizes q0_text q0_line q0_latestReason q0_latestDetail)) args s 0 0 (adr (wS E ad q0_letters q0_trial q0_snapshot q0_isSaved q0_past q0_rows q0_bags q0_tally q0_sizes q0_text q0_line q0_latestReason q0_latestDetail))) (F0 m 0 ls [])
  suffices hmain : ∀ (H : Heap) (locs : List Loc), Hp E (adr (wS E ad q0_letters q0_trial q0_snapshot q0_isSaved q0_past q0_rows q0_bags q0_tally q0_sizes q0_text q0_line q0_latestReason q0_latestDetail)) (wS E ad q0_letters q0_trial q0_snapshot q0_isSaved q0_past q0_rows q0_bags q0_tally q0_sizes q0_text q0_line q0_latestReason q0_latestDetail) s.heap H locs → W p l e rmS_common s m args below meth c H locs 0 0 (MQ below (qW E (some .int) (some (.int t.1)) (wS E ad q0_letters q0_trial q0_snapshot q0_isSaved q0_past q0_rows q0_bags q0_tally q0_sizes q0_text q0_line q0_latestReason q0_latestDetail) (wS E ad q0_letters q0_trial q0_snapshot q0_isSaved q0_past q0_rows q0_bags t.2 q0_sizes q0_text q0_line q0_latestReason q0_latestDetail)) args s 0 0 (adr (wS E ad q0_letters q0_trial q0_snapshot q0_isSaved q0_past q0_rows q0_bags q0_tally q0_sizes q0_text q0_line q0_latestReason q0_latestDetail))) (F0 m 0 ls []) from hmain _ _ hH
  clear hH
  intro H locs hH
  rw [fS_common] at hf
  refine lv_aload_n hx hb dX8_common_0 rfl (lv_at hl 0 rfl) ?_
  refine lv_iload_n hx hb dX8_common_1 rfl (lv_at hl 1 rfl) ?_
  refine lv_iload_n hx hb dX8_common_2 rfl (lv_at hl 2 rfl) ?_
  refine k_PVi hC LX8_169 ⟨Nat.le_of_ble_eq_true rfl, Nat.le_of_ble_eq_true rfl⟩ ⟨Nat.zero_le _, Nat.zero_le _⟩ (cS_isPart l E ad q0_letters q0_trial q0_snapshot q0_isSaved q0_past q0_rows q0_bags q0_tally q0_sizes q0_text q0_line q0_latestReason q0_latestDetail a1 a2 _ rfl) rfl rfl hH.1 rfl rfl hl.1 rfl (Nat.le_of_ble_eq_true rfl) rfl dX8_common_3 (fun hz3 => ?_)
  refine lv_if_ne (tgt := 12) hx hb dX8_common_6 (by decide) (fun c1 => ?_) (fun c1 => ?_)
  · have hf := ite_f hf c1
    refine lv_aload_n hx hb dX8_common_12 rfl (lv_at hl 0 rfl) ?_
    refine gX8_46 hC hH.1 0 rfl (v := .ref (ad 39)) rfl dX8_common_13 ?_
    refine lv_aload_n hx hb dX8_common_16 rfl (lv_at hl 0 rfl) ?_
    refine gX8_10 hC hH.1 0 rfl (v := .ref (ad 1)) rfl dX8_common_17 ?_
    refine lv_iload_n hx hb dX8_common_20 rfl (lv_at hl 1 rfl) ?_
    refine lv_iload_n hx hb dX8_common_21 rfl (lv_at hl 2 rfl) ?_
    obtain ⟨t2, ht2, hf⟩ := ob hf
    refine k_WVpv hC LX8_181 ⟨Nat.le_of_ble_eq_true rfl, Nat.le_of_ble_eq_true rfl⟩ ⟨Nat.zero_le _, Nat.zero_le _⟩ (cY_fill l E (fun j => ad (39 + j)) q0_tally (fun j => ad (1 + j)) q0_letters.1 q0_letters.2.1 q0_letters.2.2.1 q0_letters.2.2.2.1 q0_letters.2.2.2.2.1 q0_letters.2.2.2.2.2 a1 a2 t2 ht2) rfl rfl hH (W1 := wS E ad q0_letters q0_trial q0_snapshot q0_isSaved q0_past q0_rows q0_bags t2 q0_sizes q0_text q0_line q0_latestReason q0_latestDetail) (sp_tally_letters E ad q0_letters q0_trial q0_snapshot q0_isSaved q0_past q0_rows q0_bags q0_tally q0_sizes q0_text q0_line q0_latestReason q0_latestDetail) (sq_tally_letters E ad q0_letters q0_trial q0_snapshot q0_isSaved q0_past q0_rows q0_bags q0_tally q0_sizes q0_text q0_line q0_latestReason q0_latestDetail t2 q0_letters.1 q0_letters.2.1 q0_letters.2.2.1 q0_letters.2.2.2.1 q0_letters.2.2.2.2.1 q0_letters.2.2.2.2.2) rfl rfl rfl hl.1 rfl (Nat.le_of_ble_eq_true rfl) rfl dX8_common_22 (fun H locs hz22 hH => ?_)
    refine lv_aload_n hx hb dX8_common_25 rfl (lv_at hl 0 rfl) ?_
    refine gX8_46 hC hH.1 0 rfl (v := .ref (ad 39)) rfl dX8_common_26 ?_
    refine lv_iload_n hx hb dX8_common_29 rfl (lv_at hl 3 rfl) ?_
    obtain ⟨t3, ht3, hf⟩ := ob hf
    refine k_PVi hC LX8_182 ⟨Nat.le_of_ble_eq_true rfl, Nat.le_of_ble_eq_true rfl⟩ ⟨Nat.zero_le _, Nat.zero_le _⟩ (cY_byNumber l E (fun j => ad (39 + j)) t2 a3 t3 ht3) rfl rfl (ss_tally hH.1) rfl rfl hl.1 rfl (Nat.le_of_ble_eq_true rfl) rfl dX8_common_30 (fun hz30 => ?_)
    refine lv_istore (lv' := [(4, .int t3), (0, .ref (ad 0)), (1, .int a1), (2, .int a2), (3, .int a3)]) hx hb dX8_common_33 hl (by decide) rfl (fun ls hl => ?_)
    refine lv_iload hx hb dX8_common_35 (lv_at hl 0 rfl) ?_
    refine lv_if_ge (tgt := 45) hx hb dX8_common_37 (by decide) (fun c4 => ?_) (fun c4 => ?_)
    · have hf := ite_t hf c4
      refine lv_iload hx hb dX8_common_45 (lv_at hl 0 rfl) ?_
      have hf := Option.some.inj hf
      subst hf
      exact e_Wi hC hH hr hlocks rfl rfl dX8_common_47
    · have hf := ite_f hf c4
      refine lv_bipush (v := (-11)) hx hb dX8_common_40 (by decide) ?_
      refine lv_goto (tgt := 47) hx hb dX8_common_42 (by decide) ?_
      have hf := Option.some.inj hf
      subst hf
      exact e_Wi hC hH hr hlocks rfl rfl dX8_common_47
  · have hf := ite_t hf c1
    refine lv_bipush (v := (-11)) hx hb dX8_common_9 (by decide) ?_
    have hf := Option.some.inj hf
    subst hf
    exact e_Wi hC hH hr hlocks rfl rfl dX8_common_11
abbrev rmS_bagOf : Room := { frames := 4, cells := 0, slots := 0, locals := 102 }
set_option maxHeartbeats 4000000 in
set_option maxRecDepth 100000 in
theorem cS_bagOf (l : Launch) (E : eE) (ad : Nat → Nat) (q0_letters : TL) (q0_trial : TL) (q0_snapshot : TL) (q0_isSaved : Int32) (q0_past : TP) (q0_rows : TR) (q0_bags : TB) (q0_tally : TY) (q0_sizes : TZ) (q0_text : TT) (q0_line : TN) (q0_latestReason : Int32) (q0_latestDetail : Int32) (a1 : Int32) (a2 : Int32) (t : Int32 × TY) (hf : fS_bagOf q0_letters q0_rows q0_bags q0_tally a1 a2 = some t) : cW l E yX8_bagOf cX8_bagOf 5 (some .int) rmS_bagOf [.ref (ad 0), .int a1, .int a2] (wS E ad q0_letters q0_trial q0_snapshot q0_isSaved q0_past q0_rows q0_bags q0_tally q0_sizes q0_text q0_line q0_latestReason q0_latestDetail) (some (.int t.1)) (wS E ad q0_letters q0_trial q0_snapshot q0_isSaved q0_past q0_rows q0_bags t.2 q0_sizes q0_text q0_line q0_latestReason q0_latestDetail) := by
  refine Met.ofW (cc := cX8_bagOf) (maxL := 5) (ret := (some .int)) (by decide) rfl ?_
  intro p e s m args below meth c s₁ B hml hv
  obtain ⟨hargs, hP, hK, hD0⟩ := hv
  have hx := B.exec
  have hb := B.bytes
  have hr := B.returns
  have hts := atoms_spec (ws := ws_ yX8_bagOf cX8_bagOf 5 (some .int)) B.pre
  have hta : ∀ w ∈ lw_all, w.before args s = true := fun w h => hts w (List.mem_cons_of_mem _ h)
  have hown : s.vm.findClass RX8 = some m.cls := findClass_of_methodNamed B.named
  have hlocks := B.notSynchronized
  have hC : Cx p s m args c cX8_bagOf 5 RX8 E := ⟨hx, hb, hml, hown, hta, hK⟩
  have hH : Hp E (adr (wS E ad q0_letters q0_trial q0_snapshot q0_isSaved q0_past q0_rows q0_bags q0_tally q0_sizes q0_text q0_line q0_latestReason q0_latestDetail)) (wS E ad q0_letters q0_trial q0_snapshot q0_isSaved q0_past q0_rows q0_bags q0_tally q0_sizes q0_text q0_line q0_latestReason q0_latestDetail) s.heap s.heap [] := Hp.start hP hD0
  obtain ⟨ls, he, hl⟩ := entry_ (m := m) (n := 5) hargs (Nat.le_of_ble_eq_true rfl)
  rw [he]
  have hl : lv_has ls 5 [(0, .ref (ad 0)), (1, .int a1), (2, .int a2)] := hl
  show W p l e rmS_bagOf s m args below meth c s.heap [] 0 0 (MQ below (qW E (some .int) (some (.int t.1)) (wS E ad q0_letters q0_trial q0_snapshot q0_isSaved q0_past q0_rows q0_bags q0_tally q0_sizes q0_text q0_line q0_latestReason q0_latestDetail) (wS E ad q0_letters q0_trial q0_snapshot q0_isSaved q0_past q0_rows q0_bags t.2 q0_sizes q0_text q0_line q0_latestReason q0_latestDetail)) args s 0 0 (adr (wS E ad q0_letters q0_trial q0_snapshot q0_isSaved q0_past q0_rows q0_bags q0_tally q0_sizes q0_text q0_line q0_latestReason q0_latestDetail))) (F0 m 0 ls [])
  suffices hmain : ∀ (H : Heap) (locs : List Loc), Hp E (adr (wS E ad q0_letters q0_trial q0_snapshot q0_isSaved q0_past q0_rows q0_bags q0_tally q0_sizes q0_text q0_line q0_latestReason q0_latestDetail)) (wS E ad q0_letters q0_trial q0_snapshot q0_isSaved q0_past q0_rows q0_bags q0_tally q0_sizes q0_text q0_line q0_latestReason q0_latestDetail) s.heap H locs → W p l e rmS_bagOf s m args below meth c H locs 0 0 (MQ below (qW E (some .int) (some (.int t.1)) (wS E ad q0_letters q0_trial q0_snapshot q0_isSaved q0_past q0_rows q0_bags q0_tally q0_sizes q0_text q0_line q0_latestReason q0_latestDetail) (wS E ad q0_letters q0_trial q0_snapshot q0_isSaved q0_past q0_rows q0_bags t.2 q0_sizes q0_text q0_line q0_latestReason q0_latestDetail)) args s 0 0 (adr (wS E ad q0_letters q0_trial q0_snapshot q0_isSaved q0_past q0_rows q0_bags q0_tally q0_sizes q0_text q0_line q0_latestReason q0_latestDetail))) (F0 m 0 ls []) from hmain _ _ hH
  clear hH
  intro H locs hH
  rw [fS_bagOf] at hf
  refine lv_iload_n hx hb dX8_bagOf_0 rfl (lv_at hl 1 rfl) ?_
  refine lv_if_lt (tgt := 15) hx hb dX8_bagOf_1 (by decide) (fun c1 => ?_) (fun c1 => ?_)
  · have hf := ite_t hf c1
    refine lv_bipush (v := (-11)) hx hb dX8_bagOf_15 (by decide) ?_
    have hf := Option.some.inj hf
    subst hf
    exact e_Wi hC hH hr hlocks rfl rfl dX8_bagOf_17
  · have hf := ite_f hf c1
    refine lv_iload_n hx hb dX8_bagOf_4 rfl (lv_at hl 1 rfl) ?_
    refine lv_aload_n hx hb dX8_bagOf_5 rfl (lv_at hl 0 rfl) ?_
    refine gX8_39 hC hH.1 0 rfl (v := .ref (ad 36)) rfl dX8_bagOf_6 ?_
    refine k_PVi hC LX8_185 ⟨Nat.le_of_ble_eq_true rfl, Nat.le_of_ble_eq_true rfl⟩ ⟨Nat.zero_le _, Nat.zero_le _⟩ (cB_number l E (fun j => ad (36 + j)) q0_bags.1 q0_bags.2.1 q0_bags.2.2.1 q0_bags.2.2.2 _ rfl) rfl rfl (ss_bags hH.1) rfl rfl hl.1 rfl (Nat.le_of_ble_eq_true rfl) rfl dX8_bagOf_9 (fun hz9 => ?_)
    refine lv_icmp_lt (tgt := 18) hx hb dX8_bagOf_12 (by decide) (fun c2 => ?_) (fun c2 => ?_)
    · have hf := ite_t hf c2
      refine lv_aload_n hx hb dX8_bagOf_18 rfl (lv_at hl 0 rfl) ?_
      refine gX8_39 hC hH.1 0 rfl (v := .ref (ad 36)) rfl dX8_bagOf_19 ?_
      refine lv_iload_n hx hb dX8_bagOf_22 rfl (lv_at hl 1 rfl) ?_
      obtain ⟨t3, ht3, hf⟩ := ob hf
      refine k_PVi hC LX8_188 ⟨Nat.le_of_ble_eq_true rfl, Nat.le_of_ble_eq_true rfl⟩ ⟨Nat.zero_le _, Nat.zero_le _⟩ (cB_beginOf l E (fun j => ad (36 + j)) q0_bags.1 q0_bags.2.1 q0_bags.2.2.1 q0_bags.2.2.2 a1 t3 ht3) rfl rfl (ss_bags hH.1) rfl rfl hl.1 rfl (Nat.le_of_ble_eq_true rfl) rfl dX8_bagOf_23 (fun hz23 => ?_)
      refine lv_istore_n (lv' := [(3, .int t3), (0, .ref (ad 0)), (1, .int a1), (2, .int a2)]) hx hb dX8_bagOf_26 rfl hl (by decide) rfl (fun ls hl => ?_)
      refine lv_aload_n hx hb dX8_bagOf_27 rfl (lv_at hl 1 rfl) ?_
      refine gX8_39 hC hH.1 0 rfl (v := .ref (ad 36)) rfl dX8_bagOf_28 ?_
      refine lv_iload_n hx hb dX8_bagOf_31 rfl (lv_at hl 2 rfl) ?_
      obtain ⟨t4, ht4, hf⟩ := ob hf
      refine k_PVi hC LX8_191 ⟨Nat.le_of_ble_eq_true rfl, Nat.le_of_ble_eq_true rfl⟩ ⟨Nat.zero_le _, Nat.zero_le _⟩ (cB_endOf l E (fun j => ad (36 + j)) q0_bags.1 q0_bags.2.1 q0_bags.2.2.1 q0_bags.2.2.2 a1 t4 ht4) rfl rfl (ss_bags hH.1) rfl rfl hl.1 rfl (Nat.le_of_ble_eq_true rfl) rfl dX8_bagOf_32 (fun hz32 => ?_)
      refine lv_istore (lv' := [(4, .int t4), (3, .int t3), (0, .ref (ad 0)), (1, .int a1), (2, .int a2)]) hx hb dX8_bagOf_35 hl (by decide) rfl (fun ls hl => ?_)
      refine lv_iload_n hx hb dX8_bagOf_37 rfl (lv_at hl 4 rfl) ?_
      by_cases c38_0 : a2 = (0 : Int32)
      · have hf := ite_t hf c38_0
        have e9 : (a2).toInt = 0 := by rw [c38_0]; decide
        refine lv_tableIn (tgt := 76) hx hb dX8_bagOf_38 (by omega) (by omega) (by rw [e9]; rfl) (by decide) ?_
        refine lv_iload_n hx hb dX8_bagOf_76 rfl (lv_at hl 1 rfl) ?_
        have hf := Option.some.inj hf
        subst hf
        exact e_Wi hC hH hr hlocks rfl rfl dX8_bagOf_77
      · have hf := ite_f hf c38_0
        by_cases c38_1 : a2 = (1 : Int32)
        · have hf := ite_t hf c38_1
          have e9 : (a2).toInt = 1 := by rw [c38_1]; decide
          refine lv_tableIn (tgt := 78) hx hb dX8_bagOf_38 (by omega) (by omega) (by rw [e9]; rfl) (by decide) ?_
          refine lv_iload hx hb dX8_bagOf_78 (lv_at hl 0 rfl) ?_
          refine lv_iload_n hx hb dX8_bagOf_80 rfl (lv_at hl 1 rfl) ?_
          refine lv_isub hx hb dX8_bagOf_81 ?_
          have hf := Option.some.inj hf
          subst hf
          exact e_Wi hC hH hr hlocks rfl rfl dX8_bagOf_82
        · have hf := ite_f hf c38_1
          by_cases c38_2 : a2 = (2 : Int32)
          · have hf := ite_t hf c38_2
            have e9 : (a2).toInt = 2 := by rw [c38_2]; decide
            refine lv_tableIn (tgt := 83) hx hb dX8_bagOf_38 (by omega) (by omega) (by rw [e9]; rfl) (by decide) ?_
            refine lv_aload_n hx hb dX8_bagOf_83 rfl (lv_at hl 2 rfl) ?_
            refine gX8_39 hC hH.1 0 rfl (v := .ref (ad 36)) rfl dX8_bagOf_84 ?_
            refine lv_iload_n hx hb dX8_bagOf_87 rfl (lv_at hl 3 rfl) ?_
            obtain ⟨t5, ht5, hf⟩ := ob hf
            refine k_PVi hC LX8_194 ⟨Nat.le_of_ble_eq_true rfl, Nat.le_of_ble_eq_true rfl⟩ ⟨Nat.zero_le _, Nat.zero_le _⟩ (cB_totalOf l E (fun j => ad (36 + j)) q0_bags.1 q0_bags.2.1 q0_bags.2.2.1 q0_bags.2.2.2 a1 t5 ht5) rfl rfl (ss_bags hH.1) rfl rfl hl.1 rfl (Nat.le_of_ble_eq_true rfl) rfl dX8_bagOf_88 (fun hz88 => ?_)
            have hf := Option.some.inj hf
            subst hf
            exact e_Wi hC hH hr hlocks rfl rfl dX8_bagOf_91
          · have hf := ite_f hf c38_2
            by_cases c38_3 : a2 = (3 : Int32)
            · have hf := ite_t hf c38_3
              have e9 : (a2).toInt = 3 := by rw [c38_3]; decide
              refine lv_tableIn (tgt := 92) hx hb dX8_bagOf_38 (by omega) (by omega) (by rw [e9]; rfl) (by decide) ?_
              refine lv_aload_n hx hb dX8_bagOf_92 rfl (lv_at hl 2 rfl) ?_
              refine gX8_32 hC hH.1 0 rfl (v := .ref (ad 25)) rfl dX8_bagOf_93 ?_
              refine lv_iload_n hx hb dX8_bagOf_96 rfl (lv_at hl 1 rfl) ?_
              refine lv_iload hx hb dX8_bagOf_97 (lv_at hl 0 rfl) ?_
              refine lv_iload hx hb dX8_bagOf_99 (lv_at hl 0 rfl) ?_
              refine lv_iload_n hx hb dX8_bagOf_101 rfl (lv_at hl 1 rfl) ?_
              refine lv_isub hx hb dX8_bagOf_102 ?_
              refine lv_iconst (v := 1) hx hb dX8_bagOf_103 (by decide) ?_
              refine lv_isub hx hb dX8_bagOf_104 ?_
              refine lv_iconst (v := 2) hx hb dX8_bagOf_105 (by decide) ?_
              refine lv_idiv hx hb dX8_bagOf_106 (by decide) ?_
              obtain ⟨t6, ht6, hf⟩ := ob hf
              refine k_PVi hC LX8_160 ⟨Nat.le_of_ble_eq_true rfl, Nat.le_of_ble_eq_true rfl⟩ ⟨Nat.zero_le _, Nat.zero_le _⟩ (cR_weightBySize l E (fun j => ad (25 + j)) q0_rows.1 q0_rows.2.1 q0_rows.2.2.1 q0_rows.2.2.2.1 q0_rows.2.2.2.2.1 q0_rows.2.2.2.2.2 t3 t4 (((t4 - t3) - (1 : Int32)) / (2 : Int32)) t6 ht6) rfl rfl (ss_rows hH.1) rfl rfl hl.1 rfl (Nat.le_of_ble_eq_true rfl) rfl dX8_bagOf_107 (fun hz107 => ?_)
              have hf := Option.some.inj hf
              subst hf
              exact e_Wi hC hH hr hlocks rfl rfl dX8_bagOf_110
            · have hf := ite_f hf c38_3
              by_cases c38_4 : a2 = (4 : Int32)
              · have hf := ite_t hf c38_4
                have e9 : (a2).toInt = 4 := by rw [c38_4]; decide
                refine lv_tableIn (tgt := 111) hx hb dX8_bagOf_38 (by omega) (by omega) (by rw [e9]; rfl) (by decide) ?_
                refine lv_aload_n hx hb dX8_bagOf_111 rfl (lv_at hl 2 rfl) ?_
                refine gX8_32 hC hH.1 0 rfl (v := .ref (ad 25)) rfl dX8_bagOf_112 ?_
                refine lv_iload_n hx hb dX8_bagOf_115 rfl (lv_at hl 1 rfl) ?_
                refine lv_iload hx hb dX8_bagOf_116 (lv_at hl 0 rfl) ?_
                refine lv_iload hx hb dX8_bagOf_118 (lv_at hl 0 rfl) ?_
                refine lv_iload_n hx hb dX8_bagOf_120 rfl (lv_at hl 1 rfl) ?_
                refine lv_isub hx hb dX8_bagOf_121 ?_
                refine lv_iconst (v := 1) hx hb dX8_bagOf_122 (by decide) ?_
                refine lv_isub hx hb dX8_bagOf_123 ?_
                obtain ⟨t7, ht7, hf⟩ := ob hf
                refine k_PVi hC LX8_160 ⟨Nat.le_of_ble_eq_true rfl, Nat.le_of_ble_eq_true rfl⟩ ⟨Nat.zero_le _, Nat.zero_le _⟩ (cR_weightBySize l E (fun j => ad (25 + j)) q0_rows.1 q0_rows.2.1 q0_rows.2.2.1 q0_rows.2.2.2.1 q0_rows.2.2.2.2.1 q0_rows.2.2.2.2.2 t3 t4 ((t4 - t3) - (1 : Int32)) t7 ht7) rfl rfl (ss_rows hH.1) rfl rfl hl.1 rfl (Nat.le_of_ble_eq_true rfl) rfl dX8_bagOf_124 (fun hz124 => ?_)
                have hf := Option.some.inj hf
                subst hf
                exact e_Wi hC hH hr hlocks rfl rfl dX8_bagOf_127
              · have hf := ite_f hf c38_4
                by_cases c38_5 : a2 = (5 : Int32)
                · have hf := ite_t hf c38_5
                  have e9 : (a2).toInt = 5 := by rw [c38_5]; decide
                  refine lv_tableIn (tgt := 128) hx hb dX8_bagOf_38 (by omega) (by omega) (by rw [e9]; rfl) (by decide) ?_
                  refine lv_aload_n hx hb dX8_bagOf_128 rfl (lv_at hl 2 rfl) ?_
                  refine gX8_46 hC hH.1 0 rfl (v := .ref (ad 39)) rfl dX8_bagOf_129 ?_
                  refine lv_aload_n hx hb dX8_bagOf_132 rfl (lv_at hl 2 rfl) ?_
                  refine gX8_10 hC hH.1 0 rfl (v := .ref (ad 1)) rfl dX8_bagOf_133 ?_
                  refine lv_iload_n hx hb dX8_bagOf_136 rfl (lv_at hl 1 rfl) ?_
                  refine lv_iload hx hb dX8_bagOf_137 (lv_at hl 0 rfl) ?_
                  obtain ⟨t8, ht8, hf⟩ := ob hf
                  refine k_WVpv hC LX8_181 ⟨Nat.le_of_ble_eq_true rfl, Nat.le_of_ble_eq_true rfl⟩ ⟨Nat.zero_le _, Nat.zero_le _⟩ (cY_fill l E (fun j => ad (39 + j)) q0_tally (fun j => ad (1 + j)) q0_letters.1 q0_letters.2.1 q0_letters.2.2.1 q0_letters.2.2.2.1 q0_letters.2.2.2.2.1 q0_letters.2.2.2.2.2 t3 t4 t8 ht8) rfl rfl hH (W1 := wS E ad q0_letters q0_trial q0_snapshot q0_isSaved q0_past q0_rows q0_bags t8 q0_sizes q0_text q0_line q0_latestReason q0_latestDetail) (sp_tally_letters E ad q0_letters q0_trial q0_snapshot q0_isSaved q0_past q0_rows q0_bags q0_tally q0_sizes q0_text q0_line q0_latestReason q0_latestDetail) (sq_tally_letters E ad q0_letters q0_trial q0_snapshot q0_isSaved q0_past q0_rows q0_bags q0_tally q0_sizes q0_text q0_line q0_latestReason q0_latestDetail t8 q0_letters.1 q0_letters.2.1 q0_letters.2.2.1 q0_letters.2.2.2.1 q0_letters.2.2.2.2.1 q0_letters.2.2.2.2.2) rfl rfl rfl hl.1 rfl (Nat.le_of_ble_eq_true rfl) rfl dX8_bagOf_139 (fun H locs hz139 hH => ?_)
                  refine lv_aload_n hx hb dX8_bagOf_142 rfl (lv_at hl 2 rfl) ?_
                  refine gX8_46 hC hH.1 0 rfl (v := .ref (ad 39)) rfl dX8_bagOf_143 ?_
                  obtain ⟨t9, ht9, hf⟩ := ob hf
                  refine k_PVi hC LX8_197 ⟨Nat.le_of_ble_eq_true rfl, Nat.le_of_ble_eq_true rfl⟩ ⟨Nat.zero_le _, Nat.zero_le _⟩ (cY_unlike l E (fun j => ad (39 + j)) t8 t9 ht9) rfl rfl (ss_tally hH.1) rfl rfl hl.1 rfl (Nat.le_of_ble_eq_true rfl) rfl dX8_bagOf_146 (fun hz146 => ?_)
                  have hf := Option.some.inj hf
                  subst hf
                  exact e_Wi hC hH hr hlocks rfl rfl dX8_bagOf_149
                · have hf := ite_f hf c38_5
                  have hd : W p l e rmS_bagOf s m args below meth c H locs 0 0 (MQ below (qW E (some .int) (some (.int t.1)) (wS E ad q0_letters q0_trial q0_snapshot q0_isSaved q0_past q0_rows q0_bags q0_tally q0_sizes q0_text q0_line q0_latestReason q0_latestDetail) (wS E ad q0_letters q0_trial q0_snapshot q0_isSaved q0_past q0_rows q0_bags t.2 q0_sizes q0_text q0_line q0_latestReason q0_latestDetail)) args s 0 0 (adr (wS E ad q0_letters q0_trial q0_snapshot q0_isSaved q0_past q0_rows q0_bags q0_tally q0_sizes q0_text q0_line q0_latestReason q0_latestDetail))) (F0 m 150 ls []) := by
                    refine lv_bipush (v := (-12)) hx hb dX8_bagOf_150 (by decide) ?_
                    have hf := Option.some.inj hf
                    subst hf
                    exact e_Wi hC hH hr hlocks rfl rfl dX8_bagOf_152
                  refine lv_tableOut (tgt := 150) hx hb dX8_bagOf_38 (by have n0 := lv_neT c38_0 (a := 0) (by decide); have n1 := lv_neT c38_1 (a := 1) (by decide); have n2 := lv_neT c38_2 (a := 2) (by decide); have n3 := lv_neT c38_3 (a := 3) (by decide); have n4 := lv_neT c38_4 (a := 4) (by decide); have n5 := lv_neT c38_5 (a := 5) (by decide); omega) (by decide) hd
    · have hf := ite_f hf c2
      refine lv_bipush (v := (-11)) hx hb dX8_bagOf_15 (by decide) ?_
      have hf := Option.some.inj hf
      subst hf
      exact e_Wi hC hH hr hlocks rfl rfl dX8_bagOf_17
abbrev rmS_bagAt : Room := { frames := 2, cells := 0, slots := 0, locals := 43 }
set_option maxHeartbeats 4000000 in
set_option maxRecDepth 100000 in
theorem cS_bagAt (l : Launch) (E : eE) (ad : Nat → Nat) (q0_letters : TL) (q0_trial : TL) (q0_snapshot : TL) (q0_isSaved : Int32) (q0_past : TP) (q0_rows : TR) (q0_bags : TB) (q0_tally : TY) (q0_sizes : TZ) (q0_text : TT) (q0_line : TN) (q0_latestReason : Int32) (q0_latestDetail : Int32) (a1 : Int32) (r : Int32) (hf : fS_bagAt q0_letters q0_bags a1 = some r) : cP l E yX8_bagAt cX8_bagAt 2 (some .int) rmS_bagAt [.ref (ad 0), .int a1] (wS E ad q0_letters q0_trial q0_snapshot q0_isSaved q0_past q0_rows q0_bags q0_tally q0_sizes q0_text q0_line q0_latestReason q0_latestDetail) (some (.int r)) := by
  refine Met.ofW (cc := cX8_bagAt) (maxL := 2) (ret := (some .int)) (by decide) rfl ?_
  intro p e s m args below meth c s₁ B hml hv
  obtain ⟨hargs, hP, hK⟩ := hv
  have hx := B.exec
  have hb := B.bytes
  have hr := B.returns
  have hts := atoms_spec (ws := ws_ yX8_bagAt cX8_bagAt 2 (some .int)) B.pre
  have hta : ∀ w ∈ lw_all, w.before args s = true := fun w h => hts w (List.mem_cons_of_mem _ h)
  have hown : s.vm.findClass RX8 = some m.cls := findClass_of_methodNamed B.named
  have hlocks := B.notSynchronized
  have hC : Cx p s m args c cX8_bagAt 2 RX8 E := ⟨hx, hb, hml, hown, hta, hK⟩
  obtain ⟨ls, he, hl⟩ := entry_ (m := m) (n := 2) hargs (Nat.le_of_ble_eq_true rfl)
  rw [he]
  have hl : lv_has ls 2 [(0, .ref (ad 0)), (1, .int a1)] := hl
  show W p l e rmS_bagAt s m args below meth c s.heap [] 0 0 (MQ below (qP (some .int) (some (.int r))) args s 0 0 (fun _ => False)) (F0 m 0 ls [])
  rw [fS_bagAt] at hf
  refine lv_aload_n hx hb dX8_bagAt_0 rfl (lv_at hl 0 rfl) ?_
  refine gX8_10 hC hP 0 rfl (v := .ref (ad 1)) rfl dX8_bagAt_1 ?_
  refine lv_iload_n hx hb dX8_bagAt_4 rfl (lv_at hl 1 rfl) ?_
  refine k_PVi hC LX8_98 ⟨Nat.le_of_ble_eq_true rfl, Nat.le_of_ble_eq_true rfl⟩ ⟨Nat.zero_le _, Nat.zero_le _⟩ (cL_has l E (fun j => ad (1 + j)) q0_letters.1 q0_letters.2.1 q0_letters.2.2.1 q0_letters.2.2.2.1 q0_letters.2.2.2.2.1 q0_letters.2.2.2.2.2 a1 _ rfl) rfl rfl (ss_letters hP) rfl rfl hl.1 rfl (Nat.le_of_ble_eq_true rfl) rfl dX8_bagAt_5 (fun hz5 => ?_)
  refine lv_if_eq (tgt := 22) hx hb dX8_bagAt_8 (by decide) (fun c1 => ?_) (fun c1 => ?_)
  · have hf := ite_t hf c1
    refine lv_bipush (v := (-11)) hx hb dX8_bagAt_22 (by decide) ?_
    have hf := Option.some.inj hf
    exact e_Pi hC hr hlocks hf dX8_bagAt_24
  · have hf := ite_f hf c1
    refine lv_aload_n hx hb dX8_bagAt_11 rfl (lv_at hl 0 rfl) ?_
    refine gX8_39 hC hP 0 rfl (v := .ref (ad 36)) rfl dX8_bagAt_12 ?_
    refine lv_iload_n hx hb dX8_bagAt_15 rfl (lv_at hl 1 rfl) ?_
    obtain ⟨t2, ht2, hf⟩ := ob hf
    refine k_PVi hC LX8_200 ⟨Nat.le_of_ble_eq_true rfl, Nat.le_of_ble_eq_true rfl⟩ ⟨Nat.zero_le _, Nat.zero_le _⟩ (cB_bagWith l E (fun j => ad (36 + j)) q0_bags.1 q0_bags.2.1 q0_bags.2.2.1 q0_bags.2.2.2 a1 t2 ht2) rfl rfl (ss_bags hP) rfl rfl hl.1 rfl (Nat.le_of_ble_eq_true rfl) rfl dX8_bagAt_16 (fun hz16 => ?_)
    refine lv_goto (tgt := 24) hx hb dX8_bagAt_19 (by decide) ?_
    have hf := Option.some.inj hf
    exact e_Pi hC hr hlocks hf dX8_bagAt_24
abbrev rmS_ranked : Room := { frames := 5, cells := 0, slots := 0, locals := 111 }
set_option maxHeartbeats 4000000 in
set_option maxRecDepth 100000 in
theorem cS_ranked (l : Launch) (E : eE) (ad : Nat → Nat) (q0_letters : TL) (q0_trial : TL) (q0_snapshot : TL) (q0_isSaved : Int32) (q0_past : TP) (q0_rows : TR) (q0_bags : TB) (q0_tally : TY) (q0_sizes : TZ) (q0_text : TT) (q0_line : TN) (q0_latestReason : Int32) (q0_latestDetail : Int32) (a1 : Int32) (r : Int32) (hf : fS_ranked q0_bags a1 = some r) : cP l E yX8_ranked cX8_ranked 3 (some .int) rmS_ranked [.ref (ad 0), .int a1] (wS E ad q0_letters q0_trial q0_snapshot q0_isSaved q0_past q0_rows q0_bags q0_tally q0_sizes q0_text q0_line q0_latestReason q0_latestDetail) (some (.int r)) := by
  refine Met.ofW (cc := cX8_ranked) (maxL := 3) (ret := (some .int)) (by decide) rfl ?_
  intro p e s m args below meth c s₁ B hml hv
  obtain ⟨hargs, hP, hK⟩ := hv
  have hx := B.exec
  have hb := B.bytes
  have hr := B.returns
  have hts := atoms_spec (ws := ws_ yX8_ranked cX8_ranked 3 (some .int)) B.pre
  have hta : ∀ w ∈ lw_all, w.before args s = true := fun w h => hts w (List.mem_cons_of_mem _ h)
  have hown : s.vm.findClass RX8 = some m.cls := findClass_of_methodNamed B.named
  have hlocks := B.notSynchronized
  have hC : Cx p s m args c cX8_ranked 3 RX8 E := ⟨hx, hb, hml, hown, hta, hK⟩
  obtain ⟨ls, he, hl⟩ := entry_ (m := m) (n := 3) hargs (Nat.le_of_ble_eq_true rfl)
  rw [he]
  have hl : lv_has ls 3 [(0, .ref (ad 0)), (1, .int a1)] := hl
  show W p l e rmS_ranked s m args below meth c s.heap [] 0 0 (MQ below (qP (some .int) (some (.int r))) args s 0 0 (fun _ => False)) (F0 m 0 ls [])
  rw [fS_ranked] at hf
  refine lv_aload_n hx hb dX8_ranked_0 rfl (lv_at hl 0 rfl) ?_
  refine gX8_39 hC hP 0 rfl (v := .ref (ad 36)) rfl dX8_ranked_1 ?_
  refine lv_iload_n hx hb dX8_ranked_4 rfl (lv_at hl 1 rfl) ?_
  obtain ⟨t1, ht1, hf⟩ := ob hf
  refine k_PVi hC LX8_203 ⟨Nat.le_of_ble_eq_true rfl, Nat.le_of_ble_eq_true rfl⟩ ⟨Nat.zero_le _, Nat.zero_le _⟩ (cB_byTotal l E (fun j => ad (36 + j)) q0_bags.1 q0_bags.2.1 q0_bags.2.2.1 q0_bags.2.2.2 a1 t1 ht1) rfl rfl (ss_bags hP) rfl rfl hl.1 rfl (Nat.le_of_ble_eq_true rfl) rfl dX8_ranked_5 (fun hz5 => ?_)
  refine lv_istore_n (lv' := [(2, .int t1), (0, .ref (ad 0)), (1, .int a1)]) hx hb dX8_ranked_8 rfl hl (by decide) rfl (fun ls hl => ?_)
  refine lv_iload_n hx hb dX8_ranked_9 rfl (lv_at hl 0 rfl) ?_
  refine lv_if_ge (tgt := 18) hx hb dX8_ranked_10 (by decide) (fun c2 => ?_) (fun c2 => ?_)
  · have hf := ite_t hf c2
    refine lv_iload_n hx hb dX8_ranked_18 rfl (lv_at hl 0 rfl) ?_
    have hf := Option.some.inj hf
    exact e_Pi hC hr hlocks hf dX8_ranked_19
  · have hf := ite_f hf c2
    refine lv_bipush (v := (-11)) hx hb dX8_ranked_13 (by decide) ?_
    refine lv_goto (tgt := 19) hx hb dX8_ranked_15 (by decide) ?_
    have hf := Option.some.inj hf
    exact e_Pi hC hr hlocks hf dX8_ranked_19
abbrev rmS_append : Room := { frames := 1, cells := 0, slots := 0, locals := 21 }
set_option maxHeartbeats 4000000 in
set_option maxRecDepth 100000 in
theorem cS_append (l : Launch) (E : eE) (ad : Nat → Nat) (q0_letters : TL) (q0_trial : TL) (q0_snapshot : TL) (q0_isSaved : Int32) (q0_past : TP) (q0_rows : TR) (q0_bags : TB) (q0_tally : TY) (q0_sizes : TZ) (q0_text : TT) (q0_line : TN) (q0_latestReason : Int32) (q0_latestDetail : Int32) (a1 : Int32) (t : Int32 × TT) (hf : fS_append q0_text a1 = some t) : cW l E yX8_append cX8_append 2 (some .int) rmS_append [.ref (ad 0), .int a1] (wS E ad q0_letters q0_trial q0_snapshot q0_isSaved q0_past q0_rows q0_bags q0_tally q0_sizes q0_text q0_line q0_latestReason q0_latestDetail) (some (.int t.1)) (wS E ad q0_letters q0_trial q0_snapshot q0_isSaved q0_past q0_rows q0_bags q0_tally q0_sizes t.2 q0_line q0_latestReason q0_latestDetail) := by
  refine Met.ofW (cc := cX8_append) (maxL := 2) (ret := (some .int)) (by decide) rfl ?_
  intro p e s m args below meth c s₁ B hml hv
  obtain ⟨hargs, hP, hK, hD0⟩ := hv
  have hx := B.exec
  have hb := B.bytes
  have hr := B.returns
  have hts := atoms_spec (ws := ws_ yX8_append cX8_append 2 (some .int)) B.pre
  have hta : ∀ w ∈ lw_all, w.before args s = true := fun w h => hts w (List.mem_cons_of_mem _ h)
  have hown : s.vm.findClass RX8 = some m.cls := findClass_of_methodNamed B.named
  have hlocks := B.notSynchronized
  have hC : Cx p s m args c cX8_append 2 RX8 E := ⟨hx, hb, hml, hown, hta, hK⟩
  have hH : Hp E (adr (wS E ad q0_letters q0_trial q0_snapshot q0_isSaved q0_past q0_rows q0_bags q0_tally q0_sizes q0_text q0_line q0_latestReason q0_latestDetail)) (wS E ad q0_letters q0_trial q0_snapshot q0_isSaved q0_past q0_rows q0_bags q0_tally q0_sizes q0_text q0_line q0_latestReason q0_latestDetail) s.heap s.heap [] := Hp.start hP hD0
  obtain ⟨ls, he, hl⟩ := entry_ (m := m) (n := 2) hargs (Nat.le_of_ble_eq_true rfl)
  rw [he]
  have hl : lv_has ls 2 [(0, .ref (ad 0)), (1, .int a1)] := hl
  show W p l e rmS_append s m args below meth c s.heap [] 0 0 (MQ below (qW E (some .int) (some (.int t.1)) (wS E ad q0_letters q0_trial q0_snapshot q0_isSaved q0_past q0_rows q0_bags q0_tally q0_sizes q0_text q0_line q0_latestReason q0_latestDetail) (wS E ad q0_letters q0_trial q0_snapshot q0_isSaved q0_past q0_rows q0_bags q0_tally q0_sizes t.2 q0_line q0_latestReason q0_latestDetail)) args s 0 0 (adr (wS E ad q0_letters q0_trial q0_snapshot q0_isSaved q0_past q0_rows q0_bags q0_tally q0_sizes q0_text q0_line q0_latestReason q0_latestDetail))) (F0 m 0 ls [])
  suffices hmain : ∀ (H : Heap) (locs : List Loc), Hp E (adr (wS E ad q0_letters q0_trial q0_snapshot q0_isSaved q0_past q0_rows q0_bags q0_tally q0_sizes q0_text q0_line q0_latestReason q0_latestDetail)) (wS E ad q0_letters q0_trial q0_snapshot q0_isSaved q0_past q0_rows q0_bags q0_tally q0_sizes q0_text q0_line q0_latestReason q0_latestDetail) s.heap H locs → W p l e rmS_append s m args below meth c H locs 0 0 (MQ below (qW E (some .int) (some (.int t.1)) (wS E ad q0_letters q0_trial q0_snapshot q0_isSaved q0_past q0_rows q0_bags q0_tally q0_sizes q0_text q0_line q0_latestReason q0_latestDetail) (wS E ad q0_letters q0_trial q0_snapshot q0_isSaved q0_past q0_rows q0_bags q0_tally q0_sizes t.2 q0_line q0_latestReason q0_latestDetail)) args s 0 0 (adr (wS E ad q0_letters q0_trial q0_snapshot q0_isSaved q0_past q0_rows q0_bags q0_tally q0_sizes q0_text q0_line q0_latestReason q0_latestDetail))) (F0 m 0 ls []) from hmain _ _ hH
  clear hH
  intro H locs hH
  rw [fS_append] at hf
  refine lv_iload_n hx hb dX8_append_0 rfl (lv_at hl 1 rfl) ?_
  refine lv_bipush (v := 32) hx hb dX8_append_1 (by decide) ?_
  refine lv_icmp_lt (tgt := 12) hx hb dX8_append_3 (by decide) (fun c1 => ?_) (fun c1 => ?_)
  · have hf := ite_t hf c1
    refine lv_bipush (v := (-12)) hx hb dX8_append_12 (by decide) ?_
    have hf := Option.some.inj hf
    subst hf
    exact e_Wi hC hH hr hlocks rfl rfl dX8_append_14
  · have hf := ite_f hf c1
    refine lv_iload_n hx hb dX8_append_6 rfl (lv_at hl 1 rfl) ?_
    refine lv_bipush (v := 126) hx hb dX8_append_7 (by decide) ?_
    refine lv_icmp_le (tgt := 15) hx hb dX8_append_9 (by decide) (fun c2 => ?_) (fun c2 => ?_)
    · have hf := ite_t hf c2
      refine lv_aload_n hx hb dX8_append_15 rfl (lv_at hl 0 rfl) ?_
      refine gX8_60 hC hH.1 0 rfl (v := .ref (ad 43)) rfl dX8_append_16 ?_
      refine k_PVi hC LX8_206 ⟨Nat.le_of_ble_eq_true rfl, Nat.le_of_ble_eq_true rfl⟩ ⟨Nat.zero_le _, Nat.zero_le _⟩ (cT_isFull l E (fun j => ad (43 + j)) q0_text.1 q0_text.2.1 q0_text.2.2.1 q0_text.2.2.2.1 q0_text.2.2.2.2.1 q0_text.2.2.2.2.2.1 q0_text.2.2.2.2.2.2.1 q0_text.2.2.2.2.2.2.2 _ rfl) rfl rfl (ss_text hH.1) rfl rfl hl.1 rfl (Nat.le_of_ble_eq_true rfl) rfl dX8_append_19 (fun hz19 => ?_)
      refine lv_if_eq (tgt := 28) hx hb dX8_append_22 (by decide) (fun c3 => ?_) (fun c3 => ?_)
      · have hf := ite_t hf c3
        refine lv_aload_n hx hb dX8_append_28 rfl (lv_at hl 0 rfl) ?_
        refine gX8_60 hC hH.1 0 rfl (v := .ref (ad 43)) rfl dX8_append_29 ?_
        refine lv_iload_n hx hb dX8_append_32 rfl (lv_at hl 1 rfl) ?_
        obtain ⟨t4, ht4, hf⟩ := ob hf
        refine k_WVpv hC LX8_207 ⟨Nat.le_of_ble_eq_true rfl, Nat.le_of_ble_eq_true rfl⟩ ⟨Nat.zero_le _, Nat.zero_le _⟩ (cT_add l E (fun j => ad (43 + j)) q0_text.1 q0_text.2.1 q0_text.2.2.1 q0_text.2.2.2.1 q0_text.2.2.2.2.1 q0_text.2.2.2.2.2.1 q0_text.2.2.2.2.2.2.1 q0_text.2.2.2.2.2.2.2 a1 t4 ht4) rfl rfl hH (W1 := wS E ad q0_letters q0_trial q0_snapshot q0_isSaved q0_past q0_rows q0_bags q0_tally q0_sizes (t4.1, t4.2, q0_text.2.2) q0_line q0_latestReason q0_latestDetail) (sp_text E ad q0_letters q0_trial q0_snapshot q0_isSaved q0_past q0_rows q0_bags q0_tally q0_sizes q0_text q0_line q0_latestReason q0_latestDetail) (sq_text E ad q0_letters q0_trial q0_snapshot q0_isSaved q0_past q0_rows q0_bags q0_tally q0_sizes q0_text q0_line q0_latestReason q0_latestDetail t4.1 t4.2 q0_text.2.2.1 q0_text.2.2.2.1 q0_text.2.2.2.2.1 q0_text.2.2.2.2.2.1 q0_text.2.2.2.2.2.2.1 q0_text.2.2.2.2.2.2.2) rfl rfl rfl hl.1 rfl (Nat.le_of_ble_eq_true rfl) rfl dX8_append_33 (fun H locs hz33 hH => ?_)
        refine lv_aload_n hx hb dX8_append_36 rfl (lv_at hl 0 rfl) ?_
        refine gX8_60 hC hH.1 0 rfl (v := .ref (ad 43)) rfl dX8_append_37 ?_
        refine k_PVi hC LX8_211 ⟨Nat.le_of_ble_eq_true rfl, Nat.le_of_ble_eq_true rfl⟩ ⟨Nat.zero_le _, Nat.zero_le _⟩ (cT_size l E (fun j => ad (43 + j)) t4.1 t4.2 q0_text.2.2.1 q0_text.2.2.2.1 q0_text.2.2.2.2.1 q0_text.2.2.2.2.2.1 q0_text.2.2.2.2.2.2.1 q0_text.2.2.2.2.2.2.2 _ rfl) rfl rfl (ss_text hH.1) rfl rfl hl.1 rfl (Nat.le_of_ble_eq_true rfl) rfl dX8_append_40 (fun hz40 => ?_)
        have hf := Option.some.inj hf
        subst hf
        exact e_Wi hC hH hr hlocks rfl rfl dX8_append_43
      · have hf := ite_f hf c3
        refine lv_bipush (v := (-13)) hx hb dX8_append_25 (by decide) ?_
        have hf := Option.some.inj hf
        subst hf
        exact e_Wi hC hH hr hlocks rfl rfl dX8_append_27
    · have hf := ite_f hf c2
      refine lv_bipush (v := (-12)) hx hb dX8_append_12 (by decide) ?_
      have hf := Option.some.inj hf
      subst hf
      exact e_Wi hC hH hr hlocks rfl rfl dX8_append_14
abbrev rmS_tryOrders : Room := { frames := 4, cells := 0, slots := 0, locals := 86 }
set_option maxHeartbeats 4000000 in
set_option maxRecDepth 100000 in
theorem cS_tryOrders (l : Launch) (E : eE) (ad : Nat → Nat) (q0_letters : TL) (q0_trial : TL) (q0_snapshot : TL) (q0_isSaved : Int32) (q0_past : TP) (q0_rows : TR) (q0_bags : TB) (q0_tally : TY) (q0_sizes : TZ) (q0_text : TT) (q0_line : TN) (q0_latestReason : Int32) (q0_latestDetail : Int32) (t : Int32 × TL) (hf : fS_tryOrders q0_letters q0_trial q0_text = some t) : cW l E yX8_tryOrders cX8_tryOrders 2 (some .int) rmS_tryOrders [.ref (ad 0)] (wS E ad q0_letters q0_trial q0_snapshot q0_isSaved q0_past q0_rows q0_bags q0_tally q0_sizes q0_text q0_line q0_latestReason q0_latestDetail) (some (.int t.1)) (wS E ad q0_letters t.2 q0_snapshot q0_isSaved q0_past q0_rows q0_bags q0_tally q0_sizes q0_text q0_line q0_latestReason q0_latestDetail) := by
  refine Met.ofW (cc := cX8_tryOrders) (maxL := 2) (ret := (some .int)) (by decide) rfl ?_
  intro p e s m args below meth c s₁ B hml hv
  obtain ⟨hargs, hP, hK, hD0⟩ := hv
  have hx := B.exec
  have hb := B.bytes
  have hr := B.returns
  have hts := atoms_spec (ws := ws_ yX8_tryOrders cX8_tryOrders 2 (some .int)) B.pre
  have hta : ∀ w ∈ lw_all, w.before args s = true := fun w h => hts w (List.mem_cons_of_mem _ h)
  have hown : s.vm.findClass RX8 = some m.cls := findClass_of_methodNamed B.named
  have hlocks := B.notSynchronized
  have hC : Cx p s m args c cX8_tryOrders 2 RX8 E := ⟨hx, hb, hml, hown, hta, hK⟩
  have hH : Hp E (adr (wS E ad q0_letters q0_trial q0_snapshot q0_isSaved q0_past q0_rows q0_bags q0_tally q0_sizes q0_text q0_line q0_latestReason q0_latestDetail)) (wS E ad q0_letters q0_trial q0_snapshot q0_isSaved q0_past q0_rows q0_bags q0_tally q0_sizes q0_text q0_line q0_latestReason q0_latestDetail) s.heap s.heap [] := Hp.start hP hD0
  obtain ⟨ls, he, hl⟩ := entry_ (m := m) (n := 2) hargs (Nat.le_of_ble_eq_true rfl)
  rw [he]
  have hl : lv_has ls 2 [(0, .ref (ad 0))] := hl
  show W p l e rmS_tryOrders s m args below meth c s.heap [] 0 0 (MQ below (qW E (some .int) (some (.int t.1)) (wS E ad q0_letters q0_trial q0_snapshot q0_isSaved q0_past q0_rows q0_bags q0_tally q0_sizes q0_text q0_line q0_latestReason q0_latestDetail) (wS E ad q0_letters t.2 q0_snapshot q0_isSaved q0_past q0_rows q0_bags q0_tally q0_sizes q0_text q0_line q0_latestReason q0_latestDetail)) args s 0 0 (adr (wS E ad q0_letters q0_trial q0_snapshot q0_isSaved q0_past q0_rows q0_bags q0_tally q0_sizes q0_text q0_line q0_latestReason q0_latestDetail))) (F0 m 0 ls [])
  suffices hmain : ∀ (H : Heap) (locs : List Loc), Hp E (adr (wS E ad q0_letters q0_trial q0_snapshot q0_isSaved q0_past q0_rows q0_bags q0_tally q0_sizes q0_text q0_line q0_latestReason q0_latestDetail)) (wS E ad q0_letters q0_trial q0_snapshot q0_isSaved q0_past q0_rows q0_bags q0_tally q0_sizes q0_text q0_line q0_latestReason q0_latestDetail) s.heap H locs → W p l e rmS_tryOrders s m args below meth c H locs 0 0 (MQ below (qW E (some .int) (some (.int t.1)) (wS E ad q0_letters q0_trial q0_snapshot q0_isSaved q0_past q0_rows q0_bags q0_tally q0_sizes q0_text q0_line q0_latestReason q0_latestDetail) (wS E ad q0_letters t.2 q0_snapshot q0_isSaved q0_past q0_rows q0_bags q0_tally q0_sizes q0_text q0_line q0_latestReason q0_latestDetail)) args s 0 0 (adr (wS E ad q0_letters q0_trial q0_snapshot q0_isSaved q0_past q0_rows q0_bags q0_tally q0_sizes q0_text q0_line q0_latestReason q0_latestDetail))) (F0 m 0 ls []) from hmain _ _ hH
  clear hH
  have L13 : ∀ (n : Nat) (y0_1 : TL) (a1 : Int32) (ls : Array Slot), lv_has ls 2 [(0, .ref (ad 0)), (1, .int a1)] → ∀ (H : Heap) (locs : List Loc), Hp E (adr (wS E ad q0_letters q0_trial q0_snapshot q0_isSaved q0_past q0_rows q0_bags q0_tally q0_sizes q0_text q0_line q0_latestReason q0_latestDetail)) (wS E ad q0_letters y0_1 q0_snapshot q0_isSaved q0_past q0_rows q0_bags q0_tally q0_sizes q0_text q0_line q0_latestReason q0_latestDetail) s.heap H locs → fS_tryOrders_13 n q0_letters y0_1 q0_text a1 = some t → W p l e rmS_tryOrders s m args below meth c H locs 0 0 (MQ below (qW E (some .int) (some (.int t.1)) (wS E ad q0_letters q0_trial q0_snapshot q0_isSaved q0_past q0_rows q0_bags q0_tally q0_sizes q0_text q0_line q0_latestReason q0_latestDetail) (wS E ad q0_letters t.2 q0_snapshot q0_isSaved q0_past q0_rows q0_bags q0_tally q0_sizes q0_text q0_line q0_latestReason q0_latestDetail)) args s 0 0 (adr (wS E ad q0_letters q0_trial q0_snapshot q0_isSaved q0_past q0_rows q0_bags q0_tally q0_sizes q0_text q0_line q0_latestReason q0_latestDetail))) (F0 m 13 ls []) := by
    intro n
    induction n with
    | zero => intro y0_1 a1 ls hl H locs hH hf; cases hf
    | succ n ih =>
      intro y0_1 a1 ls hl H locs hH hf
      rw [fS_tryOrders_13] at hf
      refine lv_iload_n hx hb dX8_tryOrders_13 rfl (lv_at hl 1 rfl) ?_
      refine lv_aload_n hx hb dX8_tryOrders_14 rfl (lv_at hl 0 rfl) ?_
      refine gX8_60 hC hH.1 0 rfl (v := .ref (ad 43)) rfl dX8_tryOrders_15 ?_
      refine k_PVi hC LX8_224 ⟨Nat.le_of_ble_eq_true rfl, Nat.le_of_ble_eq_true rfl⟩ ⟨Nat.zero_le _, Nat.zero_le _⟩ (cT_orders l E (fun j => ad (43 + j)) q0_text.1 q0_text.2.1 q0_text.2.2.1 q0_text.2.2.2.1 q0_text.2.2.2.2.1 q0_text.2.2.2.2.2.1 q0_text.2.2.2.2.2.2.1 q0_text.2.2.2.2.2.2.2 _ rfl) rfl rfl (ss_text hH.1) rfl rfl hl.1 rfl (Nat.le_of_ble_eq_true rfl) rfl dX8_tryOrders_18 (fun hz18 => ?_)
      refine lv_icmp_ge (tgt := 66) hx hb dX8_tryOrders_21 (by decide) (fun c2 => ?_) (fun c2 => ?_)
      · have hf := ite_t hf c2
        refine lv_iconst (v := (-1)) hx hb dX8_tryOrders_66 (by decide) ?_
        have hf := Option.some.inj hf
        subst hf
        exact e_Wi hC hH hr hlocks rfl rfl dX8_tryOrders_67
      · have hf := ite_f hf c2
        refine lv_aload_n hx hb dX8_tryOrders_24 rfl (lv_at hl 0 rfl) ?_
        refine gX8_16 hC hH.1 0 rfl (v := .ref (ad 3)) rfl dX8_tryOrders_25 ?_
        refine lv_aload_n hx hb dX8_tryOrders_28 rfl (lv_at hl 0 rfl) ?_
        refine gX8_60 hC hH.1 0 rfl (v := .ref (ad 43)) rfl dX8_tryOrders_29 ?_
        refine lv_iload_n hx hb dX8_tryOrders_32 rfl (lv_at hl 1 rfl) ?_
        obtain ⟨t3, ht3, hf⟩ := ob hf
        refine k_PVi hC LX8_290 ⟨Nat.le_of_ble_eq_true rfl, Nat.le_of_ble_eq_true rfl⟩ ⟨Nat.zero_le _, Nat.zero_le _⟩ (cT_kindOf l E (fun j => ad (43 + j)) q0_text.1 q0_text.2.1 q0_text.2.2.1 q0_text.2.2.2.1 q0_text.2.2.2.2.1 q0_text.2.2.2.2.2.1 q0_text.2.2.2.2.2.2.1 q0_text.2.2.2.2.2.2.2 a1 t3 ht3) rfl rfl (ss_text hH.1) rfl rfl hl.1 rfl (Nat.le_of_ble_eq_true rfl) rfl dX8_tryOrders_33 (fun hz33 => ?_)
        refine lv_aload_n hx hb dX8_tryOrders_36 rfl (lv_at hl 0 rfl) ?_
        refine gX8_60 hC hH.1 0 rfl (v := .ref (ad 43)) rfl dX8_tryOrders_37 ?_
        refine lv_iload_n hx hb dX8_tryOrders_40 rfl (lv_at hl 1 rfl) ?_
        obtain ⟨t4, ht4, hf⟩ := ob hf
        refine k_PVi hC LX8_293 ⟨Nat.le_of_ble_eq_true rfl, Nat.le_of_ble_eq_true rfl⟩ ⟨Nat.zero_le _, Nat.zero_le _⟩ (cT_firstOf l E (fun j => ad (43 + j)) q0_text.1 q0_text.2.1 q0_text.2.2.1 q0_text.2.2.2.1 q0_text.2.2.2.2.1 q0_text.2.2.2.2.2.1 q0_text.2.2.2.2.2.2.1 q0_text.2.2.2.2.2.2.2 a1 t4 ht4) rfl rfl (ss_text hH.1) rfl rfl hl.1 rfl (Nat.le_of_ble_eq_true rfl) rfl dX8_tryOrders_41 (fun hz41 => ?_)
        refine lv_aload_n hx hb dX8_tryOrders_44 rfl (lv_at hl 0 rfl) ?_
        refine gX8_60 hC hH.1 0 rfl (v := .ref (ad 43)) rfl dX8_tryOrders_45 ?_
        refine lv_iload_n hx hb dX8_tryOrders_48 rfl (lv_at hl 1 rfl) ?_
        obtain ⟨t5, ht5, hf⟩ := ob hf
        refine k_PVi hC LX8_296 ⟨Nat.le_of_ble_eq_true rfl, Nat.le_of_ble_eq_true rfl⟩ ⟨Nat.zero_le _, Nat.zero_le _⟩ (cT_secondOf l E (fun j => ad (43 + j)) q0_text.1 q0_text.2.1 q0_text.2.2.1 q0_text.2.2.2.1 q0_text.2.2.2.2.1 q0_text.2.2.2.2.2.1 q0_text.2.2.2.2.2.2.1 q0_text.2.2.2.2.2.2.2 a1 t5 ht5) rfl rfl (ss_text hH.1) rfl rfl hl.1 rfl (Nat.le_of_ble_eq_true rfl) rfl dX8_tryOrders_49 (fun hz49 => ?_)
        obtain ⟨t6, ht6, hf⟩ := ob hf
        refine k_WVpi hC LX8_299 ⟨Nat.le_of_ble_eq_true rfl, Nat.le_of_ble_eq_true rfl⟩ ⟨Nat.zero_le _, Nat.zero_le _⟩ (cL_obey l E (fun j => ad (3 + j)) y0_1.1 y0_1.2.1 y0_1.2.2.1 y0_1.2.2.2.1 y0_1.2.2.2.2.1 y0_1.2.2.2.2.2 t3 t4 t5 t6 ht6) rfl rfl hH (W1 := wS E ad q0_letters (t6.2.1, t6.2.2.1, t6.2.2.2.1, t6.2.2.2.2.1, t6.2.2.2.2.2.1, t6.2.2.2.2.2.2) q0_snapshot q0_isSaved q0_past q0_rows q0_bags q0_tally q0_sizes q0_text q0_line q0_latestReason q0_latestDetail) (sp_trial E ad q0_letters y0_1 q0_snapshot q0_isSaved q0_past q0_rows q0_bags q0_tally q0_sizes q0_text q0_line q0_latestReason q0_latestDetail) (sq_trial E ad q0_letters y0_1 q0_snapshot q0_isSaved q0_past q0_rows q0_bags q0_tally q0_sizes q0_text q0_line q0_latestReason q0_latestDetail t6.2.1 t6.2.2.1 t6.2.2.2.1 t6.2.2.2.2.1 t6.2.2.2.2.2.1 t6.2.2.2.2.2.2) rfl rfl rfl hl.1 rfl (Nat.le_of_ble_eq_true rfl) rfl dX8_tryOrders_52 (fun H locs hz52 hH => ?_)
        refine lv_if_ne (tgt := 60) hx hb dX8_tryOrders_55 (by decide) (fun c7 => ?_) (fun c7 => ?_)
        · have hf := ite_f hf c7
          refine lv_iinc (v := (a1 + (1 : Int32))) (lv' := [(1, .int (a1 + (1 : Int32))), (0, .ref (ad 0))]) hx hb dX8_tryOrders_60 hl (k := 1) rfl rfl (by decide) rfl (fun ls hl => ?_)
          refine lv_goto (tgt := 13) hx hb dX8_tryOrders_63 (by decide) ?_
          exact ih (t6.2.1, t6.2.2.1, t6.2.2.2.1, t6.2.2.2.2.1, t6.2.2.2.2.2.1, t6.2.2.2.2.2.2) (a1 + (1 : Int32)) ls (lv_sub hl [1, 0] rfl) _ _ hH hf
        · have hf := ite_t hf c7
          refine lv_iload_n hx hb dX8_tryOrders_58 rfl (lv_at hl 1 rfl) ?_
          have hf := Option.some.inj hf
          subst hf
          exact e_Wi hC hH hr hlocks rfl rfl dX8_tryOrders_59
  intro H locs hH
  rw [fS_tryOrders] at hf
  refine lv_aload_n hx hb dX8_tryOrders_0 rfl (lv_at hl 0 rfl) ?_
  refine gX8_16 hC hH.1 0 rfl (v := .ref (ad 3)) rfl dX8_tryOrders_1 ?_
  refine lv_aload_n hx hb dX8_tryOrders_4 rfl (lv_at hl 0 rfl) ?_
  refine gX8_10 hC hH.1 0 rfl (v := .ref (ad 1)) rfl dX8_tryOrders_5 ?_
  obtain ⟨t1, ht1, hf⟩ := ob hf
  refine k_WVpv hC LX8_221 ⟨Nat.le_of_ble_eq_true rfl, Nat.le_of_ble_eq_true rfl⟩ ⟨Nat.zero_le _, Nat.zero_le _⟩ (cL_becomeLike l E (fun j => ad (3 + j)) q0_trial.1 q0_trial.2.1 q0_trial.2.2.1 q0_trial.2.2.2.1 q0_trial.2.2.2.2.1 q0_trial.2.2.2.2.2 (fun j => ad (1 + j)) q0_letters.1 q0_letters.2.1 q0_letters.2.2.1 q0_letters.2.2.2.1 q0_letters.2.2.2.2.1 q0_letters.2.2.2.2.2 t1 ht1) rfl rfl hH (W1 := wS E ad q0_letters (t1.1, t1.2.1, t1.2.2.1, t1.2.2.2.1, t1.2.2.2.2.1, t1.2.2.2.2.2) q0_snapshot q0_isSaved q0_past q0_rows q0_bags q0_tally q0_sizes q0_text q0_line q0_latestReason q0_latestDetail) (sp_trial_letters E ad q0_letters q0_trial q0_snapshot q0_isSaved q0_past q0_rows q0_bags q0_tally q0_sizes q0_text q0_line q0_latestReason q0_latestDetail) (sq_trial_letters E ad q0_letters q0_trial q0_snapshot q0_isSaved q0_past q0_rows q0_bags q0_tally q0_sizes q0_text q0_line q0_latestReason q0_latestDetail t1.1 t1.2.1 t1.2.2.1 t1.2.2.2.1 t1.2.2.2.2.1 t1.2.2.2.2.2 q0_letters.1 q0_letters.2.1 q0_letters.2.2.1 q0_letters.2.2.2.1 q0_letters.2.2.2.2.1 q0_letters.2.2.2.2.2) rfl rfl rfl hl.1 rfl (Nat.le_of_ble_eq_true rfl) rfl dX8_tryOrders_8 (fun H locs hz8 hH => ?_)
  refine lv_iconst (v := 0) hx hb dX8_tryOrders_11 (by decide) ?_
  refine lv_istore_n (lv' := [(1, .int (0 : Int32)), (0, .ref (ad 0))]) hx hb dX8_tryOrders_12 rfl hl (by decide) rfl (fun ls hl => ?_)
  exact L13 FU (t1.1, t1.2.1, t1.2.2.1, t1.2.2.2.1, t1.2.2.2.2.1, t1.2.2.2.2.2) (0 : Int32) ls (lv_sub hl [1, 0] rfl) _ _ hH hf
abbrev rmS_run : Room := { frames := 7, cells := 0, slots := 0, locals := 150 }
set_option maxHeartbeats 4000000 in
set_option maxRecDepth 100000 in
theorem cS_run (l : Launch) (E : eE) (G : eG) (ad : Nat → Nat) (q0_letters : TL) (q0_trial : TL) (q0_snapshot : TL) (q0_isSaved : Int32) (q0_past : TP) (q0_rows : TR) (q0_bags : TB) (q0_tally : TY) (q0_sizes : TZ) (q0_text : TT) (q0_line : TN) (q0_latestReason : Int32) (q0_latestDetail : Int32) (t : Int32 × TL × TL × TP × TR × TB × TT × Int32 × Int32) (hf : fS_run q0_letters q0_trial q0_past q0_rows q0_bags q0_text q0_latestReason q0_latestDetail = some t) : cWS l E G yX8_run cX8_run 3 (some .int) rmS_run [.ref (ad 0)] (wS E ad q0_letters q0_trial q0_snapshot q0_isSaved q0_past q0_rows q0_bags q0_tally q0_sizes q0_text q0_line q0_latestReason q0_latestDetail) (some (.int t.1)) (wS E ad t.2.1 t.2.2.1 q0_snapshot q0_isSaved t.2.2.2.1 t.2.2.2.2.1 t.2.2.2.2.2.1 q0_tally q0_sizes t.2.2.2.2.2.2.1 q0_line t.2.2.2.2.2.2.2.1 t.2.2.2.2.2.2.2.2) := by
  refine Met.ofW (cc := cX8_run) (maxL := 3) (ret := (some .int)) (by decide) rfl ?_
  intro p e s m args below meth c s₁ B hml hv
  obtain ⟨hargs, hP, hK, hD0, hSC⟩ := hv
  have hx := B.exec
  have hb := B.bytes
  have hr := B.returns
  have hts := atoms_spec (ws := ws_ yX8_run cX8_run 3 (some .int)) B.pre
  have hta : ∀ w ∈ lw_all, w.before args s = true := fun w h => hts w (List.mem_cons_of_mem _ h)
  have hown : s.vm.findClass RX8 = some m.cls := findClass_of_methodNamed B.named
  have hlocks := B.notSynchronized
  have hC : Cx p s m args c cX8_run 3 RX8 E := ⟨hx, hb, hml, hown, hta, hK⟩
  have hH : Hp E (adr (wS E ad q0_letters q0_trial q0_snapshot q0_isSaved q0_past q0_rows q0_bags q0_tally q0_sizes q0_text q0_line q0_latestReason q0_latestDetail)) (wS E ad q0_letters q0_trial q0_snapshot q0_isSaved q0_past q0_rows q0_bags q0_tally q0_sizes q0_text q0_line q0_latestReason q0_latestDetail) s.heap s.heap [] := Hp.start hP hD0
  obtain ⟨ls, he, hl⟩ := entry_ (m := m) (n := 3) hargs (Nat.le_of_ble_eq_true rfl)
  rw [he]
  have hl : lv_has ls 3 [(0, .ref (ad 0))] := hl
  show W p l e rmS_run s m args below meth c s.heap [] 0 0 (MQ below (qW E (some .int) (some (.int t.1)) (wS E ad q0_letters q0_trial q0_snapshot q0_isSaved q0_past q0_rows q0_bags q0_tally q0_sizes q0_text q0_line q0_latestReason q0_latestDetail) (wS E ad t.2.1 t.2.2.1 q0_snapshot q0_isSaved t.2.2.2.1 t.2.2.2.2.1 t.2.2.2.2.2.1 q0_tally q0_sizes t.2.2.2.2.2.2.1 q0_line t.2.2.2.2.2.2.2.1 t.2.2.2.2.2.2.2.2)) args s 0 0 (adr (wS E ad q0_letters q0_trial q0_snapshot q0_isSaved q0_past q0_rows q0_bags q0_tally q0_sizes q0_text q0_line q0_latestReason q0_latestDetail))) (F0 m 0 ls [])
  suffices hmain : ∀ (H : Heap) (locs : List Loc), Hp E (adr (wS E ad q0_letters q0_trial q0_snapshot q0_isSaved q0_past q0_rows q0_bags q0_tally q0_sizes q0_text q0_line q0_latestReason q0_latestDetail)) (wS E ad q0_letters q0_trial q0_snapshot q0_isSaved q0_past q0_rows q0_bags q0_tally q0_sizes q0_text q0_line q0_latestReason q0_latestDetail) s.heap H locs → W p l e rmS_run s m args below meth c H locs 0 0 (MQ below (qW E (some .int) (some (.int t.1)) (wS E ad q0_letters q0_trial q0_snapshot q0_isSaved q0_past q0_rows q0_bags q0_tally q0_sizes q0_text q0_line q0_latestReason q0_latestDetail) (wS E ad t.2.1 t.2.2.1 q0_snapshot q0_isSaved t.2.2.2.1 t.2.2.2.2.1 t.2.2.2.2.2.1 q0_tally q0_sizes t.2.2.2.2.2.2.1 q0_line t.2.2.2.2.2.2.2.1 t.2.2.2.2.2.2.2.2)) args s 0 0 (adr (wS E ad q0_letters q0_trial q0_snapshot q0_isSaved q0_past q0_rows q0_bags q0_tally q0_sizes q0_text q0_line q0_latestReason q0_latestDetail))) (F0 m 0 ls []) from hmain _ _ hH
  clear hH
  intro H locs hH
  rw [fS_run] at hf
  refine lv_aload_n hx hb dX8_run_0 rfl (lv_at hl 0 rfl) ?_
  refine gX8_60 hC hH.1 0 rfl (v := .ref (ad 43)) rfl dX8_run_1 ?_
  obtain ⟨t1, ht1, hf⟩ := ob hf
  refine k_WXi hC LX8_212 ⟨Nat.le_of_ble_eq_true rfl, Nat.le_of_ble_eq_true rfl⟩ ⟨Nat.zero_le _, Nat.zero_le _⟩ (cT_read l E G (fun j => ad (43 + j)) q0_text.1 q0_text.2.1 q0_text.2.2.1 q0_text.2.2.2.1 q0_text.2.2.2.2.1 q0_text.2.2.2.2.2.1 q0_text.2.2.2.2.2.2.1 q0_text.2.2.2.2.2.2.2 t1 ht1) rfl rfl hSC hH (W1 := wS E ad q0_letters q0_trial q0_snapshot q0_isSaved q0_past q0_rows q0_bags q0_tally q0_sizes (q0_text.1, q0_text.2.1, t1.2.1, t1.2.2.1, t1.2.2.2.1, t1.2.2.2.2.1, t1.2.2.2.2.2.1, t1.2.2.2.2.2.2) q0_line q0_latestReason q0_latestDetail) (sp_text E ad q0_letters q0_trial q0_snapshot q0_isSaved q0_past q0_rows q0_bags q0_tally q0_sizes q0_text q0_line q0_latestReason q0_latestDetail) (sq_text E ad q0_letters q0_trial q0_snapshot q0_isSaved q0_past q0_rows q0_bags q0_tally q0_sizes q0_text q0_line q0_latestReason q0_latestDetail q0_text.1 q0_text.2.1 t1.2.1 t1.2.2.1 t1.2.2.2.1 t1.2.2.2.2.1 t1.2.2.2.2.2.1 t1.2.2.2.2.2.2) rfl rfl rfl hl.1 rfl (Nat.le_of_ble_eq_true rfl) rfl dX8_run_4 (fun H locs hz4 hH => ?_)
  refine lv_istore_n (lv' := [(1, .int t1.1), (0, .ref (ad 0))]) hx hb dX8_run_7 rfl hl (by decide) rfl (fun ls hl => ?_)
  refine lv_aload_n hx hb dX8_run_8 rfl (lv_at hl 1 rfl) ?_
  refine gX8_60 hC hH.1 0 rfl (v := .ref (ad 43)) rfl dX8_run_9 ?_
  obtain ⟨t2, ht2, hf⟩ := ob hf
  refine k_WVpv hC LX8_215 ⟨Nat.le_of_ble_eq_true rfl, Nat.le_of_ble_eq_true rfl⟩ ⟨Nat.zero_le _, Nat.zero_le _⟩ (cT_empty l E (fun j => ad (43 + j)) q0_text.1 q0_text.2.1 t1.2.1 t1.2.2.1 t1.2.2.2.1 t1.2.2.2.2.1 t1.2.2.2.2.2.1 t1.2.2.2.2.2.2 t2 ht2) rfl rfl hH (W1 := wS E ad q0_letters q0_trial q0_snapshot q0_isSaved q0_past q0_rows q0_bags q0_tally q0_sizes (q0_text.1, t2, t1.2.1, t1.2.2.1, t1.2.2.2.1, t1.2.2.2.2.1, t1.2.2.2.2.2.1, t1.2.2.2.2.2.2) q0_line q0_latestReason q0_latestDetail) (sp_text E ad q0_letters q0_trial q0_snapshot q0_isSaved q0_past q0_rows q0_bags q0_tally q0_sizes (q0_text.1, q0_text.2.1, t1.2.1, t1.2.2.1, t1.2.2.2.1, t1.2.2.2.2.1, t1.2.2.2.2.2.1, t1.2.2.2.2.2.2) q0_line q0_latestReason q0_latestDetail) (sq_text E ad q0_letters q0_trial q0_snapshot q0_isSaved q0_past q0_rows q0_bags q0_tally q0_sizes (q0_text.1, q0_text.2.1, t1.2.1, t1.2.2.1, t1.2.2.2.1, t1.2.2.2.2.1, t1.2.2.2.2.2.1, t1.2.2.2.2.2.2) q0_line q0_latestReason q0_latestDetail q0_text.1 t2 t1.2.1 t1.2.2.1 t1.2.2.2.1 t1.2.2.2.2.1 t1.2.2.2.2.2.1 t1.2.2.2.2.2.2) rfl rfl rfl hl.1 rfl (Nat.le_of_ble_eq_true rfl) rfl dX8_run_12 (fun H locs hz12 hH => ?_)
  refine lv_iload_n hx hb dX8_run_15 rfl (lv_at hl 0 rfl) ?_
  refine lv_if_lt (tgt := 25) hx hb dX8_run_16 (by decide) (fun c3 => ?_) (fun c3 => ?_)
  · have hf := ite_t hf c3
    refine lv_aload_n hx hb dX8_run_25 rfl (lv_at hl 1 rfl) ?_
    obtain ⟨t4, ht4, hf⟩ := ob hf
    refine k_WVsi hC LX8_218 ⟨Nat.le_of_ble_eq_true rfl, Nat.le_of_ble_eq_true rfl⟩ ⟨Nat.zero_le _, Nat.zero_le _⟩ (cS_tryOrders l E ad q0_letters q0_trial q0_snapshot q0_isSaved q0_past q0_rows q0_bags q0_tally q0_sizes (q0_text.1, t2, t1.2.1, t1.2.2.1, t1.2.2.2.1, t1.2.2.2.2.1, t1.2.2.2.2.2.1, t1.2.2.2.2.2.2) q0_line q0_latestReason q0_latestDetail t4 ht4) rfl rfl hH rfl rfl rfl hl.1 rfl (Nat.le_of_ble_eq_true rfl) rfl dX8_run_26 (fun H locs hz26 hH => ?_)
    have hH : Hp E (adr (wS E ad q0_letters q0_trial q0_snapshot q0_isSaved q0_past q0_rows q0_bags q0_tally q0_sizes q0_text q0_line q0_latestReason q0_latestDetail)) (wS E ad q0_letters t4.2 q0_snapshot q0_isSaved q0_past q0_rows q0_bags q0_tally q0_sizes (q0_text.1, t2, t1.2.1, t1.2.2.1, t1.2.2.2.1, t1.2.2.2.2.1, t1.2.2.2.2.2.1, t1.2.2.2.2.2.2) q0_line q0_latestReason q0_latestDetail) s.heap H locs := hH
    refine lv_istore_n (lv' := [(2, .int t4.1), (1, .int t1.1), (0, .ref (ad 0))]) hx hb dX8_run_29 rfl hl (by decide) rfl (fun ls hl => ?_)
    refine lv_iload_n hx hb dX8_run_30 rfl (lv_at hl 0 rfl) ?_
    refine lv_if_lt (tgt := 41) hx hb dX8_run_31 (by decide) (fun c5 => ?_) (fun c5 => ?_)
    · have hf := ite_t hf c5
      refine lv_aload_n hx hb dX8_run_41 rfl (lv_at hl 2 rfl) ?_
      refine gX8_25 hC hH.1 0 rfl (v := .ref (ad 7)) rfl dX8_run_42 ?_
      refine lv_aload_n hx hb dX8_run_45 rfl (lv_at hl 2 rfl) ?_
      refine gX8_10 hC hH.1 0 rfl (v := .ref (ad 1)) rfl dX8_run_46 ?_
      obtain ⟨t6, ht6, hf⟩ := ob hf
      refine k_WVpv hC LX8_83 ⟨Nat.le_of_ble_eq_true rfl, Nat.le_of_ble_eq_true rfl⟩ ⟨Nat.zero_le _, Nat.zero_le _⟩ (cP_keep l E (fun j => ad (7 + j)) q0_past.1 q0_past.2.1 q0_past.2.2 (fun j => ad (1 + j)) q0_letters.1 q0_letters.2.1 q0_letters.2.2.1 q0_letters.2.2.2.1 q0_letters.2.2.2.2.1 q0_letters.2.2.2.2.2 t6 ht6) rfl rfl hH (W1 := wS E ad q0_letters t4.2 q0_snapshot q0_isSaved (t6.1, t6.2.1, t6.2.2) q0_rows q0_bags q0_tally q0_sizes (q0_text.1, t2, t1.2.1, t1.2.2.1, t1.2.2.2.1, t1.2.2.2.2.1, t1.2.2.2.2.2.1, t1.2.2.2.2.2.2) q0_line q0_latestReason q0_latestDetail) (sp_past_letters E ad q0_letters t4.2 q0_snapshot q0_isSaved q0_past q0_rows q0_bags q0_tally q0_sizes (q0_text.1, t2, t1.2.1, t1.2.2.1, t1.2.2.2.1, t1.2.2.2.2.1, t1.2.2.2.2.2.1, t1.2.2.2.2.2.2) q0_line q0_latestReason q0_latestDetail) (sq_past_letters E ad q0_letters t4.2 q0_snapshot q0_isSaved q0_past q0_rows q0_bags q0_tally q0_sizes (q0_text.1, t2, t1.2.1, t1.2.2.1, t1.2.2.2.1, t1.2.2.2.2.1, t1.2.2.2.2.2.1, t1.2.2.2.2.2.2) q0_line q0_latestReason q0_latestDetail t6.1 t6.2.1 t6.2.2 q0_letters.1 q0_letters.2.1 q0_letters.2.2.1 q0_letters.2.2.2.1 q0_letters.2.2.2.2.1 q0_letters.2.2.2.2.2) rfl rfl rfl hl.1 rfl (Nat.le_of_ble_eq_true rfl) rfl dX8_run_49 (fun H locs hz49 hH => ?_)
      refine lv_aload_n hx hb dX8_run_52 rfl (lv_at hl 2 rfl) ?_
      refine gX8_10 hC hH.1 0 rfl (v := .ref (ad 1)) rfl dX8_run_53 ?_
      refine lv_aload_n hx hb dX8_run_56 rfl (lv_at hl 2 rfl) ?_
      refine gX8_16 hC hH.1 0 rfl (v := .ref (ad 3)) rfl dX8_run_57 ?_
      obtain ⟨t7, ht7, hf⟩ := ob hf
      refine k_WVpv hC LX8_221 ⟨Nat.le_of_ble_eq_true rfl, Nat.le_of_ble_eq_true rfl⟩ ⟨Nat.zero_le _, Nat.zero_le _⟩ (cL_becomeLike l E (fun j => ad (1 + j)) q0_letters.1 q0_letters.2.1 q0_letters.2.2.1 q0_letters.2.2.2.1 q0_letters.2.2.2.2.1 q0_letters.2.2.2.2.2 (fun j => ad (3 + j)) t4.2.1 t4.2.2.1 t4.2.2.2.1 t4.2.2.2.2.1 t4.2.2.2.2.2.1 t4.2.2.2.2.2.2 t7 ht7) rfl rfl hH (W1 := wS E ad (t7.1, t7.2.1, t7.2.2.1, t7.2.2.2.1, t7.2.2.2.2.1, t7.2.2.2.2.2) t4.2 q0_snapshot q0_isSaved (t6.1, t6.2.1, t6.2.2) q0_rows q0_bags q0_tally q0_sizes (q0_text.1, t2, t1.2.1, t1.2.2.1, t1.2.2.2.1, t1.2.2.2.2.1, t1.2.2.2.2.2.1, t1.2.2.2.2.2.2) q0_line q0_latestReason q0_latestDetail) (sp_letters_trial E ad q0_letters t4.2 q0_snapshot q0_isSaved (t6.1, t6.2.1, t6.2.2) q0_rows q0_bags q0_tally q0_sizes (q0_text.1, t2, t1.2.1, t1.2.2.1, t1.2.2.2.1, t1.2.2.2.2.1, t1.2.2.2.2.2.1, t1.2.2.2.2.2.2) q0_line q0_latestReason q0_latestDetail) (sq_letters_trial E ad q0_letters t4.2 q0_snapshot q0_isSaved (t6.1, t6.2.1, t6.2.2) q0_rows q0_bags q0_tally q0_sizes (q0_text.1, t2, t1.2.1, t1.2.2.1, t1.2.2.2.1, t1.2.2.2.2.1, t1.2.2.2.2.2.1, t1.2.2.2.2.2.2) q0_line q0_latestReason q0_latestDetail t7.1 t7.2.1 t7.2.2.1 t7.2.2.2.1 t7.2.2.2.2.1 t7.2.2.2.2.2 t4.2.1 t4.2.2.1 t4.2.2.2.1 t4.2.2.2.2.1 t4.2.2.2.2.2.1 t4.2.2.2.2.2.2) rfl rfl rfl hl.1 rfl (Nat.le_of_ble_eq_true rfl) rfl dX8_run_60 (fun H locs hz60 hH => ?_)
      refine lv_aload_n hx hb dX8_run_63 rfl (lv_at hl 2 rfl) ?_
      obtain ⟨t8, ht8, hf⟩ := ob hf
      refine k_WVsv hC LX8_95 ⟨Nat.le_of_ble_eq_true rfl, Nat.le_of_ble_eq_true rfl⟩ ⟨Nat.zero_le _, Nat.zero_le _⟩ (cS_follow l E ad (t7.1, t7.2.1, t7.2.2.1, t7.2.2.2.1, t7.2.2.2.2.1, t7.2.2.2.2.2) t4.2 q0_snapshot q0_isSaved (t6.1, t6.2.1, t6.2.2) q0_rows q0_bags q0_tally q0_sizes (q0_text.1, t2, t1.2.1, t1.2.2.1, t1.2.2.2.1, t1.2.2.2.2.1, t1.2.2.2.2.2.1, t1.2.2.2.2.2.2) q0_line q0_latestReason q0_latestDetail t8 ht8) rfl rfl hH rfl rfl rfl hl.1 rfl (Nat.le_of_ble_eq_true rfl) rfl dX8_run_64 (fun H locs hz64 hH => ?_)
      have hH : Hp E (adr (wS E ad q0_letters q0_trial q0_snapshot q0_isSaved q0_past q0_rows q0_bags q0_tally q0_sizes q0_text q0_line q0_latestReason q0_latestDetail)) (wS E ad (t7.1, t7.2.1, t7.2.2.1, t7.2.2.2.1, t7.2.2.2.2.1, t7.2.2.2.2.2) t4.2 q0_snapshot q0_isSaved (t6.1, t6.2.1, t6.2.2) t8.1 t8.2 q0_tally q0_sizes (q0_text.1, t2, t1.2.1, t1.2.2.1, t1.2.2.2.1, t1.2.2.2.2.1, t1.2.2.2.2.2.1, t1.2.2.2.2.2.2) q0_line q0_latestReason q0_latestDetail) s.heap H locs := hH
      refine lv_aload_n hx hb dX8_run_67 rfl (lv_at hl 2 rfl) ?_
      refine gX8_60 hC hH.1 0 rfl (v := .ref (ad 43)) rfl dX8_run_68 ?_
      refine k_PVi hC LX8_224 ⟨Nat.le_of_ble_eq_true rfl, Nat.le_of_ble_eq_true rfl⟩ ⟨Nat.zero_le _, Nat.zero_le _⟩ (cT_orders l E (fun j => ad (43 + j)) q0_text.1 t2 t1.2.1 t1.2.2.1 t1.2.2.2.1 t1.2.2.2.2.1 t1.2.2.2.2.2.1 t1.2.2.2.2.2.2 _ rfl) rfl rfl (ss_text hH.1) rfl rfl hl.1 rfl (Nat.le_of_ble_eq_true rfl) rfl dX8_run_71 (fun hz71 => ?_)
      have hf := Option.some.inj hf
      subst hf
      exact e_Wi hC hH hr hlocks rfl rfl dX8_run_74
    · have hf := ite_f hf c5
      refine lv_aload_n hx hb dX8_run_34 rfl (lv_at hl 2 rfl) ?_
      refine lv_iconst (v := 4) hx hb dX8_run_35 (by decide) ?_
      refine lv_iload_n hx hb dX8_run_36 rfl (lv_at hl 0 rfl) ?_
      obtain ⟨t9, ht9, hf⟩ := ob hf
      refine k_WVsi hC LX8_79 ⟨Nat.le_of_ble_eq_true rfl, Nat.le_of_ble_eq_true rfl⟩ ⟨Nat.zero_le _, Nat.zero_le _⟩ (cS_refuse l E ad q0_letters t4.2 q0_snapshot q0_isSaved q0_past q0_rows q0_bags q0_tally q0_sizes (q0_text.1, t2, t1.2.1, t1.2.2.1, t1.2.2.2.1, t1.2.2.2.2.1, t1.2.2.2.2.2.1, t1.2.2.2.2.2.2) q0_line q0_latestReason q0_latestDetail (4 : Int32) t4.1 t9 ht9) rfl rfl hH rfl rfl rfl hl.1 rfl (Nat.le_of_ble_eq_true rfl) rfl dX8_run_37 (fun H locs hz37 hH => ?_)
      have hH : Hp E (adr (wS E ad q0_letters q0_trial q0_snapshot q0_isSaved q0_past q0_rows q0_bags q0_tally q0_sizes q0_text q0_line q0_latestReason q0_latestDetail)) (wS E ad q0_letters t4.2 q0_snapshot q0_isSaved q0_past q0_rows q0_bags q0_tally q0_sizes (q0_text.1, t2, t1.2.1, t1.2.2.1, t1.2.2.2.1, t1.2.2.2.2.1, t1.2.2.2.2.2.1, t1.2.2.2.2.2.2) q0_line t9.2.1 t9.2.2) s.heap H locs := hH
      have hf := Option.some.inj hf
      subst hf
      exact e_Wi hC hH hr hlocks rfl rfl dX8_run_40
  · have hf := ite_f hf c3
    refine lv_sipush (v := (-1000)) hx hb dX8_run_19 (by decide) ?_
    refine lv_iload_n hx hb dX8_run_22 rfl (lv_at hl 0 rfl) ?_
    refine lv_isub hx hb dX8_run_23 ?_
    have hf := Option.some.inj hf
    subst hf
    exact e_Wi hC hH hr hlocks rfl rfl dX8_run_24
abbrev rmS_account : Room := { frames := 4, cells := 0, slots := 0, locals := 84 }
set_option maxHeartbeats 4000000 in
set_option maxRecDepth 100000 in
theorem cS_account (l : Launch) (E : eE) (ad : Nat → Nat) (q0_letters : TL) (q0_trial : TL) (q0_snapshot : TL) (q0_isSaved : Int32) (q0_past : TP) (q0_rows : TR) (q0_bags : TB) (q0_tally : TY) (q0_sizes : TZ) (q0_text : TT) (q0_line : TN) (q0_latestReason : Int32) (q0_latestDetail : Int32) (a1 : Int32) (t : Int32 × TY) (hf : fS_account q0_letters q0_past q0_rows q0_bags q0_tally q0_text a1 = some t) : cW l E yX8_account cX8_account 2 (some .int) rmS_account [.ref (ad 0), .int a1] (wS E ad q0_letters q0_trial q0_snapshot q0_isSaved q0_past q0_rows q0_bags q0_tally q0_sizes q0_text q0_line q0_latestReason q0_latestDetail) (some (.int t.1)) (wS E ad q0_letters q0_trial q0_snapshot q0_isSaved q0_past q0_rows q0_bags t.2 q0_sizes q0_text q0_line q0_latestReason q0_latestDetail) := by
  refine Met.ofW (cc := cX8_account) (maxL := 2) (ret := (some .int)) (by decide) rfl ?_
  intro p e s m args below meth c s₁ B hml hv
  obtain ⟨hargs, hP, hK, hD0⟩ := hv
  have hx := B.exec
  have hb := B.bytes
  have hr := B.returns
  have hts := atoms_spec (ws := ws_ yX8_account cX8_account 2 (some .int)) B.pre
  have hta : ∀ w ∈ lw_all, w.before args s = true := fun w h => hts w (List.mem_cons_of_mem _ h)
  have hown : s.vm.findClass RX8 = some m.cls := findClass_of_methodNamed B.named
  have hlocks := B.notSynchronized
  have hC : Cx p s m args c cX8_account 2 RX8 E := ⟨hx, hb, hml, hown, hta, hK⟩
  have hH : Hp E (adr (wS E ad q0_letters q0_trial q0_snapshot q0_isSaved q0_past q0_rows q0_bags q0_tally q0_sizes q0_text q0_line q0_latestReason q0_latestDetail)) (wS E ad q0_letters q0_trial q0_snapshot q0_isSaved q0_past q0_rows q0_bags q0_tally q0_sizes q0_text q0_line q0_latestReason q0_latestDetail) s.heap s.heap [] := Hp.start hP hD0
  obtain ⟨ls, he, hl⟩ := entry_ (m := m) (n := 2) hargs (Nat.le_of_ble_eq_true rfl)
  rw [he]
  have hl : lv_has ls 2 [(0, .ref (ad 0)), (1, .int a1)] := hl
  show W p l e rmS_account s m args below meth c s.heap [] 0 0 (MQ below (qW E (some .int) (some (.int t.1)) (wS E ad q0_letters q0_trial q0_snapshot q0_isSaved q0_past q0_rows q0_bags q0_tally q0_sizes q0_text q0_line q0_latestReason q0_latestDetail) (wS E ad q0_letters q0_trial q0_snapshot q0_isSaved q0_past q0_rows q0_bags t.2 q0_sizes q0_text q0_line q0_latestReason q0_latestDetail)) args s 0 0 (adr (wS E ad q0_letters q0_trial q0_snapshot q0_isSaved q0_past q0_rows q0_bags q0_tally q0_sizes q0_text q0_line q0_latestReason q0_latestDetail))) (F0 m 0 ls [])
  suffices hmain : ∀ (H : Heap) (locs : List Loc), Hp E (adr (wS E ad q0_letters q0_trial q0_snapshot q0_isSaved q0_past q0_rows q0_bags q0_tally q0_sizes q0_text q0_line q0_latestReason q0_latestDetail)) (wS E ad q0_letters q0_trial q0_snapshot q0_isSaved q0_past q0_rows q0_bags q0_tally q0_sizes q0_text q0_line q0_latestReason q0_latestDetail) s.heap H locs → W p l e rmS_account s m args below meth c H locs 0 0 (MQ below (qW E (some .int) (some (.int t.1)) (wS E ad q0_letters q0_trial q0_snapshot q0_isSaved q0_past q0_rows q0_bags q0_tally q0_sizes q0_text q0_line q0_latestReason q0_latestDetail) (wS E ad q0_letters q0_trial q0_snapshot q0_isSaved q0_past q0_rows q0_bags t.2 q0_sizes q0_text q0_line q0_latestReason q0_latestDetail)) args s 0 0 (adr (wS E ad q0_letters q0_trial q0_snapshot q0_isSaved q0_past q0_rows q0_bags q0_tally q0_sizes q0_text q0_line q0_latestReason q0_latestDetail))) (F0 m 0 ls []) from hmain _ _ hH
  clear hH
  intro H locs hH
  rw [fS_account] at hf
  refine lv_iload_n hx hb dX8_account_0 rfl (lv_at hl 1 rfl) ?_
  by_cases c1_0 : a1 = (0 : Int32)
  · have hf := ite_t hf c1_0
    have e9 : (a1).toInt = 0 := by rw [c1_0]; decide
    refine lv_tableIn (tgt := 60) hx hb dX8_account_1 (by omega) (by omega) (by rw [e9]; rfl) (by decide) ?_
    refine lv_aload_n hx hb dX8_account_60 rfl (lv_at hl 0 rfl) ?_
    refine gX8_10 hC hH.1 0 rfl (v := .ref (ad 1)) rfl dX8_account_61 ?_
    refine k_PVi hC LX8_87 ⟨Nat.le_of_ble_eq_true rfl, Nat.le_of_ble_eq_true rfl⟩ ⟨Nat.zero_le _, Nat.zero_le _⟩ (cL_size l E (fun j => ad (1 + j)) q0_letters.1 q0_letters.2.1 q0_letters.2.2.1 q0_letters.2.2.2.1 q0_letters.2.2.2.2.1 q0_letters.2.2.2.2.2 _ rfl) rfl rfl (ss_letters hH.1) rfl rfl hl.1 rfl (Nat.le_of_ble_eq_true rfl) rfl dX8_account_64 (fun hz64 => ?_)
    have hf := Option.some.inj hf
    subst hf
    exact e_Wi hC hH hr hlocks rfl rfl dX8_account_67
  · have hf := ite_f hf c1_0
    by_cases c1_1 : a1 = (1 : Int32)
    · have hf := ite_t hf c1_1
      have e9 : (a1).toInt = 1 := by rw [c1_1]; decide
      refine lv_tableIn (tgt := 68) hx hb dX8_account_1 (by omega) (by omega) (by rw [e9]; rfl) (by decide) ?_
      refine lv_aload_n hx hb dX8_account_68 rfl (lv_at hl 0 rfl) ?_
      refine gX8_10 hC hH.1 0 rfl (v := .ref (ad 1)) rfl dX8_account_69 ?_
      obtain ⟨t1, ht1, hf⟩ := ob hf
      refine k_PVi hC LX8_245 ⟨Nat.le_of_ble_eq_true rfl, Nat.le_of_ble_eq_true rfl⟩ ⟨Nat.zero_le _, Nat.zero_le _⟩ (cL_total l E (fun j => ad (1 + j)) q0_letters.1 q0_letters.2.1 q0_letters.2.2.1 q0_letters.2.2.2.1 q0_letters.2.2.2.2.1 q0_letters.2.2.2.2.2 t1 ht1) rfl rfl (ss_letters hH.1) rfl rfl hl.1 rfl (Nat.le_of_ble_eq_true rfl) rfl dX8_account_72 (fun hz72 => ?_)
      have hf := Option.some.inj hf
      subst hf
      exact e_Wi hC hH hr hlocks rfl rfl dX8_account_75
    · have hf := ite_f hf c1_1
      by_cases c1_2 : a1 = (2 : Int32)
      · have hf := ite_t hf c1_2
        have e9 : (a1).toInt = 2 := by rw [c1_2]; decide
        refine lv_tableIn (tgt := 76) hx hb dX8_account_1 (by omega) (by omega) (by rw [e9]; rfl) (by decide) ?_
        refine lv_aload_n hx hb dX8_account_76 rfl (lv_at hl 0 rfl) ?_
        refine gX8_10 hC hH.1 0 rfl (v := .ref (ad 1)) rfl dX8_account_77 ?_
        refine k_PVi hC LX8_248 ⟨Nat.le_of_ble_eq_true rfl, Nat.le_of_ble_eq_true rfl⟩ ⟨Nat.zero_le _, Nat.zero_le _⟩ (cL_came l E (fun j => ad (1 + j)) q0_letters.1 q0_letters.2.1 q0_letters.2.2.1 q0_letters.2.2.2.1 q0_letters.2.2.2.2.1 q0_letters.2.2.2.2.2 _ rfl) rfl rfl (ss_letters hH.1) rfl rfl hl.1 rfl (Nat.le_of_ble_eq_true rfl) rfl dX8_account_80 (fun hz80 => ?_)
        have hf := Option.some.inj hf
        subst hf
        exact e_Wi hC hH hr hlocks rfl rfl dX8_account_83
      · have hf := ite_f hf c1_2
        by_cases c1_3 : a1 = (3 : Int32)
        · have hf := ite_t hf c1_3
          have e9 : (a1).toInt = 3 := by rw [c1_3]; decide
          refine lv_tableIn (tgt := 84) hx hb dX8_account_1 (by omega) (by omega) (by rw [e9]; rfl) (by decide) ?_
          refine lv_aload_n hx hb dX8_account_84 rfl (lv_at hl 0 rfl) ?_
          refine gX8_10 hC hH.1 0 rfl (v := .ref (ad 1)) rfl dX8_account_85 ?_
          refine k_PVi hC LX8_251 ⟨Nat.le_of_ble_eq_true rfl, Nat.le_of_ble_eq_true rfl⟩ ⟨Nat.zero_le _, Nat.zero_le _⟩ (cL_left l E (fun j => ad (1 + j)) q0_letters.1 q0_letters.2.1 q0_letters.2.2.1 q0_letters.2.2.2.1 q0_letters.2.2.2.2.1 q0_letters.2.2.2.2.2 _ rfl) rfl rfl (ss_letters hH.1) rfl rfl hl.1 rfl (Nat.le_of_ble_eq_true rfl) rfl dX8_account_88 (fun hz88 => ?_)
          have hf := Option.some.inj hf
          subst hf
          exact e_Wi hC hH hr hlocks rfl rfl dX8_account_91
        · have hf := ite_f hf c1_3
          by_cases c1_4 : a1 = (4 : Int32)
          · have hf := ite_t hf c1_4
            have e9 : (a1).toInt = 4 := by rw [c1_4]; decide
            refine lv_tableIn (tgt := 92) hx hb dX8_account_1 (by omega) (by omega) (by rw [e9]; rfl) (by decide) ?_
            refine lv_aload_n hx hb dX8_account_92 rfl (lv_at hl 0 rfl) ?_
            refine gX8_39 hC hH.1 0 rfl (v := .ref (ad 36)) rfl dX8_account_93 ?_
            refine k_PVi hC LX8_185 ⟨Nat.le_of_ble_eq_true rfl, Nat.le_of_ble_eq_true rfl⟩ ⟨Nat.zero_le _, Nat.zero_le _⟩ (cB_number l E (fun j => ad (36 + j)) q0_bags.1 q0_bags.2.1 q0_bags.2.2.1 q0_bags.2.2.2 _ rfl) rfl rfl (ss_bags hH.1) rfl rfl hl.1 rfl (Nat.le_of_ble_eq_true rfl) rfl dX8_account_96 (fun hz96 => ?_)
            have hf := Option.some.inj hf
            subst hf
            exact e_Wi hC hH hr hlocks rfl rfl dX8_account_99
          · have hf := ite_f hf c1_4
            by_cases c1_5 : a1 = (5 : Int32)
            · have hf := ite_t hf c1_5
              have e9 : (a1).toInt = 5 := by rw [c1_5]; decide
              refine lv_tableIn (tgt := 100) hx hb dX8_account_1 (by omega) (by omega) (by rw [e9]; rfl) (by decide) ?_
              refine lv_aload_n hx hb dX8_account_100 rfl (lv_at hl 0 rfl) ?_
              refine gX8_10 hC hH.1 0 rfl (v := .ref (ad 1)) rfl dX8_account_101 ?_
              refine k_PVi hC LX8_124 ⟨Nat.le_of_ble_eq_true rfl, Nat.le_of_ble_eq_true rfl⟩ ⟨Nat.zero_le _, Nat.zero_le _⟩ (cL_marked l E (fun j => ad (1 + j)) q0_letters.1 q0_letters.2.1 q0_letters.2.2.1 q0_letters.2.2.2.1 q0_letters.2.2.2.2.1 q0_letters.2.2.2.2.2 _ rfl) rfl rfl (ss_letters hH.1) rfl rfl hl.1 rfl (Nat.le_of_ble_eq_true rfl) rfl dX8_account_104 (fun hz104 => ?_)
              have hf := Option.some.inj hf
              subst hf
              exact e_Wi hC hH hr hlocks rfl rfl dX8_account_107
            · have hf := ite_f hf c1_5
              by_cases c1_6 : a1 = (6 : Int32)
              · have hf := ite_t hf c1_6
                have e9 : (a1).toInt = 6 := by rw [c1_6]; decide
                refine lv_tableIn (tgt := 108) hx hb dX8_account_1 (by omega) (by omega) (by rw [e9]; rfl) (by decide) ?_
                refine lv_aload_n hx hb dX8_account_108 rfl (lv_at hl 0 rfl) ?_
                refine gX8_46 hC hH.1 0 rfl (v := .ref (ad 39)) rfl dX8_account_109 ?_
                refine lv_aload_n hx hb dX8_account_112 rfl (lv_at hl 0 rfl) ?_
                refine gX8_10 hC hH.1 0 rfl (v := .ref (ad 1)) rfl dX8_account_113 ?_
                refine lv_iconst (v := 0) hx hb dX8_account_116 (by decide) ?_
                refine lv_aload_n hx hb dX8_account_117 rfl (lv_at hl 0 rfl) ?_
                refine gX8_10 hC hH.1 0 rfl (v := .ref (ad 1)) rfl dX8_account_118 ?_
                refine k_PVi hC LX8_87 ⟨Nat.le_of_ble_eq_true rfl, Nat.le_of_ble_eq_true rfl⟩ ⟨Nat.zero_le _, Nat.zero_le _⟩ (cL_size l E (fun j => ad (1 + j)) q0_letters.1 q0_letters.2.1 q0_letters.2.2.1 q0_letters.2.2.2.1 q0_letters.2.2.2.2.1 q0_letters.2.2.2.2.2 _ rfl) rfl rfl (ss_letters hH.1) rfl rfl hl.1 rfl (Nat.le_of_ble_eq_true rfl) rfl dX8_account_121 (fun hz121 => ?_)
                obtain ⟨t2, ht2, hf⟩ := ob hf
                refine k_WVpv hC LX8_181 ⟨Nat.le_of_ble_eq_true rfl, Nat.le_of_ble_eq_true rfl⟩ ⟨Nat.zero_le _, Nat.zero_le _⟩ (cY_fill l E (fun j => ad (39 + j)) q0_tally (fun j => ad (1 + j)) q0_letters.1 q0_letters.2.1 q0_letters.2.2.1 q0_letters.2.2.2.1 q0_letters.2.2.2.2.1 q0_letters.2.2.2.2.2 (0 : Int32) (fL_size q0_letters.2.1) t2 ht2) rfl rfl hH (W1 := wS E ad q0_letters q0_trial q0_snapshot q0_isSaved q0_past q0_rows q0_bags t2 q0_sizes q0_text q0_line q0_latestReason q0_latestDetail) (sp_tally_letters E ad q0_letters q0_trial q0_snapshot q0_isSaved q0_past q0_rows q0_bags q0_tally q0_sizes q0_text q0_line q0_latestReason q0_latestDetail) (sq_tally_letters E ad q0_letters q0_trial q0_snapshot q0_isSaved q0_past q0_rows q0_bags q0_tally q0_sizes q0_text q0_line q0_latestReason q0_latestDetail t2 q0_letters.1 q0_letters.2.1 q0_letters.2.2.1 q0_letters.2.2.2.1 q0_letters.2.2.2.2.1 q0_letters.2.2.2.2.2) rfl rfl rfl hl.1 rfl (Nat.le_of_ble_eq_true rfl) rfl dX8_account_124 (fun H locs hz124 hH => ?_)
                refine lv_aload_n hx hb dX8_account_127 rfl (lv_at hl 0 rfl) ?_
                refine gX8_46 hC hH.1 0 rfl (v := .ref (ad 39)) rfl dX8_account_128 ?_
                obtain ⟨t3, ht3, hf⟩ := ob hf
                refine k_PVi hC LX8_197 ⟨Nat.le_of_ble_eq_true rfl, Nat.le_of_ble_eq_true rfl⟩ ⟨Nat.zero_le _, Nat.zero_le _⟩ (cY_unlike l E (fun j => ad (39 + j)) t2 t3 ht3) rfl rfl (ss_tally hH.1) rfl rfl hl.1 rfl (Nat.le_of_ble_eq_true rfl) rfl dX8_account_131 (fun hz131 => ?_)
                have hf := Option.some.inj hf
                subst hf
                exact e_Wi hC hH hr hlocks rfl rfl dX8_account_134
              · have hf := ite_f hf c1_6
                by_cases c1_7 : a1 = (7 : Int32)
                · have hf := ite_t hf c1_7
                  have e9 : (a1).toInt = 7 := by rw [c1_7]; decide
                  refine lv_tableIn (tgt := 135) hx hb dX8_account_1 (by omega) (by omega) (by rw [e9]; rfl) (by decide) ?_
                  refine lv_aload_n hx hb dX8_account_135 rfl (lv_at hl 0 rfl) ?_
                  refine gX8_10 hC hH.1 0 rfl (v := .ref (ad 1)) rfl dX8_account_136 ?_
                  refine k_PVi hC LX8_254 ⟨Nat.le_of_ble_eq_true rfl, Nat.le_of_ble_eq_true rfl⟩ ⟨Nat.zero_le _, Nat.zero_le _⟩ (cL_swaps l E (fun j => ad (1 + j)) q0_letters.1 q0_letters.2.1 q0_letters.2.2.1 q0_letters.2.2.2.1 q0_letters.2.2.2.2.1 q0_letters.2.2.2.2.2 _ rfl) rfl rfl (ss_letters hH.1) rfl rfl hl.1 rfl (Nat.le_of_ble_eq_true rfl) rfl dX8_account_139 (fun hz139 => ?_)
                  have hf := Option.some.inj hf
                  subst hf
                  exact e_Wi hC hH hr hlocks rfl rfl dX8_account_142
                · have hf := ite_f hf c1_7
                  by_cases c1_8 : a1 = (8 : Int32)
                  · have hf := ite_t hf c1_8
                    have e9 : (a1).toInt = 8 := by rw [c1_8]; decide
                    refine lv_tableIn (tgt := 143) hx hb dX8_account_1 (by omega) (by omega) (by rw [e9]; rfl) (by decide) ?_
                    refine lv_aload_n hx hb dX8_account_143 rfl (lv_at hl 0 rfl) ?_
                    refine gX8_32 hC hH.1 0 rfl (v := .ref (ad 25)) rfl dX8_account_144 ?_
                    obtain ⟨t4, ht4, hf⟩ := ob hf
                    refine k_PVi hC LX8_257 ⟨Nat.le_of_ble_eq_true rfl, Nat.le_of_ble_eq_true rfl⟩ ⟨Nat.zero_le _, Nat.zero_le _⟩ (cR_onesOfAll l E (fun j => ad (25 + j)) q0_rows.1 q0_rows.2.1 q0_rows.2.2.1 q0_rows.2.2.2.1 q0_rows.2.2.2.2.1 q0_rows.2.2.2.2.2 t4 ht4) rfl rfl (ss_rows hH.1) rfl rfl hl.1 rfl (Nat.le_of_ble_eq_true rfl) rfl dX8_account_147 (fun hz147 => ?_)
                    have hf := Option.some.inj hf
                    subst hf
                    exact e_Wi hC hH hr hlocks rfl rfl dX8_account_150
                  · have hf := ite_f hf c1_8
                    by_cases c1_9 : a1 = (9 : Int32)
                    · have hf := ite_t hf c1_9
                      have e9 : (a1).toInt = 9 := by rw [c1_9]; decide
                      refine lv_tableIn (tgt := 151) hx hb dX8_account_1 (by omega) (by omega) (by rw [e9]; rfl) (by decide) ?_
                      refine lv_aload_n hx hb dX8_account_151 rfl (lv_at hl 0 rfl) ?_
                      refine gX8_60 hC hH.1 0 rfl (v := .ref (ad 43)) rfl dX8_account_152 ?_
                      refine k_PVi hC LX8_211 ⟨Nat.le_of_ble_eq_true rfl, Nat.le_of_ble_eq_true rfl⟩ ⟨Nat.zero_le _, Nat.zero_le _⟩ (cT_size l E (fun j => ad (43 + j)) q0_text.1 q0_text.2.1 q0_text.2.2.1 q0_text.2.2.2.1 q0_text.2.2.2.2.1 q0_text.2.2.2.2.2.1 q0_text.2.2.2.2.2.2.1 q0_text.2.2.2.2.2.2.2 _ rfl) rfl rfl (ss_text hH.1) rfl rfl hl.1 rfl (Nat.le_of_ble_eq_true rfl) rfl dX8_account_155 (fun hz155 => ?_)
                      have hf := Option.some.inj hf
                      subst hf
                      exact e_Wi hC hH hr hlocks rfl rfl dX8_account_158
                    · have hf := ite_f hf c1_9
                      by_cases c1_10 : a1 = (10 : Int32)
                      · have hf := ite_t hf c1_10
                        have e9 : (a1).toInt = 10 := by rw [c1_10]; decide
                        refine lv_tableIn (tgt := 159) hx hb dX8_account_1 (by omega) (by omega) (by rw [e9]; rfl) (by decide) ?_
                        refine lv_aload_n hx hb dX8_account_159 rfl (lv_at hl 0 rfl) ?_
                        refine gX8_25 hC hH.1 0 rfl (v := .ref (ad 7)) rfl dX8_account_160 ?_
                        refine k_PVi hC LX8_260 ⟨Nat.le_of_ble_eq_true rfl, Nat.le_of_ble_eq_true rfl⟩ ⟨Nat.zero_le _, Nat.zero_le _⟩ (cP_size l E (fun j => ad (7 + j)) q0_past.1 q0_past.2.1 q0_past.2.2 _ rfl) rfl rfl (ss_past hH.1) rfl rfl hl.1 rfl (Nat.le_of_ble_eq_true rfl) rfl dX8_account_163 (fun hz163 => ?_)
                        have hf := Option.some.inj hf
                        subst hf
                        exact e_Wi hC hH hr hlocks rfl rfl dX8_account_166
                      · have hf := ite_f hf c1_10
                        have hd : W p l e rmS_account s m args below meth c H locs 0 0 (MQ below (qW E (some .int) (some (.int t.1)) (wS E ad q0_letters q0_trial q0_snapshot q0_isSaved q0_past q0_rows q0_bags q0_tally q0_sizes q0_text q0_line q0_latestReason q0_latestDetail) (wS E ad q0_letters q0_trial q0_snapshot q0_isSaved q0_past q0_rows q0_bags t.2 q0_sizes q0_text q0_line q0_latestReason q0_latestDetail)) args s 0 0 (adr (wS E ad q0_letters q0_trial q0_snapshot q0_isSaved q0_past q0_rows q0_bags q0_tally q0_sizes q0_text q0_line q0_latestReason q0_latestDetail))) (F0 m 167 ls []) := by
                          refine lv_bipush (v := (-12)) hx hb dX8_account_167 (by decide) ?_
                          have hf := Option.some.inj hf
                          subst hf
                          exact e_Wi hC hH hr hlocks rfl rfl dX8_account_169
                        refine lv_tableOut (tgt := 167) hx hb dX8_account_1 (by have n0 := lv_neT c1_0 (a := 0) (by decide); have n1 := lv_neT c1_1 (a := 1) (by decide); have n2 := lv_neT c1_2 (a := 2) (by decide); have n3 := lv_neT c1_3 (a := 3) (by decide); have n4 := lv_neT c1_4 (a := 4) (by decide); have n5 := lv_neT c1_5 (a := 5) (by decide); have n6 := lv_neT c1_6 (a := 6) (by decide); have n7 := lv_neT c1_7 (a := 7) (by decide); have n8 := lv_neT c1_8 (a := 8) (by decide); have n9 := lv_neT c1_9 (a := 9) (by decide); have n10 := lv_neT c1_10 (a := 10) (by decide); omega) (by decide) hd
