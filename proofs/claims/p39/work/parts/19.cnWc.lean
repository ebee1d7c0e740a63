abbrev rmW_acts : Room := { frames := 10, cells := 0, slots := 0, locals := 214 }
set_option maxHeartbeats 4000000 in
set_option maxRecDepth 100000 in
theorem cW_acts (l : Launch) (E : eE) (G : eG) (ad2 : Nat → Nat) (q0_letters : TL) (q0_trial : TL) (q0_snapshot : TL) (q0_isSaved : Int32) (q0_past : TP) (q0_rows : TR) (q0_bags : TB) (q0_tally : TY) (q0_sizes : TZ) (q0_text : TT) (q0_line : TN) (q0_latestReason : Int32) (q0_latestDetail : Int32) (a1 : Int32) (t : Int64 × TL × TL × TP × TR × TB × TY × TT × Int32 × Int32) (hf : fW_acts q0_letters q0_trial q0_past q0_rows q0_bags q0_tally q0_text q0_latestReason q0_latestDetail a1 = some t) : cWS l E G yL_acts cL_acts 4 (some .long) rmW_acts [.ref (ad2 0), .int a1] (wS E ad2 q0_letters q0_trial q0_snapshot q0_isSaved q0_past q0_rows q0_bags q0_tally q0_sizes q0_text q0_line q0_latestReason q0_latestDetail) (some (.long t.1)) (wS E ad2 t.2.1 t.2.2.1 q0_snapshot q0_isSaved t.2.2.2.1 t.2.2.2.2.1 t.2.2.2.2.2.1 t.2.2.2.2.2.2.1 q0_sizes t.2.2.2.2.2.2.2.1 q0_line t.2.2.2.2.2.2.2.2.1 t.2.2.2.2.2.2.2.2.2) := by
  refine Met.ofW (cc := cL_acts) (maxL := 4) (ret := (some .long)) (by decide) rfl ?_
  intro p e s m args below meth c s₁ B hml hv
  obtain ⟨hargs, hP, hK, hD0, hSC⟩ := hv
  have hx := B.exec
  have hb := B.bytes
  have hr := B.returns
  have hts := atoms_spec (ws := ws_ yL_acts cL_acts 4 (some .long)) B.pre
  have hta : ∀ w ∈ lw_all, w.before args s = true := fun w h => hts w (List.mem_cons_of_mem _ h)
  have hown : s.vm.findClass RL = some m.cls := findClass_of_methodNamed B.named
  have hlocks := B.notSynchronized
  have hC : Cx p s m args c cL_acts 4 RL E := ⟨hx, hb, hml, hown, hta, hK⟩
  have hH : Hp E (adr (wS E ad2 q0_letters q0_trial q0_snapshot q0_isSaved q0_past q0_rows q0_bags q0_tally q0_sizes q0_text q0_line q0_latestReason q0_latestDetail)) (wS E ad2 q0_letters q0_trial q0_snapshot q0_isSaved q0_past q0_rows q0_bags q0_tally q0_sizes q0_text q0_line q0_latestReason q0_latestDetail) s.heap s.heap [] := Hp.start hP hD0
  obtain ⟨ls, he, hl⟩ := entry_ (m := m) (n := 4) hargs (Nat.le_of_ble_eq_true rfl)
  rw [he]
  have hl : lv_has ls 4 [(0, .ref (ad2 0)), (1, .int a1)] := hl
  show W p l e rmW_acts s m args below meth c s.heap [] 0 0 (MQ below (qW E (some .long) (some (.long t.1)) (wS E ad2 q0_letters q0_trial q0_snapshot q0_isSaved q0_past q0_rows q0_bags q0_tally q0_sizes q0_text q0_line q0_latestReason q0_latestDetail) (wS E ad2 t.2.1 t.2.2.1 q0_snapshot q0_isSaved t.2.2.2.1 t.2.2.2.2.1 t.2.2.2.2.2.1 t.2.2.2.2.2.2.1 q0_sizes t.2.2.2.2.2.2.2.1 q0_line t.2.2.2.2.2.2.2.2.1 t.2.2.2.2.2.2.2.2.2)) args s 0 0 (adr (wS E ad2 q0_letters q0_trial q0_snapshot q0_isSaved q0_past q0_rows q0_bags q0_tally q0_sizes q0_text q0_line q0_latestReason q0_latestDetail))) (F0 m 0 ls [])
  suffices hmain : ∀ (H : Heap) (locs : List Loc), Hp E (adr (wS E ad2 q0_letters q0_trial q0_snapshot q0_isSaved q0_past q0_rows q0_bags q0_tally q0_sizes q0_text q0_line q0_latestReason q0_latestDetail)) (wS E ad2 q0_letters q0_trial q0_snapshot q0_isSaved q0_past q0_rows q0_bags q0_tally q0_sizes q0_text q0_line q0_latestReason q0_latestDetail) s.heap H locs → W p l e rmW_acts s m args below meth c H locs 0 0 (MQ below (qW E (some .long) (some (.long t.1)) (wS E ad2 q0_letters q0_trial q0_snapshot q0_isSaved q0_past q0_rows q0_bags q0_tally q0_sizes q0_text q0_line q0_latestReason q0_latestDetail) (wS E ad2 t.2.1 t.2.2.1 q0_snapshot q0_isSaved t.2.2.2.1 t.2.2.2.2.1 t.2.2.2.2.2.1 t.2.2.2.2.2.2.1 q0_sizes t.2.2.2.2.2.2.2.1 q0_line t.2.2.2.2.2.2.2.2.1 t.2.2.2.2.2.2.2.2.2)) args s 0 0 (adr (wS E ad2 q0_letters q0_trial q0_snapshot q0_isSaved q0_past q0_rows q0_bags q0_tally q0_sizes q0_text q0_line q0_latestReason q0_latestDetail))) (F0 m 0 ls []) from hmain _ _ hH
  clear hH
  intro H locs hH
  rw [fW_acts] at hf
  refine lv_iload_n hx hb dL_acts_0 rfl (lv_at hl 1 rfl) ?_
  refine lv_bipush (v := 8) hx hb dL_acts_1 (by decide) ?_
  refine lv_ishr hx hb dL_acts_3 ?_
  refine lv_ldc hx hb hown (hta _ q2_239) dL_acts_4 ?_
  obtain ⟨t1, ht1, hf⟩ := ob hf
  refine k_PSi hC LL_167 ⟨Nat.le_of_ble_eq_true rfl, Nat.le_of_ble_eq_true rfl⟩ ⟨Nat.zero_le _, Nat.zero_le _⟩ (cW_chosen l E (a1 >>> ((8 : Int32) &&& 31)) (40000 : Int32) t1 ht1) rfl rfl (vP_nil) hl.1 rfl (Nat.le_of_ble_eq_true rfl) rfl dL_acts_6 (fun hz6 => ?_)
  refine lv_istore_n (lv' := [(2, .int t1), (0, .ref (ad2 0)), (1, .int a1)]) hx hb dL_acts_9 rfl hl (by decide) rfl (fun ls hl => ?_)
  refine lv_iconst (v := 1) hx hb dL_acts_10 (by decide) ?_
  refine lv_aload_n hx hb dL_acts_11 rfl (lv_at hl 1 rfl) ?_
  refine lv_iconst (v := 0) hx hb dL_acts_12 (by decide) ?_
  obtain ⟨t2, ht2, hf⟩ := ob hf
  refine k_WSsl hC LL_158 ⟨Nat.le_of_ble_eq_true rfl, Nat.le_of_ble_eq_true rfl⟩ ⟨Nat.zero_le _, Nat.zero_le _⟩ (cW_account l E ad2 q0_letters q0_trial q0_snapshot q0_isSaved q0_past q0_rows q0_bags q0_tally q0_sizes q0_text q0_line q0_latestReason q0_latestDetail (0 : Int32) t2 ht2) rfl rfl hH rfl hl.1 rfl (Nat.le_of_ble_eq_true rfl) rfl dL_acts_13 (fun H locs hz13 hH => ?_)
  have hH : Hp E (adr (wS E ad2 q0_letters q0_trial q0_snapshot q0_isSaved q0_past q0_rows q0_bags q0_tally q0_sizes q0_text q0_line q0_latestReason q0_latestDetail)) (wS E ad2 q0_letters q0_trial q0_snapshot q0_isSaved q0_past q0_rows q0_bags t2.2 q0_sizes q0_text q0_line q0_latestReason q0_latestDetail) s.heap H locs := hH
  refine lv_l2i hx hb dL_acts_16 rfl ?_
  refine va_mmax hx hb (hml.trans hl.1.symm) hown (hta _ q3_0) (hta _ q3_1) (hta _ q1_11) (hta _ q3_2) (Nat.le_of_ble_eq_true rfl) (Nat.le_of_ble_eq_true rfl) (Nat.zero_le _) (Nat.zero_le _) dL_acts_17 ?_
  rw [show (if (1 : Int32) < t2.1.toInt32 then t2.1.toInt32 else (1 : Int32)) = fJ_max (1 : Int32) t2.1.toInt32 from rfl]
  refine lv_istore_n (lv' := [(3, .int (fJ_max (1 : Int32) t2.1.toInt32)), (2, .int t1), (0, .ref (ad2 0)), (1, .int a1)]) hx hb dL_acts_20 rfl hl (by decide) rfl (fun ls hl => ?_)
  refine lv_iload_n hx hb dL_acts_21 rfl (lv_at hl 3 rfl) ?_
  refine lv_bipush (v := 16) hx hb dL_acts_22 (by decide) ?_
  obtain ⟨t3, ht3, hf⟩ := ob hf
  refine k_PSi hC LL_167 ⟨Nat.le_of_ble_eq_true rfl, Nat.le_of_ble_eq_true rfl⟩ ⟨Nat.zero_le _, Nat.zero_le _⟩ (cW_chosen l E a1 (16 : Int32) t3 ht3) rfl rfl (vP_nil) hl.1 rfl (Nat.le_of_ble_eq_true rfl) rfl dL_acts_24 (fun hz24 => ?_)
  by_cases c27_0 : t3 = (0 : Int32)
  · have hf := ite_t hf c27_0
    have e9 : (t3).toInt = 0 := by rw [c27_0]; decide
    refine lv_tableIn (tgt := 88) hx hb dL_acts_27 (by omega) (by omega) (by rw [e9]; rfl) (by decide) ?_
    refine lv_aload_n hx hb dL_acts_88 rfl (lv_at hl 2 rfl) ?_
    refine lv_iload_n hx hb dL_acts_89 rfl (lv_at hl 1 rfl) ?_
    refine lv_bipush (v := 32) hx hb dL_acts_90 (by decide) ?_
    refine lv_irem hx hb dL_acts_92 (by decide) ?_
    obtain ⟨t4, ht4, hf⟩ := ob hf
    refine k_WSsl hC LL_175 ⟨Nat.le_of_ble_eq_true rfl, Nat.le_of_ble_eq_true rfl⟩ ⟨Nat.zero_le _, Nat.zero_le _⟩ (cW_put l E ad2 q0_letters q0_trial q0_snapshot q0_isSaved q0_past q0_rows q0_bags t2.2 q0_sizes q0_text q0_line q0_latestReason q0_latestDetail (t1 - t1 / (32 : Int32) * (32 : Int32)) t4 ht4) rfl rfl hH rfl hl.1 rfl (Nat.le_of_ble_eq_true rfl) rfl dL_acts_93 (fun H locs hz93 hH => ?_)
    have hH : Hp E (adr (wS E ad2 q0_letters q0_trial q0_snapshot q0_isSaved q0_past q0_rows q0_bags q0_tally q0_sizes q0_text q0_line q0_latestReason q0_latestDetail)) (wS E ad2 t4.2.1 q0_trial q0_snapshot q0_isSaved t4.2.2.1 t4.2.2.2.1 t4.2.2.2.2.1 t2.2 q0_sizes q0_text q0_line t4.2.2.2.2.2.1 t4.2.2.2.2.2.2) s.heap H locs := hH
    have hf := Option.some.inj hf
    subst hf
    exact e_Wl hC hH hr hlocks rfl rfl dL_acts_96
  · have hf := ite_f hf c27_0
    by_cases c27_1 : t3 = (1 : Int32)
    · have hf := ite_t hf c27_1
      have e9 : (t3).toInt = 1 := by rw [c27_1]; decide
      refine lv_tableIn (tgt := 88) hx hb dL_acts_27 (by omega) (by omega) (by rw [e9]; rfl) (by decide) ?_
      refine lv_aload_n hx hb dL_acts_88 rfl (lv_at hl 2 rfl) ?_
      refine lv_iload_n hx hb dL_acts_89 rfl (lv_at hl 1 rfl) ?_
      refine lv_bipush (v := 32) hx hb dL_acts_90 (by decide) ?_
      refine lv_irem hx hb dL_acts_92 (by decide) ?_
      obtain ⟨t5, ht5, hf⟩ := ob hf
      refine k_WSsl hC LL_175 ⟨Nat.le_of_ble_eq_true rfl, Nat.le_of_ble_eq_true rfl⟩ ⟨Nat.zero_le _, Nat.zero_le _⟩ (cW_put l E ad2 q0_letters q0_trial q0_snapshot q0_isSaved q0_past q0_rows q0_bags t2.2 q0_sizes q0_text q0_line q0_latestReason q0_latestDetail (t1 - t1 / (32 : Int32) * (32 : Int32)) t5 ht5) rfl rfl hH rfl hl.1 rfl (Nat.le_of_ble_eq_true rfl) rfl dL_acts_93 (fun H locs hz93 hH => ?_)
      have hH : Hp E (adr (wS E ad2 q0_letters q0_trial q0_snapshot q0_isSaved q0_past q0_rows q0_bags q0_tally q0_sizes q0_text q0_line q0_latestReason q0_latestDetail)) (wS E ad2 t5.2.1 q0_trial q0_snapshot q0_isSaved t5.2.2.1 t5.2.2.2.1 t5.2.2.2.2.1 t2.2 q0_sizes q0_text q0_line t5.2.2.2.2.2.1 t5.2.2.2.2.2.2) s.heap H locs := hH
      have hf := Option.some.inj hf
      subst hf
      exact e_Wl hC hH hr hlocks rfl rfl dL_acts_96
    · have hf := ite_f hf c27_1
      by_cases c27_2 : t3 = (2 : Int32)
      · have hf := ite_t hf c27_2
        have e9 : (t3).toInt = 2 := by rw [c27_2]; decide
        refine lv_tableIn (tgt := 88) hx hb dL_acts_27 (by omega) (by omega) (by rw [e9]; rfl) (by decide) ?_
        refine lv_aload_n hx hb dL_acts_88 rfl (lv_at hl 2 rfl) ?_
        refine lv_iload_n hx hb dL_acts_89 rfl (lv_at hl 1 rfl) ?_
        refine lv_bipush (v := 32) hx hb dL_acts_90 (by decide) ?_
        refine lv_irem hx hb dL_acts_92 (by decide) ?_
        obtain ⟨t6, ht6, hf⟩ := ob hf
        refine k_WSsl hC LL_175 ⟨Nat.le_of_ble_eq_true rfl, Nat.le_of_ble_eq_true rfl⟩ ⟨Nat.zero_le _, Nat.zero_le _⟩ (cW_put l E ad2 q0_letters q0_trial q0_snapshot q0_isSaved q0_past q0_rows q0_bags t2.2 q0_sizes q0_text q0_line q0_latestReason q0_latestDetail (t1 - t1 / (32 : Int32) * (32 : Int32)) t6 ht6) rfl rfl hH rfl hl.1 rfl (Nat.le_of_ble_eq_true rfl) rfl dL_acts_93 (fun H locs hz93 hH => ?_)
        have hH : Hp E (adr (wS E ad2 q0_letters q0_trial q0_snapshot q0_isSaved q0_past q0_rows q0_bags q0_tally q0_sizes q0_text q0_line q0_latestReason q0_latestDetail)) (wS E ad2 t6.2.1 q0_trial q0_snapshot q0_isSaved t6.2.2.1 t6.2.2.2.1 t6.2.2.2.2.1 t2.2 q0_sizes q0_text q0_line t6.2.2.2.2.2.1 t6.2.2.2.2.2.2) s.heap H locs := hH
        have hf := Option.some.inj hf
        subst hf
        exact e_Wl hC hH hr hlocks rfl rfl dL_acts_96
      · have hf := ite_f hf c27_2
        by_cases c27_3 : t3 = (3 : Int32)
        · have hf := ite_t hf c27_3
          have e9 : (t3).toInt = 3 := by rw [c27_3]; decide
          refine lv_tableIn (tgt := 88) hx hb dL_acts_27 (by omega) (by omega) (by rw [e9]; rfl) (by decide) ?_
          refine lv_aload_n hx hb dL_acts_88 rfl (lv_at hl 2 rfl) ?_
          refine lv_iload_n hx hb dL_acts_89 rfl (lv_at hl 1 rfl) ?_
          refine lv_bipush (v := 32) hx hb dL_acts_90 (by decide) ?_
          refine lv_irem hx hb dL_acts_92 (by decide) ?_
          obtain ⟨t7, ht7, hf⟩ := ob hf
          refine k_WSsl hC LL_175 ⟨Nat.le_of_ble_eq_true rfl, Nat.le_of_ble_eq_true rfl⟩ ⟨Nat.zero_le _, Nat.zero_le _⟩ (cW_put l E ad2 q0_letters q0_trial q0_snapshot q0_isSaved q0_past q0_rows q0_bags t2.2 q0_sizes q0_text q0_line q0_latestReason q0_latestDetail (t1 - t1 / (32 : Int32) * (32 : Int32)) t7 ht7) rfl rfl hH rfl hl.1 rfl (Nat.le_of_ble_eq_true rfl) rfl dL_acts_93 (fun H locs hz93 hH => ?_)
          have hH : Hp E (adr (wS E ad2 q0_letters q0_trial q0_snapshot q0_isSaved q0_past q0_rows q0_bags q0_tally q0_sizes q0_text q0_line q0_latestReason q0_latestDetail)) (wS E ad2 t7.2.1 q0_trial q0_snapshot q0_isSaved t7.2.2.1 t7.2.2.2.1 t7.2.2.2.2.1 t2.2 q0_sizes q0_text q0_line t7.2.2.2.2.2.1 t7.2.2.2.2.2.2) s.heap H locs := hH
          have hf := Option.some.inj hf
          subst hf
          exact e_Wl hC hH hr hlocks rfl rfl dL_acts_96
        · have hf := ite_f hf c27_3
          by_cases c27_4 : t3 = (4 : Int32)
          · have hf := ite_t hf c27_4
            have e9 : (t3).toInt = 4 := by rw [c27_4]; decide
            refine lv_tableIn (tgt := 97) hx hb dL_acts_27 (by omega) (by omega) (by rw [e9]; rfl) (by decide) ?_
            refine lv_aload_n hx hb dL_acts_97 rfl (lv_at hl 2 rfl) ?_
            refine lv_iload_n hx hb dL_acts_98 rfl (lv_at hl 1 rfl) ?_
            refine lv_bipush (v := 32) hx hb dL_acts_99 (by decide) ?_
            refine lv_idiv hx hb dL_acts_101 (by decide) ?_
            refine lv_iload_n hx hb dL_acts_102 rfl (lv_at hl 0 rfl) ?_
            obtain ⟨v8, hv8, hf⟩ := ob hf
            obtain ⟨hv8a, hv8b⟩ := rmI_ok hv8
            refine lv_irem hx hb dL_acts_103 hv8a ?_
            rw [hv8b]
            refine lv_iload_n hx hb dL_acts_104 rfl (lv_at hl 1 rfl) ?_
            refine lv_bipush (v := 32) hx hb dL_acts_105 (by decide) ?_
            refine lv_irem hx hb dL_acts_107 (by decide) ?_
            obtain ⟨t9, ht9, hf⟩ := ob hf
            refine k_WSsl hC LL_177 ⟨Nat.le_of_ble_eq_true rfl, Nat.le_of_ble_eq_true rfl⟩ ⟨Nat.zero_le _, Nat.zero_le _⟩ (cW_insert l E ad2 q0_letters q0_trial q0_snapshot q0_isSaved q0_past q0_rows q0_bags t2.2 q0_sizes q0_text q0_line q0_latestReason q0_latestDetail v8 (t1 - t1 / (32 : Int32) * (32 : Int32)) t9 ht9) rfl rfl hH rfl hl.1 rfl (Nat.le_of_ble_eq_true rfl) rfl dL_acts_108 (fun H locs hz108 hH => ?_)
            have hH : Hp E (adr (wS E ad2 q0_letters q0_trial q0_snapshot q0_isSaved q0_past q0_rows q0_bags q0_tally q0_sizes q0_text q0_line q0_latestReason q0_latestDetail)) (wS E ad2 t9.2.1 q0_trial q0_snapshot q0_isSaved t9.2.2.1 t9.2.2.2.1 t9.2.2.2.2.1 t2.2 q0_sizes q0_text q0_line t9.2.2.2.2.2.1 t9.2.2.2.2.2.2) s.heap H locs := hH
            have hf := Option.some.inj hf
            subst hf
            exact e_Wl hC hH hr hlocks rfl rfl dL_acts_111
          · have hf := ite_f hf c27_4
            by_cases c27_5 : t3 = (5 : Int32)
            · have hf := ite_t hf c27_5
              have e9 : (t3).toInt = 5 := by rw [c27_5]; decide
              refine lv_tableIn (tgt := 97) hx hb dL_acts_27 (by omega) (by omega) (by rw [e9]; rfl) (by decide) ?_
              refine lv_aload_n hx hb dL_acts_97 rfl (lv_at hl 2 rfl) ?_
              refine lv_iload_n hx hb dL_acts_98 rfl (lv_at hl 1 rfl) ?_
              refine lv_bipush (v := 32) hx hb dL_acts_99 (by decide) ?_
              refine lv_idiv hx hb dL_acts_101 (by decide) ?_
              refine lv_iload_n hx hb dL_acts_102 rfl (lv_at hl 0 rfl) ?_
              obtain ⟨v10, hv10, hf⟩ := ob hf
              obtain ⟨hv10a, hv10b⟩ := rmI_ok hv10
              refine lv_irem hx hb dL_acts_103 hv10a ?_
              rw [hv10b]
              refine lv_iload_n hx hb dL_acts_104 rfl (lv_at hl 1 rfl) ?_
              refine lv_bipush (v := 32) hx hb dL_acts_105 (by decide) ?_
              refine lv_irem hx hb dL_acts_107 (by decide) ?_
              obtain ⟨t11, ht11, hf⟩ := ob hf
              refine k_WSsl hC LL_177 ⟨Nat.le_of_ble_eq_true rfl, Nat.le_of_ble_eq_true rfl⟩ ⟨Nat.zero_le _, Nat.zero_le _⟩ (cW_insert l E ad2 q0_letters q0_trial q0_snapshot q0_isSaved q0_past q0_rows q0_bags t2.2 q0_sizes q0_text q0_line q0_latestReason q0_latestDetail v10 (t1 - t1 / (32 : Int32) * (32 : Int32)) t11 ht11) rfl rfl hH rfl hl.1 rfl (Nat.le_of_ble_eq_true rfl) rfl dL_acts_108 (fun H locs hz108 hH => ?_)
              have hH : Hp E (adr (wS E ad2 q0_letters q0_trial q0_snapshot q0_isSaved q0_past q0_rows q0_bags q0_tally q0_sizes q0_text q0_line q0_latestReason q0_latestDetail)) (wS E ad2 t11.2.1 q0_trial q0_snapshot q0_isSaved t11.2.2.1 t11.2.2.2.1 t11.2.2.2.2.1 t2.2 q0_sizes q0_text q0_line t11.2.2.2.2.2.1 t11.2.2.2.2.2.2) s.heap H locs := hH
              have hf := Option.some.inj hf
              subst hf
              exact e_Wl hC hH hr hlocks rfl rfl dL_acts_111
            · have hf := ite_f hf c27_5
              by_cases c27_6 : t3 = (6 : Int32)
              · have hf := ite_t hf c27_6
                have e9 : (t3).toInt = 6 := by rw [c27_6]; decide
                refine lv_tableIn (tgt := 97) hx hb dL_acts_27 (by omega) (by omega) (by rw [e9]; rfl) (by decide) ?_
                refine lv_aload_n hx hb dL_acts_97 rfl (lv_at hl 2 rfl) ?_
                refine lv_iload_n hx hb dL_acts_98 rfl (lv_at hl 1 rfl) ?_
                refine lv_bipush (v := 32) hx hb dL_acts_99 (by decide) ?_
                refine lv_idiv hx hb dL_acts_101 (by decide) ?_
                refine lv_iload_n hx hb dL_acts_102 rfl (lv_at hl 0 rfl) ?_
                obtain ⟨v12, hv12, hf⟩ := ob hf
                obtain ⟨hv12a, hv12b⟩ := rmI_ok hv12
                refine lv_irem hx hb dL_acts_103 hv12a ?_
                rw [hv12b]
                refine lv_iload_n hx hb dL_acts_104 rfl (lv_at hl 1 rfl) ?_
                refine lv_bipush (v := 32) hx hb dL_acts_105 (by decide) ?_
                refine lv_irem hx hb dL_acts_107 (by decide) ?_
                obtain ⟨t13, ht13, hf⟩ := ob hf
                refine k_WSsl hC LL_177 ⟨Nat.le_of_ble_eq_true rfl, Nat.le_of_ble_eq_true rfl⟩ ⟨Nat.zero_le _, Nat.zero_le _⟩ (cW_insert l E ad2 q0_letters q0_trial q0_snapshot q0_isSaved q0_past q0_rows q0_bags t2.2 q0_sizes q0_text q0_line q0_latestReason q0_latestDetail v12 (t1 - t1 / (32 : Int32) * (32 : Int32)) t13 ht13) rfl rfl hH rfl hl.1 rfl (Nat.le_of_ble_eq_true rfl) rfl dL_acts_108 (fun H locs hz108 hH => ?_)
                have hH : Hp E (adr (wS E ad2 q0_letters q0_trial q0_snapshot q0_isSaved q0_past q0_rows q0_bags q0_tally q0_sizes q0_text q0_line q0_latestReason q0_latestDetail)) (wS E ad2 t13.2.1 q0_trial q0_snapshot q0_isSaved t13.2.2.1 t13.2.2.2.1 t13.2.2.2.2.1 t2.2 q0_sizes q0_text q0_line t13.2.2.2.2.2.1 t13.2.2.2.2.2.2) s.heap H locs := hH
                have hf := Option.some.inj hf
                subst hf
                exact e_Wl hC hH hr hlocks rfl rfl dL_acts_111
              · have hf := ite_f hf c27_6
                by_cases c27_7 : t3 = (7 : Int32)
                · have hf := ite_t hf c27_7
                  have e9 : (t3).toInt = 7 := by rw [c27_7]; decide
                  refine lv_tableIn (tgt := 112) hx hb dL_acts_27 (by omega) (by omega) (by rw [e9]; rfl) (by decide) ?_
                  refine lv_aload_n hx hb dL_acts_112 rfl (lv_at hl 2 rfl) ?_
                  refine lv_iload_n hx hb dL_acts_113 rfl (lv_at hl 1 rfl) ?_
                  refine lv_iload_n hx hb dL_acts_114 rfl (lv_at hl 0 rfl) ?_
                  obtain ⟨v14, hv14, hf⟩ := ob hf
                  obtain ⟨hv14a, hv14b⟩ := rmI_ok hv14
                  refine lv_irem hx hb dL_acts_115 hv14a ?_
                  rw [hv14b]
                  obtain ⟨t15, ht15, hf⟩ := ob hf
                  refine k_WSsl hC LL_179 ⟨Nat.le_of_ble_eq_true rfl, Nat.le_of_ble_eq_true rfl⟩ ⟨Nat.zero_le _, Nat.zero_le _⟩ (cW_take l E ad2 q0_letters q0_trial q0_snapshot q0_isSaved q0_past q0_rows q0_bags t2.2 q0_sizes q0_text q0_line q0_latestReason q0_latestDetail v14 t15 ht15) rfl rfl hH rfl hl.1 rfl (Nat.le_of_ble_eq_true rfl) rfl dL_acts_116 (fun H locs hz116 hH => ?_)
                  have hH : Hp E (adr (wS E ad2 q0_letters q0_trial q0_snapshot q0_isSaved q0_past q0_rows q0_bags q0_tally q0_sizes q0_text q0_line q0_latestReason q0_latestDetail)) (wS E ad2 t15.2.1 q0_trial q0_snapshot q0_isSaved t15.2.2.1 t15.2.2.2.1 t15.2.2.2.2 t2.2 q0_sizes q0_text q0_line q0_latestReason q0_latestDetail) s.heap H locs := hH
                  have hf := Option.some.inj hf
                  subst hf
                  exact e_Wl hC hH hr hlocks rfl rfl dL_acts_119
                · have hf := ite_f hf c27_7
                  by_cases c27_8 : t3 = (8 : Int32)
                  · have hf := ite_t hf c27_8
                    have e9 : (t3).toInt = 8 := by rw [c27_8]; decide
                    refine lv_tableIn (tgt := 112) hx hb dL_acts_27 (by omega) (by omega) (by rw [e9]; rfl) (by decide) ?_
                    refine lv_aload_n hx hb dL_acts_112 rfl (lv_at hl 2 rfl) ?_
                    refine lv_iload_n hx hb dL_acts_113 rfl (lv_at hl 1 rfl) ?_
                    refine lv_iload_n hx hb dL_acts_114 rfl (lv_at hl 0 rfl) ?_
                    obtain ⟨v16, hv16, hf⟩ := ob hf
                    obtain ⟨hv16a, hv16b⟩ := rmI_ok hv16
                    refine lv_irem hx hb dL_acts_115 hv16a ?_
                    rw [hv16b]
                    obtain ⟨t17, ht17, hf⟩ := ob hf
                    refine k_WSsl hC LL_179 ⟨Nat.le_of_ble_eq_true rfl, Nat.le_of_ble_eq_true rfl⟩ ⟨Nat.zero_le _, Nat.zero_le _⟩ (cW_take l E ad2 q0_letters q0_trial q0_snapshot q0_isSaved q0_past q0_rows q0_bags t2.2 q0_sizes q0_text q0_line q0_latestReason q0_latestDetail v16 t17 ht17) rfl rfl hH rfl hl.1 rfl (Nat.le_of_ble_eq_true rfl) rfl dL_acts_116 (fun H locs hz116 hH => ?_)
                    have hH : Hp E (adr (wS E ad2 q0_letters q0_trial q0_snapshot q0_isSaved q0_past q0_rows q0_bags q0_tally q0_sizes q0_text q0_line q0_latestReason q0_latestDetail)) (wS E ad2 t17.2.1 q0_trial q0_snapshot q0_isSaved t17.2.2.1 t17.2.2.2.1 t17.2.2.2.2 t2.2 q0_sizes q0_text q0_line q0_latestReason q0_latestDetail) s.heap H locs := hH
                    have hf := Option.some.inj hf
                    subst hf
                    exact e_Wl hC hH hr hlocks rfl rfl dL_acts_119
                  · have hf := ite_f hf c27_8
                    by_cases c27_9 : t3 = (9 : Int32)
                    · have hf := ite_t hf c27_9
                      have e9 : (t3).toInt = 9 := by rw [c27_9]; decide
                      refine lv_tableIn (tgt := 120) hx hb dL_acts_27 (by omega) (by omega) (by rw [e9]; rfl) (by decide) ?_
                      refine lv_aload_n hx hb dL_acts_120 rfl (lv_at hl 2 rfl) ?_
                      refine lv_iload_n hx hb dL_acts_121 rfl (lv_at hl 1 rfl) ?_
                      refine lv_iload_n hx hb dL_acts_122 rfl (lv_at hl 0 rfl) ?_
                      obtain ⟨v18, hv18, hf⟩ := ob hf
                      obtain ⟨hv18a, hv18b⟩ := rmI_ok hv18
                      refine lv_irem hx hb dL_acts_123 hv18a ?_
                      rw [hv18b]
                      obtain ⟨t19, ht19, hf⟩ := ob hf
                      refine k_WSsl hC LL_181 ⟨Nat.le_of_ble_eq_true rfl, Nat.le_of_ble_eq_true rfl⟩ ⟨Nat.zero_le _, Nat.zero_le _⟩ (cW_swap l E ad2 q0_letters q0_trial q0_snapshot q0_isSaved q0_past q0_rows q0_bags t2.2 q0_sizes q0_text q0_line q0_latestReason q0_latestDetail v18 t19 ht19) rfl rfl hH rfl hl.1 rfl (Nat.le_of_ble_eq_true rfl) rfl dL_acts_124 (fun H locs hz124 hH => ?_)
                      have hH : Hp E (adr (wS E ad2 q0_letters q0_trial q0_snapshot q0_isSaved q0_past q0_rows q0_bags q0_tally q0_sizes q0_text q0_line q0_latestReason q0_latestDetail)) (wS E ad2 t19.2.1 q0_trial q0_snapshot q0_isSaved t19.2.2.1 t19.2.2.2.1 t19.2.2.2.2.1 t2.2 q0_sizes q0_text q0_line t19.2.2.2.2.2.1 t19.2.2.2.2.2.2) s.heap H locs := hH
                      have hf := Option.some.inj hf
                      subst hf
                      exact e_Wl hC hH hr hlocks rfl rfl dL_acts_127
                    · have hf := ite_f hf c27_9
                      by_cases c27_10 : t3 = (10 : Int32)
                      · have hf := ite_t hf c27_10
                        have e9 : (t3).toInt = 10 := by rw [c27_10]; decide
                        refine lv_tableIn (tgt := 120) hx hb dL_acts_27 (by omega) (by omega) (by rw [e9]; rfl) (by decide) ?_
                        refine lv_aload_n hx hb dL_acts_120 rfl (lv_at hl 2 rfl) ?_
                        refine lv_iload_n hx hb dL_acts_121 rfl (lv_at hl 1 rfl) ?_
                        refine lv_iload_n hx hb dL_acts_122 rfl (lv_at hl 0 rfl) ?_
                        obtain ⟨v20, hv20, hf⟩ := ob hf
                        obtain ⟨hv20a, hv20b⟩ := rmI_ok hv20
                        refine lv_irem hx hb dL_acts_123 hv20a ?_
                        rw [hv20b]
                        obtain ⟨t21, ht21, hf⟩ := ob hf
                        refine k_WSsl hC LL_181 ⟨Nat.le_of_ble_eq_true rfl, Nat.le_of_ble_eq_true rfl⟩ ⟨Nat.zero_le _, Nat.zero_le _⟩ (cW_swap l E ad2 q0_letters q0_trial q0_snapshot q0_isSaved q0_past q0_rows q0_bags t2.2 q0_sizes q0_text q0_line q0_latestReason q0_latestDetail v20 t21 ht21) rfl rfl hH rfl hl.1 rfl (Nat.le_of_ble_eq_true rfl) rfl dL_acts_124 (fun H locs hz124 hH => ?_)
                        have hH : Hp E (adr (wS E ad2 q0_letters q0_trial q0_snapshot q0_isSaved q0_past q0_rows q0_bags q0_tally q0_sizes q0_text q0_line q0_latestReason q0_latestDetail)) (wS E ad2 t21.2.1 q0_trial q0_snapshot q0_isSaved t21.2.2.1 t21.2.2.2.1 t21.2.2.2.2.1 t2.2 q0_sizes q0_text q0_line t21.2.2.2.2.2.1 t21.2.2.2.2.2.2) s.heap H locs := hH
                        have hf := Option.some.inj hf
                        subst hf
                        exact e_Wl hC hH hr hlocks rfl rfl dL_acts_127
                      · have hf := ite_f hf c27_10
                        by_cases c27_11 : t3 = (11 : Int32)
                        · have hf := ite_t hf c27_11
                          have e9 : (t3).toInt = 11 := by rw [c27_11]; decide
                          refine lv_tableIn (tgt := 128) hx hb dL_acts_27 (by omega) (by omega) (by rw [e9]; rfl) (by decide) ?_
                          refine lv_aload_n hx hb dL_acts_128 rfl (lv_at hl 2 rfl) ?_
                          refine lv_iconst (v := 1) hx hb dL_acts_129 (by decide) ?_
                          refine lv_iload_n hx hb dL_acts_130 rfl (lv_at hl 1 rfl) ?_
                          refine lv_bipush (v := 20) hx hb dL_acts_131 (by decide) ?_
                          refine lv_irem hx hb dL_acts_133 (by decide) ?_
                          refine lv_iadd hx hb dL_acts_134 ?_
                          refine lv_iload_n hx hb dL_acts_135 rfl (lv_at hl 1 rfl) ?_
                          refine lv_bipush (v := 20) hx hb dL_acts_136 (by decide) ?_
                          refine lv_idiv hx hb dL_acts_138 (by decide) ?_
                          refine lv_iconst (v := 3) hx hb dL_acts_139 (by decide) ?_
                          refine lv_irem hx hb dL_acts_140 (by decide) ?_
                          refine lv_if_le (tgt := 148) hx hb dL_acts_141 (by decide) (fun c22 => ?_) (fun c22 => ?_)
                          · have hf := ite_t hf c22
                            refine lv_iconst (v := 0) hx hb dL_acts_148 (by decide) ?_
                            obtain ⟨t23, ht23, hf⟩ := ob hf
                            refine k_WSsl hC LL_183 ⟨Nat.le_of_ble_eq_true rfl, Nat.le_of_ble_eq_true rfl⟩ ⟨Nat.zero_le _, Nat.zero_le _⟩ (cW_mark l E ad2 q0_letters q0_trial q0_snapshot q0_isSaved q0_past q0_rows q0_bags t2.2 q0_sizes q0_text q0_line q0_latestReason q0_latestDetail ((1 : Int32) + (t1 - t1 / (20 : Int32) * (20 : Int32))) (0 : Int32) t23 ht23) rfl rfl hH rfl hl.1 rfl (Nat.le_of_ble_eq_true rfl) rfl dL_acts_149 (fun H locs hz149 hH => ?_)
                            have hH : Hp E (adr (wS E ad2 q0_letters q0_trial q0_snapshot q0_isSaved q0_past q0_rows q0_bags q0_tally q0_sizes q0_text q0_line q0_latestReason q0_latestDetail)) (wS E ad2 t23.2.1 q0_trial q0_snapshot q0_isSaved t23.2.2.1 t23.2.2.2.1 t23.2.2.2.2.1 t2.2 q0_sizes q0_text q0_line t23.2.2.2.2.2.1 t23.2.2.2.2.2.2) s.heap H locs := hH
                            have hf := Option.some.inj hf
                            subst hf
                            exact e_Wl hC hH hr hlocks rfl rfl dL_acts_152
                          · have hf := ite_f hf c22
                            refine lv_iconst (v := 1) hx hb dL_acts_144 (by decide) ?_
                            refine lv_goto (tgt := 149) hx hb dL_acts_145 (by decide) ?_
                            obtain ⟨t24, ht24, hf⟩ := ob hf
                            refine k_WSsl hC LL_183 ⟨Nat.le_of_ble_eq_true rfl, Nat.le_of_ble_eq_true rfl⟩ ⟨Nat.zero_le _, Nat.zero_le _⟩ (cW_mark l E ad2 q0_letters q0_trial q0_snapshot q0_isSaved q0_past q0_rows q0_bags t2.2 q0_sizes q0_text q0_line q0_latestReason q0_latestDetail ((1 : Int32) + (t1 - t1 / (20 : Int32) * (20 : Int32))) (1 : Int32) t24 ht24) rfl rfl hH rfl hl.1 rfl (Nat.le_of_ble_eq_true rfl) rfl dL_acts_149 (fun H locs hz149 hH => ?_)
                            have hH : Hp E (adr (wS E ad2 q0_letters q0_trial q0_snapshot q0_isSaved q0_past q0_rows q0_bags q0_tally q0_sizes q0_text q0_line q0_latestReason q0_latestDetail)) (wS E ad2 t24.2.1 q0_trial q0_snapshot q0_isSaved t24.2.2.1 t24.2.2.2.1 t24.2.2.2.2.1 t2.2 q0_sizes q0_text q0_line t24.2.2.2.2.2.1 t24.2.2.2.2.2.2) s.heap H locs := hH
                            have hf := Option.some.inj hf
                            subst hf
                            exact e_Wl hC hH hr hlocks rfl rfl dL_acts_152
                        · have hf := ite_f hf c27_11
                          have hd : W p l e rmW_acts s m args below meth c H locs 0 0 (MQ below (qW E (some .long) (some (.long t.1)) (wS E ad2 q0_letters q0_trial q0_snapshot q0_isSaved q0_past q0_rows q0_bags q0_tally q0_sizes q0_text q0_line q0_latestReason q0_latestDetail) (wS E ad2 t.2.1 t.2.2.1 q0_snapshot q0_isSaved t.2.2.2.1 t.2.2.2.2.1 t.2.2.2.2.2.1 t.2.2.2.2.2.2.1 q0_sizes t.2.2.2.2.2.2.2.1 q0_line t.2.2.2.2.2.2.2.2.1 t.2.2.2.2.2.2.2.2.2)) args s 0 0 (adr (wS E ad2 q0_letters q0_trial q0_snapshot q0_isSaved q0_past q0_rows q0_bags q0_tally q0_sizes q0_text q0_line q0_latestReason q0_latestDetail))) (F0 m 153 ls []) := by
                            refine lv_aload_n hx hb dL_acts_153 rfl (lv_at hl 2 rfl) ?_
                            obtain ⟨tq, hZq, hTq⟩ := hSC.2.2.2.2
                            refine va_gets hx hb hZq hH.2.2 hown (hta _ q3_52) (fun _ h => h) dL_acts_154 ?_
                            refine lv_iload_n hx hb dL_acts_157 rfl (lv_at hl 1 rfl) ?_
                            refine lv_bipush (v := 8) hx hb dL_acts_158 (by decide) ?_
                            refine lv_irem hx hb dL_acts_160 (by decide) ?_
                            obtain ⟨k25, hk25, hf⟩ := ob hf
                            obtain ⟨hk25a, hk25b⟩ := ldA_ok hk25
                            have hk25c : k25 < 8 := by rw [← hk25b]; exact Nat.not_le.mp fun q => hk25a (Or.inr q)
                            refine a_tld hC hTq hH.2.2 hk25a (v := .ref (G.1 (7 + k25))) (by show Value.ref _ = _; rw [hk25b]) (Or.inr ⟨_, rfl⟩) dL_acts_161 ?_
                            obtain ⟨t26, ht26, hf⟩ := ob hf
                            refine k_WXSl hC LL_190 ⟨Nat.le_of_ble_eq_true rfl, Nat.le_of_ble_eq_true rfl⟩ ⟨Nat.zero_le _, Nat.zero_le _⟩ (cW_done l E G ad2 q0_letters q0_trial q0_snapshot q0_isSaved q0_past q0_rows q0_bags t2.2 q0_sizes q0_text q0_line q0_latestReason q0_latestDetail (7 + k25) (by omega) t26 ht26) rfl rfl hSC hH rfl hl.1 rfl (Nat.le_of_ble_eq_true rfl) rfl dL_acts_162 (fun H locs hz162 hH => ?_)
                            have hH : Hp E (adr (wS E ad2 q0_letters q0_trial q0_snapshot q0_isSaved q0_past q0_rows q0_bags q0_tally q0_sizes q0_text q0_line q0_latestReason q0_latestDetail)) (wS E ad2 t26.2.1 t26.2.2.1 q0_snapshot q0_isSaved t26.2.2.2.1 t26.2.2.2.2.1 t26.2.2.2.2.2.1 t2.2 q0_sizes t26.2.2.2.2.2.2.1 q0_line t26.2.2.2.2.2.2.2.1 t26.2.2.2.2.2.2.2.2) s.heap H locs := hH
                            have hf := Option.some.inj hf
                            subst hf
                            exact e_Wl hC hH hr hlocks rfl rfl dL_acts_165
                          refine lv_tableOut (tgt := 153) hx hb dL_acts_27 (by have n0 := lv_neT c27_0 (a := 0) (by decide); have n1 := lv_neT c27_1 (a := 1) (by decide); have n2 := lv_neT c27_2 (a := 2) (by decide); have n3 := lv_neT c27_3 (a := 3) (by decide); have n4 := lv_neT c27_4 (a := 4) (by decide); have n5 := lv_neT c27_5 (a := 5) (by decide); have n6 := lv_neT c27_6 (a := 6) (by decide); have n7 := lv_neT c27_7 (a := 7) (by decide); have n8 := lv_neT c27_8 (a := 8) (by decide); have n9 := lv_neT c27_9 (a := 9) (by decide); have n10 := lv_neT c27_10 (a := 10) (by decide); have n11 := lv_neT c27_11 (a := 11) (by decide); omega) (by decide) hd
abbrev rmW_rows : Room := { frames := 6, cells := 0, slots := 0, locals := 140 }
set_option maxHeartbeats 4000000 in
set_option maxRecDepth 100000 in
theorem cW_rows (l : Launch) (E : eE) (ad2 : Nat → Nat) (q0_letters : TL) (q0_trial : TL) (q0_snapshot : TL) (q0_isSaved : Int32) (q0_past : TP) (q0_rows : TR) (q0_bags : TB) (q0_tally : TY) (q0_sizes : TZ) (q0_text : TT) (q0_line : TN) (q0_latestReason : Int32) (q0_latestDetail : Int32) (t : Int32 × TY) (hf : fW_rows q0_letters q0_past q0_rows q0_bags q0_tally q0_text = some t) : cW l E yL_rows cL_rows 8 (some .boolean) rmW_rows [.ref (ad2 0)] (wS E ad2 q0_letters q0_trial q0_snapshot q0_isSaved q0_past q0_rows q0_bags q0_tally q0_sizes q0_text q0_line q0_latestReason q0_latestDetail) (some (.int t.1)) (wS E ad2 q0_letters q0_trial q0_snapshot q0_isSaved q0_past q0_rows q0_bags t.2 q0_sizes q0_text q0_line q0_latestReason q0_latestDetail) := by
  refine Met.ofW (cc := cL_rows) (maxL := 8) (ret := (some .boolean)) (by decide) rfl ?_
  intro p e s m args below meth c s₁ B hml hv
  obtain ⟨hargs, hP, hK, hD0⟩ := hv
  have hx := B.exec
  have hb := B.bytes
  have hr := B.returns
  have hts := atoms_spec (ws := ws_ yL_rows cL_rows 8 (some .boolean)) B.pre
  have hta : ∀ w ∈ lw_all, w.before args s = true := fun w h => hts w (List.mem_cons_of_mem _ h)
  have hown : s.vm.findClass RL = some m.cls := findClass_of_methodNamed B.named
  have hlocks := B.notSynchronized
  have hC : Cx p s m args c cL_rows 8 RL E := ⟨hx, hb, hml, hown, hta, hK⟩
  have hH : Hp E (adr (wS E ad2 q0_letters q0_trial q0_snapshot q0_isSaved q0_past q0_rows q0_bags q0_tally q0_sizes q0_text q0_line q0_latestReason q0_latestDetail)) (wS E ad2 q0_letters q0_trial q0_snapshot q0_isSaved q0_past q0_rows q0_bags q0_tally q0_sizes q0_text q0_line q0_latestReason q0_latestDetail) s.heap s.heap [] := Hp.start hP hD0
  obtain ⟨ls, he, hl⟩ := entry_ (m := m) (n := 8) hargs (Nat.le_of_ble_eq_true rfl)
  rw [he]
  have hl : lv_has ls 8 [(0, .ref (ad2 0))] := hl
  show W p l e rmW_rows s m args below meth c s.heap [] 0 0 (MQ below (qW E (some .boolean) (some (.int t.1)) (wS E ad2 q0_letters q0_trial q0_snapshot q0_isSaved q0_past q0_rows q0_bags q0_tally q0_sizes q0_text q0_line q0_latestReason q0_latestDetail) (wS E ad2 q0_letters q0_trial q0_snapshot q0_isSaved q0_past q0_rows q0_bags t.2 q0_sizes q0_text q0_line q0_latestReason q0_latestDetail)) args s 0 0 (adr (wS E ad2 q0_letters q0_trial q0_snapshot q0_isSaved q0_past q0_rows q0_bags q0_tally q0_sizes q0_text q0_line q0_latestReason q0_latestDetail))) (F0 m 0 ls [])
  suffices hmain : ∀ (H : Heap) (locs : List Loc), Hp E (adr (wS E ad2 q0_letters q0_trial q0_snapshot q0_isSaved q0_past q0_rows q0_bags q0_tally q0_sizes q0_text q0_line q0_latestReason q0_latestDetail)) (wS E ad2 q0_letters q0_trial q0_snapshot q0_isSaved q0_past q0_rows q0_bags q0_tally q0_sizes q0_text q0_line q0_latestReason q0_latestDetail) s.heap H locs → W p l e rmW_rows s m args below meth c H locs 0 0 (MQ below (qW E (some .boolean) (some (.int t.1)) (wS E ad2 q0_letters q0_trial q0_snapshot q0_isSaved q0_past q0_rows q0_bags q0_tally q0_sizes q0_text q0_line q0_latestReason q0_latestDetail) (wS E ad2 q0_letters q0_trial q0_snapshot q0_isSaved q0_past q0_rows q0_bags t.2 q0_sizes q0_text q0_line q0_latestReason q0_latestDetail)) args s 0 0 (adr (wS E ad2 q0_letters q0_trial q0_snapshot q0_isSaved q0_past q0_rows q0_bags q0_tally q0_sizes q0_text q0_line q0_latestReason q0_latestDetail))) (F0 m 0 ls []) from hmain _ _ hH
  clear hH
  have L19 : ∀ (n : Nat) (y0_7 : TY) (a1 : Int32) (a2 : Int32) (a3 : Int64) (a5 : Int32) (ls : Array Slot), lv_has ls 8 [(0, .ref (ad2 0)), (1, .int a1), (2, .int a2), (3, .long a3), (5, .int a5)] → ∀ (H : Heap) (locs : List Loc), Hp E (adr (wS E ad2 q0_letters q0_trial q0_snapshot q0_isSaved q0_past q0_rows q0_bags q0_tally q0_sizes q0_text q0_line q0_latestReason q0_latestDetail)) (wS E ad2 q0_letters q0_trial q0_snapshot q0_isSaved q0_past q0_rows q0_bags y0_7 q0_sizes q0_text q0_line q0_latestReason q0_latestDetail) s.heap H locs → ∀ (o : Int32 × TY ⊕ (Int64 × TY)), fW_rows_19 n q0_letters q0_past q0_rows q0_bags y0_7 q0_text a1 a2 a3 a5 = some o → (∀ r9, o = Sum.inl r9 → r9 = t) → (∀ (oy : (Int64 × TY)), o = Sum.inr oy → ∀ (ls : Array Slot), lv_has ls 8 [(0, .ref (ad2 0)), (1, .int a1), (2, .int a2), (3, .long oy.1)] → ∀ (H : Heap) (locs : List Loc), Hp E (adr (wS E ad2 q0_letters q0_trial q0_snapshot q0_isSaved q0_past q0_rows q0_bags q0_tally q0_sizes q0_text q0_line q0_latestReason q0_latestDetail)) (wS E ad2 q0_letters q0_trial q0_snapshot q0_isSaved q0_past q0_rows q0_bags oy.2 q0_sizes q0_text q0_line q0_latestReason q0_latestDetail) s.heap H locs → W p l e rmW_rows s m args below meth c H locs 0 0 (MQ below (qW E (some .boolean) (some (.int t.1)) (wS E ad2 q0_letters q0_trial q0_snapshot q0_isSaved q0_past q0_rows q0_bags q0_tally q0_sizes q0_text q0_line q0_latestReason q0_latestDetail) (wS E ad2 q0_letters q0_trial q0_snapshot q0_isSaved q0_past q0_rows q0_bags t.2 q0_sizes q0_text q0_line q0_latestReason q0_latestDetail)) args s 0 0 (adr (wS E ad2 q0_letters q0_trial q0_snapshot q0_isSaved q0_past q0_rows q0_bags q0_tally q0_sizes q0_text q0_line q0_latestReason q0_latestDetail))) (F0 m 149 ls [])) → W p l e rmW_rows s m args below meth c H locs 0 0 (MQ below (qW E (some .boolean) (some (.int t.1)) (wS E ad2 q0_letters q0_trial q0_snapshot q0_isSaved q0_past q0_rows q0_bags q0_tally q0_sizes q0_text q0_line q0_latestReason q0_latestDetail) (wS E ad2 q0_letters q0_trial q0_snapshot q0_isSaved q0_past q0_rows q0_bags t.2 q0_sizes q0_text q0_line q0_latestReason q0_latestDetail)) args s 0 0 (adr (wS E ad2 q0_letters q0_trial q0_snapshot q0_isSaved q0_past q0_rows q0_bags q0_tally q0_sizes q0_text q0_line q0_latestReason q0_latestDetail))) (F0 m 19 ls []) := by
    intro n
    induction n with
    | zero => intro y0_7 a1 a2 a3 a5 ls hl H locs hH o hf hrt hk; cases hf
    | succ n ih =>
      intro y0_7 a1 a2 a3 a5 ls hl H locs hH o hf hrt hk
      rw [fW_rows_19] at hf
      refine lv_iload hx hb dL_rows_19 (lv_at hl 4 rfl) ?_
      refine lv_iload_n hx hb dL_rows_21 rfl (lv_at hl 1 rfl) ?_
      refine lv_icmp_ge (tgt := 149) hx hb dL_rows_22 (by decide) (fun c3 => ?_) (fun c3 => ?_)
      · have hf := ite_t hf c3
        cases hf
        exact hk _ rfl ls (lv_sub hl [0, 1, 2, 3] rfl) _ _ hH
      · have hf := ite_f hf c3
        refine lv_aload_n hx hb dL_rows_25 rfl (lv_at hl 0 rfl) ?_
        refine lv_iload_n hx hb dL_rows_26 rfl (lv_at hl 2 rfl) ?_
        refine lv_iconst (v := 1) hx hb dL_rows_27 (by decide) ?_
        refine lv_iload hx hb dL_rows_28 (lv_at hl 4 rfl) ?_
        obtain ⟨t4, ht4, hf⟩ := ob hf
        refine k_PSl hC LL_194 ⟨Nat.le_of_ble_eq_true rfl, Nat.le_of_ble_eq_true rfl⟩ ⟨Nat.zero_le _, Nat.zero_le _⟩ (cW_rank l E ad2 q0_letters q0_trial q0_snapshot q0_isSaved q0_past q0_rows q0_bags y0_7 q0_sizes q0_text q0_line q0_latestReason q0_latestDetail a2 (1 : Int32) a5 t4 ht4) rfl rfl hH.1 hl.1 rfl (Nat.le_of_ble_eq_true rfl) rfl dL_rows_30 (fun hz30 => ?_)
        refine lv_lload_n hx hb dL_rows_33 rfl (lv_at hl 3 rfl) ?_
        refine W.lcmp hx hb dL_rows_34 ?_
        refine lv_if_ne (tgt := 68) hx hb dL_rows_35 (by decide) (fun c5 => ?_) (fun c5 => ?_)
        · have hf := ite_f hf c5
          refine lv_iconst (v := 0) hx hb dL_rows_68 (by decide) ?_
          cases hf
          have hf := hrt _ rfl
          subst hf
          exact e_Wz hC hH hr hlocks rfl rfl rfl dL_rows_69
        · have hf := ite_t hf c5
          refine lv_aload_n hx hb dL_rows_38 rfl (lv_at hl 0 rfl) ?_
          refine lv_iload_n hx hb dL_rows_39 rfl (lv_at hl 2 rfl) ?_
          refine lv_iconst (v := 0) hx hb dL_rows_40 (by decide) ?_
          refine lv_iload hx hb dL_rows_41 (lv_at hl 4 rfl) ?_
          obtain ⟨t6, ht6, hf⟩ := ob hf
          refine k_PSl hC LL_194 ⟨Nat.le_of_ble_eq_true rfl, Nat.le_of_ble_eq_true rfl⟩ ⟨Nat.zero_le _, Nat.zero_le _⟩ (cW_rank l E ad2 q0_letters q0_trial q0_snapshot q0_isSaved q0_past q0_rows q0_bags y0_7 q0_sizes q0_text q0_line q0_latestReason q0_latestDetail a2 (0 : Int32) a5 t6 ht6) rfl rfl hH.1 hl.1 rfl (Nat.le_of_ble_eq_true rfl) rfl dL_rows_43 (fun hz43 => ?_)
          refine lv_iload hx hb dL_rows_46 (lv_at hl 4 rfl) ?_
          refine lv_i2l hx hb dL_rows_48 rfl ?_
          refine lv_lload_n hx hb dL_rows_49 rfl (lv_at hl 3 rfl) ?_
          refine lv_lsub hx hb dL_rows_50 ?_
          refine W.lcmp hx hb dL_rows_51 ?_
          refine lv_if_ne (tgt := 68) hx hb dL_rows_52 (by decide) (fun c7 => ?_) (fun c7 => ?_)
          · have hf := ite_f hf c7
            refine lv_iconst (v := 0) hx hb dL_rows_68 (by decide) ?_
            cases hf
            have hf := hrt _ rfl
            subst hf
            exact e_Wz hC hH hr hlocks rfl rfl rfl dL_rows_69
          · have hf := ite_t hf c7
            refine lv_aload_n hx hb dL_rows_55 rfl (lv_at hl 0 rfl) ?_
            refine lv_iload_n hx hb dL_rows_56 rfl (lv_at hl 2 rfl) ?_
            refine lv_iconst (v := 1) hx hb dL_rows_57 (by decide) ?_
            refine lv_iload hx hb dL_rows_58 (lv_at hl 4 rfl) ?_
            obtain ⟨t8, ht8, hf⟩ := ob hf
            refine k_PSl hC LL_197 ⟨Nat.le_of_ble_eq_true rfl, Nat.le_of_ble_eq_true rfl⟩ ⟨Nat.zero_le _, Nat.zero_le _⟩ (cW_rankAgain l E ad2 q0_letters q0_trial q0_snapshot q0_isSaved q0_past q0_rows q0_bags y0_7 q0_sizes q0_text q0_line q0_latestReason q0_latestDetail a2 (1 : Int32) a5 t8 ht8) rfl rfl hH.1 hl.1 rfl (Nat.le_of_ble_eq_true rfl) rfl dL_rows_60 (fun hz60 => ?_)
            refine lv_lload_n hx hb dL_rows_63 rfl (lv_at hl 3 rfl) ?_
            refine W.lcmp hx hb dL_rows_64 ?_
            refine lv_if_eq (tgt := 70) hx hb dL_rows_65 (by decide) (fun c9 => ?_) (fun c9 => ?_)
            · have hf := ite_t hf c9
              refine lv_aload_n hx hb dL_rows_70 rfl (lv_at hl 0 rfl) ?_
              refine lv_iload_n hx hb dL_rows_71 rfl (lv_at hl 2 rfl) ?_
              refine lv_iload hx hb dL_rows_72 (lv_at hl 4 rfl) ?_
              obtain ⟨t10, ht10, hf⟩ := ob hf
              refine k_PSl hC LL_199 ⟨Nat.le_of_ble_eq_true rfl, Nat.le_of_ble_eq_true rfl⟩ ⟨Nat.zero_le _, Nat.zero_le _⟩ (cW_bit l E ad2 q0_letters q0_trial q0_snapshot q0_isSaved q0_past q0_rows q0_bags y0_7 q0_sizes q0_text q0_line q0_latestReason q0_latestDetail a2 a5 t10 ht10) rfl rfl hH.1 hl.1 rfl (Nat.le_of_ble_eq_true rfl) rfl dL_rows_74 (fun hz74 => ?_)
              refine lv_lstore (lv' := [(6, .long t10), (0, .ref (ad2 0)), (1, .int a1), (2, .int a2), (3, .long a3), (5, .int a5)]) hx hb dL_rows_77 hl (by decide) rfl (fun ls hl => ?_)
              refine lv_aload_n hx hb dL_rows_79 rfl (lv_at hl 1 rfl) ?_
              refine lv_iload_n hx hb dL_rows_80 rfl (lv_at hl 3 rfl) ?_
              obtain ⟨t11, ht11, hf⟩ := ob hf
              refine k_PSl hC LL_201 ⟨Nat.le_of_ble_eq_true rfl, Nat.le_of_ble_eq_true rfl⟩ ⟨Nat.zero_le _, Nat.zero_le _⟩ (cW_bits l E ad2 q0_letters q0_trial q0_snapshot q0_isSaved q0_past q0_rows q0_bags y0_7 q0_sizes q0_text q0_line q0_latestReason q0_latestDetail a2 t11 ht11) rfl rfl hH.1 hl.1 rfl (Nat.le_of_ble_eq_true rfl) rfl dL_rows_81 (fun hz81 => ?_)
              refine lv_iload hx hb dL_rows_84 (lv_at hl 5 rfl) ?_
              refine lv_lshr hx hb dL_rows_86 rfl ?_
              refine lv_lconst (v := 1) hx hb dL_rows_87 (by decide) ?_
              refine lv_land hx hb dL_rows_88 ?_
              refine lv_lload hx hb dL_rows_89 (lv_at hl 0 rfl) ?_
              refine W.lcmp hx hb dL_rows_91 ?_
              refine lv_if_ne (tgt := 136) hx hb dL_rows_92 (by decide) (fun c12 => ?_) (fun c12 => ?_)
              · have hf := ite_f hf c12
                refine lv_iconst (v := 0) hx hb dL_rows_136 (by decide) ?_
                cases hf
                have hf := hrt _ rfl
                subst hf
                exact e_Wz hC hH hr hlocks rfl rfl rfl dL_rows_137
              · have hf := ite_t hf c12
                refine lv_aload_n hx hb dL_rows_95 rfl (lv_at hl 1 rfl) ?_
                refine lv_iload_n hx hb dL_rows_96 rfl (lv_at hl 3 rfl) ?_
                refine lv_lload hx hb dL_rows_97 (lv_at hl 0 rfl) ?_
                refine lv_lconst (v := 1) hx hb dL_rows_99 (by decide) ?_
                refine W.lcmp hx hb dL_rows_100 ?_
                refine lv_if_ne (tgt := 108) hx hb dL_rows_101 (by decide) (fun c13 => ?_) (fun c13 => ?_)
                · have hf := ite_f hf c13
                  refine lv_iconst (v := 0) hx hb dL_rows_108 (by decide) ?_
                  refine lv_lload hx hb dL_rows_109 (lv_at hl 0 rfl) ?_
                  refine lv_lconst (v := 1) hx hb dL_rows_111 (by decide) ?_
                  refine W.lcmp hx hb dL_rows_112 ?_
                  refine lv_if_ne (tgt := 120) hx hb dL_rows_113 (by decide) (fun c14 => ?_) (fun c14 => ?_)
                  · have hf := ite_f hf c14
                    refine lv_iload hx hb dL_rows_120 (lv_at hl 5 rfl) ?_
                    refine lv_i2l hx hb dL_rows_122 rfl ?_
                    refine lv_lload_n hx hb dL_rows_123 rfl (lv_at hl 4 rfl) ?_
                    refine lv_lsub hx hb dL_rows_124 ?_
                    refine lv_l2i hx hb dL_rows_125 rfl ?_
                    obtain ⟨t15, ht15, hf⟩ := ob hf
                    refine k_PSl hC LL_203 ⟨Nat.le_of_ble_eq_true rfl, Nat.le_of_ble_eq_true rfl⟩ ⟨Nat.zero_le _, Nat.zero_le _⟩ (cW_select l E ad2 q0_letters q0_trial q0_snapshot q0_isSaved q0_past q0_rows q0_bags y0_7 q0_sizes q0_text q0_line q0_latestReason q0_latestDetail a2 (0 : Int32) ((a5.toInt64 - a3).toInt32) t15 ht15) rfl rfl hH.1 hl.1 rfl (Nat.le_of_ble_eq_true rfl) rfl dL_rows_126 (fun hz126 => ?_)
                    refine lv_iload hx hb dL_rows_129 (lv_at hl 5 rfl) ?_
                    refine lv_i2l hx hb dL_rows_131 rfl ?_
                    refine W.lcmp hx hb dL_rows_132 ?_
                    refine lv_if_eq (tgt := 138) hx hb dL_rows_133 (by decide) (fun c16 => ?_) (fun c16 => ?_)
                    · have hf := ite_t hf c16
                      refine lv_lload_n hx hb dL_rows_138 rfl (lv_at hl 4 rfl) ?_
                      refine lv_lload hx hb dL_rows_139 (lv_at hl 0 rfl) ?_
                      refine lv_ladd hx hb dL_rows_141 ?_
                      refine lv_lstore_n (lv' := [(3, .long (a3 + t10)), (6, .long t10), (0, .ref (ad2 0)), (1, .int a1), (2, .int a2), (5, .int a5)]) hx hb dL_rows_142 rfl hl (by decide) rfl (fun ls hl => ?_)
                      refine lv_iinc (v := (a5 + (1 : Int32))) (lv' := [(5, .int (a5 + (1 : Int32))), (3, .long (a3 + t10)), (6, .long t10), (0, .ref (ad2 0)), (1, .int a1), (2, .int a2)]) hx hb dL_rows_143 hl (k := 5) rfl rfl (by decide) rfl (fun ls hl => ?_)
                      refine lv_goto (tgt := 19) hx hb dL_rows_146 (by decide) ?_
                      exact ih y0_7 a1 a2 (a3 + t10) (a5 + (1 : Int32)) ls (lv_sub hl [3, 4, 5, 1, 0] rfl) _ _ hH _ hf hrt hk
                    · have hf := ite_f hf c16
                      refine lv_iconst (v := 0) hx hb dL_rows_136 (by decide) ?_
                      cases hf
                      have hf := hrt _ rfl
                      subst hf
                      exact e_Wz hC hH hr hlocks rfl rfl rfl dL_rows_137
                  · have hf := ite_t hf c14
                    refine lv_lload_n hx hb dL_rows_116 rfl (lv_at hl 4 rfl) ?_
                    refine lv_goto (tgt := 125) hx hb dL_rows_117 (by decide) ?_
                    refine lv_l2i hx hb dL_rows_125 rfl ?_
                    obtain ⟨t17, ht17, hf⟩ := ob hf
                    refine k_PSl hC LL_203 ⟨Nat.le_of_ble_eq_true rfl, Nat.le_of_ble_eq_true rfl⟩ ⟨Nat.zero_le _, Nat.zero_le _⟩ (cW_select l E ad2 q0_letters q0_trial q0_snapshot q0_isSaved q0_past q0_rows q0_bags y0_7 q0_sizes q0_text q0_line q0_latestReason q0_latestDetail a2 (0 : Int32) a3.toInt32 t17 ht17) rfl rfl hH.1 hl.1 rfl (Nat.le_of_ble_eq_true rfl) rfl dL_rows_126 (fun hz126 => ?_)
                    refine lv_iload hx hb dL_rows_129 (lv_at hl 5 rfl) ?_
                    refine lv_i2l hx hb dL_rows_131 rfl ?_
                    refine W.lcmp hx hb dL_rows_132 ?_
                    refine lv_if_eq (tgt := 138) hx hb dL_rows_133 (by decide) (fun c18 => ?_) (fun c18 => ?_)
                    · have hf := ite_t hf c18
                      refine lv_lload_n hx hb dL_rows_138 rfl (lv_at hl 4 rfl) ?_
                      refine lv_lload hx hb dL_rows_139 (lv_at hl 0 rfl) ?_
                      refine lv_ladd hx hb dL_rows_141 ?_
                      refine lv_lstore_n (lv' := [(3, .long (a3 + t10)), (6, .long t10), (0, .ref (ad2 0)), (1, .int a1), (2, .int a2), (5, .int a5)]) hx hb dL_rows_142 rfl hl (by decide) rfl (fun ls hl => ?_)
                      refine lv_iinc (v := (a5 + (1 : Int32))) (lv' := [(5, .int (a5 + (1 : Int32))), (3, .long (a3 + t10)), (6, .long t10), (0, .ref (ad2 0)), (1, .int a1), (2, .int a2)]) hx hb dL_rows_143 hl (k := 5) rfl rfl (by decide) rfl (fun ls hl => ?_)
                      refine lv_goto (tgt := 19) hx hb dL_rows_146 (by decide) ?_
                      exact ih y0_7 a1 a2 (a3 + t10) (a5 + (1 : Int32)) ls (lv_sub hl [3, 4, 5, 1, 0] rfl) _ _ hH _ hf hrt hk
                    · have hf := ite_f hf c18
                      refine lv_iconst (v := 0) hx hb dL_rows_136 (by decide) ?_
                      cases hf
                      have hf := hrt _ rfl
                      subst hf
                      exact e_Wz hC hH hr hlocks rfl rfl rfl dL_rows_137
                · have hf := ite_t hf c13
                  refine lv_iconst (v := 1) hx hb dL_rows_104 (by decide) ?_
                  refine lv_goto (tgt := 109) hx hb dL_rows_105 (by decide) ?_
                  refine lv_lload hx hb dL_rows_109 (lv_at hl 0 rfl) ?_
                  refine lv_lconst (v := 1) hx hb dL_rows_111 (by decide) ?_
                  refine W.lcmp hx hb dL_rows_112 ?_
                  refine lv_if_ne (tgt := 120) hx hb dL_rows_113 (by decide) (fun c19 => ?_) (fun c19 => ?_)
                  · have hf := ite_f hf c19
                    refine lv_iload hx hb dL_rows_120 (lv_at hl 5 rfl) ?_
                    refine lv_i2l hx hb dL_rows_122 rfl ?_
                    refine lv_lload_n hx hb dL_rows_123 rfl (lv_at hl 4 rfl) ?_
                    refine lv_lsub hx hb dL_rows_124 ?_
                    refine lv_l2i hx hb dL_rows_125 rfl ?_
                    obtain ⟨t20, ht20, hf⟩ := ob hf
                    refine k_PSl hC LL_203 ⟨Nat.le_of_ble_eq_true rfl, Nat.le_of_ble_eq_true rfl⟩ ⟨Nat.zero_le _, Nat.zero_le _⟩ (cW_select l E ad2 q0_letters q0_trial q0_snapshot q0_isSaved q0_past q0_rows q0_bags y0_7 q0_sizes q0_text q0_line q0_latestReason q0_latestDetail a2 (1 : Int32) ((a5.toInt64 - a3).toInt32) t20 ht20) rfl rfl hH.1 hl.1 rfl (Nat.le_of_ble_eq_true rfl) rfl dL_rows_126 (fun hz126 => ?_)
                    refine lv_iload hx hb dL_rows_129 (lv_at hl 5 rfl) ?_
                    refine lv_i2l hx hb dL_rows_131 rfl ?_
                    refine W.lcmp hx hb dL_rows_132 ?_
                    refine lv_if_eq (tgt := 138) hx hb dL_rows_133 (by decide) (fun c21 => ?_) (fun c21 => ?_)
                    · have hf := ite_t hf c21
                      refine lv_lload_n hx hb dL_rows_138 rfl (lv_at hl 4 rfl) ?_
                      refine lv_lload hx hb dL_rows_139 (lv_at hl 0 rfl) ?_
                      refine lv_ladd hx hb dL_rows_141 ?_
                      refine lv_lstore_n (lv' := [(3, .long (a3 + t10)), (6, .long t10), (0, .ref (ad2 0)), (1, .int a1), (2, .int a2), (5, .int a5)]) hx hb dL_rows_142 rfl hl (by decide) rfl (fun ls hl => ?_)
                      refine lv_iinc (v := (a5 + (1 : Int32))) (lv' := [(5, .int (a5 + (1 : Int32))), (3, .long (a3 + t10)), (6, .long t10), (0, .ref (ad2 0)), (1, .int a1), (2, .int a2)]) hx hb dL_rows_143 hl (k := 5) rfl rfl (by decide) rfl (fun ls hl => ?_)
                      refine lv_goto (tgt := 19) hx hb dL_rows_146 (by decide) ?_
                      exact ih y0_7 a1 a2 (a3 + t10) (a5 + (1 : Int32)) ls (lv_sub hl [3, 4, 5, 1, 0] rfl) _ _ hH _ hf hrt hk
                    · have hf := ite_f hf c21
                      refine lv_iconst (v := 0) hx hb dL_rows_136 (by decide) ?_
                      cases hf
                      have hf := hrt _ rfl
                      subst hf
                      exact e_Wz hC hH hr hlocks rfl rfl rfl dL_rows_137
                  · have hf := ite_t hf c19
                    refine lv_lload_n hx hb dL_rows_116 rfl (lv_at hl 4 rfl) ?_
                    refine lv_goto (tgt := 125) hx hb dL_rows_117 (by decide) ?_
                    refine lv_l2i hx hb dL_rows_125 rfl ?_
                    obtain ⟨t22, ht22, hf⟩ := ob hf
                    refine k_PSl hC LL_203 ⟨Nat.le_of_ble_eq_true rfl, Nat.le_of_ble_eq_true rfl⟩ ⟨Nat.zero_le _, Nat.zero_le _⟩ (cW_select l E ad2 q0_letters q0_trial q0_snapshot q0_isSaved q0_past q0_rows q0_bags y0_7 q0_sizes q0_text q0_line q0_latestReason q0_latestDetail a2 (1 : Int32) a3.toInt32 t22 ht22) rfl rfl hH.1 hl.1 rfl (Nat.le_of_ble_eq_true rfl) rfl dL_rows_126 (fun hz126 => ?_)
                    refine lv_iload hx hb dL_rows_129 (lv_at hl 5 rfl) ?_
                    refine lv_i2l hx hb dL_rows_131 rfl ?_
                    refine W.lcmp hx hb dL_rows_132 ?_
                    refine lv_if_eq (tgt := 138) hx hb dL_rows_133 (by decide) (fun c23 => ?_) (fun c23 => ?_)
                    · have hf := ite_t hf c23
                      refine lv_lload_n hx hb dL_rows_138 rfl (lv_at hl 4 rfl) ?_
                      refine lv_lload hx hb dL_rows_139 (lv_at hl 0 rfl) ?_
                      refine lv_ladd hx hb dL_rows_141 ?_
                      refine lv_lstore_n (lv' := [(3, .long (a3 + t10)), (6, .long t10), (0, .ref (ad2 0)), (1, .int a1), (2, .int a2), (5, .int a5)]) hx hb dL_rows_142 rfl hl (by decide) rfl (fun ls hl => ?_)
                      refine lv_iinc (v := (a5 + (1 : Int32))) (lv' := [(5, .int (a5 + (1 : Int32))), (3, .long (a3 + t10)), (6, .long t10), (0, .ref (ad2 0)), (1, .int a1), (2, .int a2)]) hx hb dL_rows_143 hl (k := 5) rfl rfl (by decide) rfl (fun ls hl => ?_)
                      refine lv_goto (tgt := 19) hx hb dL_rows_146 (by decide) ?_
                      exact ih y0_7 a1 a2 (a3 + t10) (a5 + (1 : Int32)) ls (lv_sub hl [3, 4, 5, 1, 0] rfl) _ _ hH _ hf hrt hk
                    · have hf := ite_f hf c23
                      refine lv_iconst (v := 0) hx hb dL_rows_136 (by decide) ?_
                      cases hf
                      have hf := hrt _ rfl
                      subst hf
                      exact e_Wz hC hH hr hlocks rfl rfl rfl dL_rows_137
            · have hf := ite_f hf c9
              refine lv_iconst (v := 0) hx hb dL_rows_68 (by decide) ?_
              cases hf
              have hf := hrt _ rfl
              subst hf
              exact e_Wz hC hH hr hlocks rfl rfl rfl dL_rows_69
  have L166 : ∀ (n : Nat) (y0_7 : TY) (a1 : Int32) (a2 : Int32) (a5 : Int32) (ls : Array Slot), lv_has ls 8 [(0, .ref (ad2 0)), (1, .int a1), (2, .int a2), (5, .int a5)] → ∀ (H : Heap) (locs : List Loc), Hp E (adr (wS E ad2 q0_letters q0_trial q0_snapshot q0_isSaved q0_past q0_rows q0_bags q0_tally q0_sizes q0_text q0_line q0_latestReason q0_latestDetail)) (wS E ad2 q0_letters q0_trial q0_snapshot q0_isSaved q0_past q0_rows q0_bags y0_7 q0_sizes q0_text q0_line q0_latestReason q0_latestDetail) s.heap H locs → ∀ (o : Int32 × TY ⊕ (TY)), fW_rows_166 n q0_letters q0_past q0_rows q0_bags y0_7 q0_text a1 a2 a5 = some o → (∀ r9, o = Sum.inl r9 → r9 = t) → (∀ (oy : (TY)), o = Sum.inr oy → ∀ (ls : Array Slot), lv_has ls 8 [(0, .ref (ad2 0)), (1, .int a1), (2, .int a2)] → ∀ (H : Heap) (locs : List Loc), Hp E (adr (wS E ad2 q0_letters q0_trial q0_snapshot q0_isSaved q0_past q0_rows q0_bags q0_tally q0_sizes q0_text q0_line q0_latestReason q0_latestDetail)) (wS E ad2 q0_letters q0_trial q0_snapshot q0_isSaved q0_past q0_rows q0_bags oy q0_sizes q0_text q0_line q0_latestReason q0_latestDetail) s.heap H locs → W p l e rmW_rows s m args below meth c H locs 0 0 (MQ below (qW E (some .boolean) (some (.int t.1)) (wS E ad2 q0_letters q0_trial q0_snapshot q0_isSaved q0_past q0_rows q0_bags q0_tally q0_sizes q0_text q0_line q0_latestReason q0_latestDetail) (wS E ad2 q0_letters q0_trial q0_snapshot q0_isSaved q0_past q0_rows q0_bags t.2 q0_sizes q0_text q0_line q0_latestReason q0_latestDetail)) args s 0 0 (adr (wS E ad2 q0_letters q0_trial q0_snapshot q0_isSaved q0_past q0_rows q0_bags q0_tally q0_sizes q0_text q0_line q0_latestReason q0_latestDetail))) (F0 m 209 ls [])) → W p l e rmW_rows s m args below meth c H locs 0 0 (MQ below (qW E (some .boolean) (some (.int t.1)) (wS E ad2 q0_letters q0_trial q0_snapshot q0_isSaved q0_past q0_rows q0_bags q0_tally q0_sizes q0_text q0_line q0_latestReason q0_latestDetail) (wS E ad2 q0_letters q0_trial q0_snapshot q0_isSaved q0_past q0_rows q0_bags t.2 q0_sizes q0_text q0_line q0_latestReason q0_latestDetail)) args s 0 0 (adr (wS E ad2 q0_letters q0_trial q0_snapshot q0_isSaved q0_past q0_rows q0_bags q0_tally q0_sizes q0_text q0_line q0_latestReason q0_latestDetail))) (F0 m 166 ls []) := by
    intro n
    induction n with
    | zero => intro y0_7 a1 a2 a5 ls hl H locs hH o hf hrt hk; cases hf
    | succ n ih =>
      intro y0_7 a1 a2 a5 ls hl H locs hH o hf hrt hk
      rw [fW_rows_166] at hf
      refine lv_iload hx hb dL_rows_166 (lv_at hl 3 rfl) ?_
      refine lv_iload_n hx hb dL_rows_168 rfl (lv_at hl 1 rfl) ?_
      refine lv_icmp_ge (tgt := 209) hx hb dL_rows_169 (by decide) (fun c27 => ?_) (fun c27 => ?_)
      · have hf := ite_t hf c27
        cases hf
        exact hk _ rfl ls (lv_sub hl [0, 1, 2] rfl) _ _ hH
      · have hf := ite_f hf c27
        refine lv_aload_n hx hb dL_rows_172 rfl (lv_at hl 0 rfl) ?_
        refine lv_iload_n hx hb dL_rows_173 rfl (lv_at hl 2 rfl) ?_
        refine lv_aload_n hx hb dL_rows_174 rfl (lv_at hl 0 rfl) ?_
        refine lv_iload_n hx hb dL_rows_175 rfl (lv_at hl 2 rfl) ?_
        refine lv_iload hx hb dL_rows_176 (lv_at hl 3 rfl) ?_
        obtain ⟨t28, ht28, hf⟩ := ob hf
        refine k_PSl hC LL_205 ⟨Nat.le_of_ble_eq_true rfl, Nat.le_of_ble_eq_true rfl⟩ ⟨Nat.zero_le _, Nat.zero_le _⟩ (cW_placeIn l E ad2 q0_letters q0_trial q0_snapshot q0_isSaved q0_past q0_rows q0_bags y0_7 q0_sizes q0_text q0_line q0_latestReason q0_latestDetail a2 a5 t28 ht28) rfl rfl hH.1 hl.1 rfl (Nat.le_of_ble_eq_true rfl) rfl dL_rows_178 (fun hz178 => ?_)
        refine lv_l2i hx hb dL_rows_181 rfl ?_
        obtain ⟨t29, ht29, hf⟩ := ob hf
        refine k_PSl hC LL_199 ⟨Nat.le_of_ble_eq_true rfl, Nat.le_of_ble_eq_true rfl⟩ ⟨Nat.zero_le _, Nat.zero_le _⟩ (cW_bit l E ad2 q0_letters q0_trial q0_snapshot q0_isSaved q0_past q0_rows q0_bags y0_7 q0_sizes q0_text q0_line q0_latestReason q0_latestDetail a2 t28.toInt32 t29 ht29) rfl rfl hH.1 hl.1 rfl (Nat.le_of_ble_eq_true rfl) rfl dL_rows_182 (fun hz182 => ?_)
        refine lv_aload_n hx hb dL_rows_185 rfl (lv_at hl 0 rfl) ?_
        refine lv_iload hx hb dL_rows_186 (lv_at hl 3 rfl) ?_
        obtain ⟨t30, ht30, hf⟩ := ob hf
        refine k_PSl hC LL_161 ⟨Nat.le_of_ble_eq_true rfl, Nat.le_of_ble_eq_true rfl⟩ ⟨Nat.zero_le _, Nat.zero_le _⟩ (cW_weight l E ad2 q0_letters q0_trial q0_snapshot q0_isSaved q0_past q0_rows q0_bags y0_7 q0_sizes q0_text q0_line q0_latestReason q0_latestDetail a5 t30 ht30) rfl rfl hH.1 hl.1 rfl (Nat.le_of_ble_eq_true rfl) rfl dL_rows_188 (fun hz188 => ?_)
        refine lv_iconst (v := 4) hx hb dL_rows_191 (by decide) ?_
        refine lv_iload_n hx hb dL_rows_192 rfl (lv_at hl 2 rfl) ?_
        refine lv_isub hx hb dL_rows_193 ?_
        refine lv_lshr hx hb dL_rows_194 rfl ?_
        refine lv_lconst (v := 1) hx hb dL_rows_195 (by decide) ?_
        refine lv_land hx hb dL_rows_196 ?_
        refine W.lcmp hx hb dL_rows_197 ?_
        refine lv_if_eq (tgt := 203) hx hb dL_rows_198 (by decide) (fun c31 => ?_) (fun c31 => ?_)
        · have hf := ite_t hf c31
          refine lv_iinc (v := (a5 + (1 : Int32))) (lv' := [(5, .int (a5 + (1 : Int32))), (0, .ref (ad2 0)), (1, .int a1), (2, .int a2)]) hx hb dL_rows_203 hl (k := 3) rfl rfl (by decide) rfl (fun ls hl => ?_)
          refine lv_goto (tgt := 166) hx hb dL_rows_206 (by decide) ?_
          exact ih y0_7 a1 a2 (a5 + (1 : Int32)) ls (lv_sub hl [1, 2, 3, 0] rfl) _ _ hH _ hf hrt hk
        · have hf := ite_f hf c31
          refine lv_iconst (v := 0) hx hb dL_rows_201 (by decide) ?_
          cases hf
          have hf := hrt _ rfl
          subst hf
          exact e_Wz hC hH hr hlocks rfl rfl rfl dL_rows_202
  have L9 : ∀ (n : Nat) (y0_7 : TY) (a1 : Int32) (a2 : Int32) (ls : Array Slot), lv_has ls 8 [(0, .ref (ad2 0)), (1, .int a1), (2, .int a2)] → ∀ (H : Heap) (locs : List Loc), Hp E (adr (wS E ad2 q0_letters q0_trial q0_snapshot q0_isSaved q0_past q0_rows q0_bags q0_tally q0_sizes q0_text q0_line q0_latestReason q0_latestDetail)) (wS E ad2 q0_letters q0_trial q0_snapshot q0_isSaved q0_past q0_rows q0_bags y0_7 q0_sizes q0_text q0_line q0_latestReason q0_latestDetail) s.heap H locs → fW_rows_9 n q0_letters q0_past q0_rows q0_bags y0_7 q0_text a1 a2 = some t → W p l e rmW_rows s m args below meth c H locs 0 0 (MQ below (qW E (some .boolean) (some (.int t.1)) (wS E ad2 q0_letters q0_trial q0_snapshot q0_isSaved q0_past q0_rows q0_bags q0_tally q0_sizes q0_text q0_line q0_latestReason q0_latestDetail) (wS E ad2 q0_letters q0_trial q0_snapshot q0_isSaved q0_past q0_rows q0_bags t.2 q0_sizes q0_text q0_line q0_latestReason q0_latestDetail)) args s 0 0 (adr (wS E ad2 q0_letters q0_trial q0_snapshot q0_isSaved q0_past q0_rows q0_bags q0_tally q0_sizes q0_text q0_line q0_latestReason q0_latestDetail))) (F0 m 9 ls []) := by
    intro n
    induction n with
    | zero => intro y0_7 a1 a2 ls hl H locs hH hf; cases hf
    | succ n ih =>
      intro y0_7 a1 a2 ls hl H locs hH hf
      rw [fW_rows_9] at hf
      refine lv_iload_n hx hb dL_rows_9 rfl (lv_at hl 2 rfl) ?_
      refine lv_iconst (v := 5) hx hb dL_rows_10 (by decide) ?_
      refine lv_icmp_ge (tgt := 215) hx hb dL_rows_11 (by decide) (fun c2 => ?_) (fun c2 => ?_)
      · have hf := ite_t hf c2
        refine lv_iconst (v := 1) hx hb dL_rows_215 (by decide) ?_
        have hf := Option.some.inj hf
        subst hf
        exact e_Wz hC hH hr hlocks rfl rfl rfl dL_rows_216
      · have hf := ite_f hf c2
        refine lv_lconst (v := 0) hx hb dL_rows_14 (by decide) ?_
        refine lv_lstore_n (lv' := [(3, .long (0 : Int64)), (0, .ref (ad2 0)), (1, .int a1), (2, .int a2)]) hx hb dL_rows_15 rfl hl (by decide) rfl (fun ls hl => ?_)
        refine lv_iconst (v := 0) hx hb dL_rows_16 (by decide) ?_
        refine lv_istore (lv' := [(5, .int (0 : Int32)), (3, .long (0 : Int64)), (0, .ref (ad2 0)), (1, .int a1), (2, .int a2)]) hx hb dL_rows_17 hl (by decide) rfl (fun ls hl => ?_)
        obtain ⟨o24, ho24, hf⟩ := ob hf
        refine L19 FU y0_7 a1 a2 (0 : Int64) (0 : Int32) ls (lv_sub hl [2, 3, 4, 1, 0] rfl) _ _ hH o24 ho24 (fun r9 e9 => by subst e9; exact Option.some.inj hf) (fun o24x e9 ls hl H locs hH => ?_)
        subst e9
        have hf := sum_r hf
        refine lv_aload_n hx hb dL_rows_149 rfl (lv_at hl 0 rfl) ?_
        refine lv_iload_n hx hb dL_rows_150 rfl (lv_at hl 2 rfl) ?_
        refine lv_iconst (v := 1) hx hb dL_rows_151 (by decide) ?_
        refine lv_iload_n hx hb dL_rows_152 rfl (lv_at hl 1 rfl) ?_
        obtain ⟨t25, ht25, hf⟩ := ob hf
        refine k_PSl hC LL_194 ⟨Nat.le_of_ble_eq_true rfl, Nat.le_of_ble_eq_true rfl⟩ ⟨Nat.zero_le _, Nat.zero_le _⟩ (cW_rank l E ad2 q0_letters q0_trial q0_snapshot q0_isSaved q0_past q0_rows q0_bags o24x.2 q0_sizes q0_text q0_line q0_latestReason q0_latestDetail a2 (1 : Int32) a1 t25 ht25) rfl rfl hH.1 hl.1 rfl (Nat.le_of_ble_eq_true rfl) rfl dL_rows_153 (fun hz153 => ?_)
        refine lv_lload_n hx hb dL_rows_156 rfl (lv_at hl 3 rfl) ?_
        refine W.lcmp hx hb dL_rows_157 ?_
        refine lv_if_eq (tgt := 163) hx hb dL_rows_158 (by decide) (fun c26 => ?_) (fun c26 => ?_)
        · have hf := ite_t hf c26
          refine lv_iconst (v := 0) hx hb dL_rows_163 (by decide) ?_
          refine lv_istore (lv' := [(5, .int (0 : Int32)), (0, .ref (ad2 0)), (1, .int a1), (2, .int a2), (3, .long o24x.1)]) hx hb dL_rows_164 hl (by decide) rfl (fun ls hl => ?_)
          obtain ⟨o32, ho32, hf⟩ := ob hf
          refine L166 FU o24x.2 a1 a2 (0 : Int32) ls (lv_sub hl [1, 2, 3, 0] rfl) _ _ hH o32 ho32 (fun r9 e9 => by subst e9; exact Option.some.inj hf) (fun o32x e9 ls hl H locs hH => ?_)
          subst e9
          have hf := sum_r hf
          refine lv_iinc (v := (a2 + (1 : Int32))) (lv' := [(2, .int (a2 + (1 : Int32))), (0, .ref (ad2 0)), (1, .int a1)]) hx hb dL_rows_209 hl (k := 2) rfl rfl (by decide) rfl (fun ls hl => ?_)
          refine lv_goto (tgt := 9) hx hb dL_rows_212 (by decide) ?_
          exact ih o32x a1 (a2 + (1 : Int32)) ls (lv_sub hl [1, 2, 0] rfl) _ _ hH hf
        · have hf := ite_f hf c26
          refine lv_iconst (v := 0) hx hb dL_rows_161 (by decide) ?_
          have hf := Option.some.inj hf
          subst hf
          exact e_Wz hC hH hr hlocks rfl rfl rfl dL_rows_162
  intro H locs hH
  rw [fW_rows] at hf
  refine lv_aload_n hx hb dL_rows_0 rfl (lv_at hl 0 rfl) ?_
  refine lv_iconst (v := 0) hx hb dL_rows_1 (by decide) ?_
  obtain ⟨t1, ht1, hf⟩ := ob hf
  refine k_WSsl hC LL_158 ⟨Nat.le_of_ble_eq_true rfl, Nat.le_of_ble_eq_true rfl⟩ ⟨Nat.zero_le _, Nat.zero_le _⟩ (cW_account l E ad2 q0_letters q0_trial q0_snapshot q0_isSaved q0_past q0_rows q0_bags q0_tally q0_sizes q0_text q0_line q0_latestReason q0_latestDetail (0 : Int32) t1 ht1) rfl rfl hH rfl hl.1 rfl (Nat.le_of_ble_eq_true rfl) rfl dL_rows_2 (fun H locs hz2 hH => ?_)
  have hH : Hp E (adr (wS E ad2 q0_letters q0_trial q0_snapshot q0_isSaved q0_past q0_rows q0_bags q0_tally q0_sizes q0_text q0_line q0_latestReason q0_latestDetail)) (wS E ad2 q0_letters q0_trial q0_snapshot q0_isSaved q0_past q0_rows q0_bags t1.2 q0_sizes q0_text q0_line q0_latestReason q0_latestDetail) s.heap H locs := hH
  refine lv_l2i hx hb dL_rows_5 rfl ?_
  refine lv_istore_n (lv' := [(1, .int t1.1.toInt32), (0, .ref (ad2 0))]) hx hb dL_rows_6 rfl hl (by decide) rfl (fun ls hl => ?_)
  refine lv_iconst (v := 0) hx hb dL_rows_7 (by decide) ?_
  refine lv_istore_n (lv' := [(2, .int (0 : Int32)), (1, .int t1.1.toInt32), (0, .ref (ad2 0))]) hx hb dL_rows_8 rfl hl (by decide) rfl (fun ls hl => ?_)
  exact L9 FU t1.2 t1.1.toInt32 (0 : Int32) ls (lv_sub hl [2, 1, 0] rfl) _ _ hH hf
abbrev rmW_part : Room := { frames := 7, cells := 0, slots := 0, locals := 165 }
set_option maxHeartbeats 4000000 in
set_option maxRecDepth 100000 in
theorem cW_part (l : Launch) (E : eE) (ad2 : Nat → Nat) (q0_letters : TL) (q0_trial : TL) (q0_snapshot : TL) (q0_isSaved : Int32) (q0_past : TP) (q0_rows : TR) (q0_bags : TB) (q0_tally : TY) (q0_sizes : TZ) (q0_text : TT) (q0_line : TN) (q0_latestReason : Int32) (q0_latestDetail : Int32) (a1 : Int32) (a2 : Int32) (a3 : Int32) (t : Int32 × TY × TZ) (hf : fW_part q0_letters q0_rows q0_tally q0_sizes a1 a2 a3 = some t) : cW l E yL_part cL_part 15 (some .boolean) rmW_part [.ref (ad2 0), .int a1, .int a2, .int a3] (wS E ad2 q0_letters q0_trial q0_snapshot q0_isSaved q0_past q0_rows q0_bags q0_tally q0_sizes q0_text q0_line q0_latestReason q0_latestDetail) (some (.int t.1)) (wS E ad2 q0_letters q0_trial q0_snapshot q0_isSaved q0_past q0_rows q0_bags t.2.1 t.2.2 q0_text q0_line q0_latestReason q0_latestDetail) := by
  refine Met.ofW (cc := cL_part) (maxL := 15) (ret := (some .boolean)) (by decide) rfl ?_
  intro p e s m args below meth c s₁ B hml hv
  obtain ⟨hargs, hP, hK, hD0⟩ := hv
  have hx := B.exec
  have hb := B.bytes
  have hr := B.returns
  have hts := atoms_spec (ws := ws_ yL_part cL_part 15 (some .boolean)) B.pre
  have hta : ∀ w ∈ lw_all, w.before args s = true := fun w h => hts w (List.mem_cons_of_mem _ h)
  have hown : s.vm.findClass RL = some m.cls := findClass_of_methodNamed B.named
  have hlocks := B.notSynchronized
  have hC : Cx p s m args c cL_part 15 RL E := ⟨hx, hb, hml, hown, hta, hK⟩
  have hH : Hp E (adr (wS E ad2 q0_letters q0_trial q0_snapshot q0_isSaved q0_past q0_rows q0_bags q0_tally q0_sizes q0_text q0_line q0_latestReason q0_latestDetail)) (wS E ad2 q0_letters q0_trial q0_snapshot q0_isSaved q0_past q0_rows q0_bags q0_tally q0_sizes q0_text q0_line q0_latestReason q0_latestDetail) s.heap s.heap [] := Hp.start hP hD0
  obtain ⟨ls, he, hl⟩ := entry_ (m := m) (n := 15) hargs (Nat.le_of_ble_eq_true rfl)
  rw [he]
  have hl : lv_has ls 15 [(0, .ref (ad2 0)), (1, .int a1), (2, .int a2), (3, .int a3)] := hl
  show W p l e rmW_part s m args below meth c s.heap [] 0 0 (MQ below (qW E (some .boolean) (some (.int t.1)) (wS E ad2 q0_letters q0_trial q0_snapshot q0_isSaved q0_past q0_rows q0_bags q0_tally q0_sizes q0_text q0_line q0_latestReason q0_latestDetail) (wS E ad2 q0_letters q0_trial q0_snapshot q0_isSaved q0_past q0_rows q0_bags t.2.1 t.2.2 q0_text q0_line q0_latestReason q0_latestDetail)) args s 0 0 (adr (wS E ad2 q0_letters q0_trial q0_snapshot q0_isSaved q0_past q0_rows q0_bags q0_tally q0_sizes q0_text q0_line q0_latestReason q0_latestDetail))) (F0 m 0 ls [])
  suffices hmain : ∀ (H : Heap) (locs : List Loc), Hp E (adr (wS E ad2 q0_letters q0_trial q0_snapshot q0_isSaved q0_past q0_rows q0_bags q0_tally q0_sizes q0_text q0_line q0_latestReason q0_latestDetail)) (wS E ad2 q0_letters q0_trial q0_snapshot q0_isSaved q0_past q0_rows q0_bags q0_tally q0_sizes q0_text q0_line q0_latestReason q0_latestDetail) s.heap H locs → W p l e rmW_part s m args below meth c H locs 0 0 (MQ below (qW E (some .boolean) (some (.int t.1)) (wS E ad2 q0_letters q0_trial q0_snapshot q0_isSaved q0_past q0_rows q0_bags q0_tally q0_sizes q0_text q0_line q0_latestReason q0_latestDetail) (wS E ad2 q0_letters q0_trial q0_snapshot q0_isSaved q0_past q0_rows q0_bags t.2.1 t.2.2 q0_text q0_line q0_latestReason q0_latestDetail)) args s 0 0 (adr (wS E ad2 q0_letters q0_trial q0_snapshot q0_isSaved q0_past q0_rows q0_bags q0_tally q0_sizes q0_text q0_line q0_latestReason q0_latestDetail))) (F0 m 0 ls []) from hmain _ _ hH
  clear hH
  have L163 : ∀ (n : Nat) (y0_7 : TY) (y0_8 : TZ) (a1 : Int32) (a2 : Int32) (a10 : Int64) (a12 : Int32) (ls : Array Slot), lv_has ls 15 [(0, .ref (ad2 0)), (1, .int a1), (2, .int a2), (10, .long a10), (12, .int a12)] → ∀ (H : Heap) (locs : List Loc), Hp E (adr (wS E ad2 q0_letters q0_trial q0_snapshot q0_isSaved q0_past q0_rows q0_bags q0_tally q0_sizes q0_text q0_line q0_latestReason q0_latestDetail)) (wS E ad2 q0_letters q0_trial q0_snapshot q0_isSaved q0_past q0_rows q0_bags y0_7 y0_8 q0_text q0_line q0_latestReason q0_latestDetail) s.heap H locs → fW_part_163 n q0_letters q0_rows y0_7 y0_8 a1 a2 a10 a12 = some t → W p l e rmW_part s m args below meth c H locs 0 0 (MQ below (qW E (some .boolean) (some (.int t.1)) (wS E ad2 q0_letters q0_trial q0_snapshot q0_isSaved q0_past q0_rows q0_bags q0_tally q0_sizes q0_text q0_line q0_latestReason q0_latestDetail) (wS E ad2 q0_letters q0_trial q0_snapshot q0_isSaved q0_past q0_rows q0_bags t.2.1 t.2.2 q0_text q0_line q0_latestReason q0_latestDetail)) args s 0 0 (adr (wS E ad2 q0_letters q0_trial q0_snapshot q0_isSaved q0_past q0_rows q0_bags q0_tally q0_sizes q0_text q0_line q0_latestReason q0_latestDetail))) (F0 m 163 ls []) := by
    intro n
    induction n with
    | zero => intro y0_7 y0_8 a1 a2 a10 a12 ls hl H locs hH hf; cases hf
    | succ n ih =>
      intro y0_7 y0_8 a1 a2 a10 a12 ls hl H locs hH hf
      rw [fW_part_163] at hf
      refine lv_aload_n hx hb dL_part_163 rfl (lv_at hl 0 rfl) ?_
      refine lv_iload_n hx hb dL_part_164 rfl (lv_at hl 1 rfl) ?_
      refine lv_iload_n hx hb dL_part_165 rfl (lv_at hl 2 rfl) ?_
      refine lv_iload hx hb dL_part_166 (lv_at hl 4 rfl) ?_
      obtain ⟨t6, ht6, hf⟩ := ob hf
      refine k_WSsl hC LL_220 ⟨Nat.le_of_ble_eq_true rfl, Nat.le_of_ble_eq_true rfl⟩ ⟨Nat.zero_le _, Nat.zero_le _⟩ (cW_mostCommon l E ad2 q0_letters q0_trial q0_snapshot q0_isSaved q0_past q0_rows q0_bags y0_7 y0_8 q0_text q0_line q0_latestReason q0_latestDetail a1 a2 a12 t6 ht6) rfl rfl hH rfl hl.1 rfl (Nat.le_of_ble_eq_true rfl) rfl dL_part_168 (fun H locs hz168 hH => ?_)
      have hH : Hp E (adr (wS E ad2 q0_letters q0_trial q0_snapshot q0_isSaved q0_past q0_rows q0_bags q0_tally q0_sizes q0_text q0_line q0_latestReason q0_latestDetail)) (wS E ad2 q0_letters q0_trial q0_snapshot q0_isSaved q0_past q0_rows q0_bags t6.2 y0_8 q0_text q0_line q0_latestReason q0_latestDetail) s.heap H locs := hH
      refine lv_lconst (v := 0) hx hb dL_part_171 (by decide) ?_
      refine W.lcmp hx hb dL_part_172 ?_
      refine lv_if_lt (tgt := 246) hx hb dL_part_173 (by decide) (fun c7 => ?_) (fun c7 => ?_)
      · have hf := ite_t hf c7
        refine lv_lload hx hb dL_part_246 (lv_at hl 3 rfl) ?_
        refine lv_iload_n hx hb dL_part_248 rfl (lv_at hl 2 rfl) ?_
        refine lv_iload_n hx hb dL_part_249 rfl (lv_at hl 1 rfl) ?_
        refine lv_isub hx hb dL_part_250 ?_
        refine lv_i2l hx hb dL_part_251 rfl ?_
        refine W.lcmp hx hb dL_part_252 ?_
        refine lv_if_ne (tgt := 260) hx hb dL_part_253 (by decide) (fun c8 => ?_) (fun c8 => ?_)
        · have hf := ite_f hf c8
          refine lv_iconst (v := 0) hx hb dL_part_260 (by decide) ?_
          have hf := Option.some.inj hf
          subst hf
          exact e_Wz hC hH hr hlocks rfl rfl rfl dL_part_261
        · have hf := ite_t hf c8
          refine lv_iconst (v := 1) hx hb dL_part_256 (by decide) ?_
          refine lv_goto (tgt := 261) hx hb dL_part_257 (by decide) ?_
          have hf := Option.some.inj hf
          subst hf
          exact e_Wz hC hH hr hlocks rfl rfl rfl dL_part_261
      · have hf := ite_f hf c7
        refine lv_aload_n hx hb dL_part_176 rfl (lv_at hl 0 rfl) ?_
        refine lv_iload_n hx hb dL_part_177 rfl (lv_at hl 1 rfl) ?_
        refine lv_iload_n hx hb dL_part_178 rfl (lv_at hl 2 rfl) ?_
        refine lv_aload_n hx hb dL_part_179 rfl (lv_at hl 0 rfl) ?_
        refine lv_iload_n hx hb dL_part_180 rfl (lv_at hl 1 rfl) ?_
        refine lv_iload_n hx hb dL_part_181 rfl (lv_at hl 2 rfl) ?_
        refine lv_iload hx hb dL_part_182 (lv_at hl 4 rfl) ?_
        obtain ⟨t9, ht9, hf⟩ := ob hf
        refine k_WSsl hC LL_220 ⟨Nat.le_of_ble_eq_true rfl, Nat.le_of_ble_eq_true rfl⟩ ⟨Nat.zero_le _, Nat.zero_le _⟩ (cW_mostCommon l E ad2 q0_letters q0_trial q0_snapshot q0_isSaved q0_past q0_rows q0_bags t6.2 y0_8 q0_text q0_line q0_latestReason q0_latestDetail a1 a2 a12 t9 ht9) rfl rfl hH rfl hl.1 rfl (Nat.le_of_ble_eq_true rfl) rfl dL_part_184 (fun H locs hz184 hH => ?_)
        have hH : Hp E (adr (wS E ad2 q0_letters q0_trial q0_snapshot q0_isSaved q0_past q0_rows q0_bags q0_tally q0_sizes q0_text q0_line q0_latestReason q0_latestDetail)) (wS E ad2 q0_letters q0_trial q0_snapshot q0_isSaved q0_past q0_rows q0_bags t9.2 y0_8 q0_text q0_line q0_latestReason q0_latestDetail) s.heap H locs := hH
        refine lv_l2i hx hb dL_part_187 rfl ?_
        obtain ⟨t10, ht10, hf⟩ := ob hf
        refine k_PSl hC LL_216 ⟨Nat.le_of_ble_eq_true rfl, Nat.le_of_ble_eq_true rfl⟩ ⟨Nat.zero_le _, Nat.zero_le _⟩ (cW_count l E ad2 q0_letters q0_trial q0_snapshot q0_isSaved q0_past q0_rows q0_bags t9.2 y0_8 q0_text q0_line q0_latestReason q0_latestDetail a1 a2 t9.1.toInt32 t10 ht10) rfl rfl hH.1 hl.1 rfl (Nat.le_of_ble_eq_true rfl) rfl dL_part_188 (fun hz188 => ?_)
        refine lv_lstore (lv' := [(13, .long t10), (0, .ref (ad2 0)), (1, .int a1), (2, .int a2), (10, .long a10), (12, .int a12)]) hx hb dL_part_191 hl (by decide) rfl (fun ls hl => ?_)
        refine lv_lload hx hb dL_part_193 (lv_at hl 4 rfl) ?_
        refine lv_lload hx hb dL_part_195 (lv_at hl 0 rfl) ?_
        refine lv_ladd hx hb dL_part_197 ?_
        refine lv_lstore (lv' := [(10, .long (a10 + t10)), (13, .long t10), (0, .ref (ad2 0)), (1, .int a1), (2, .int a2), (12, .int a12)]) hx hb dL_part_198 hl (by decide) rfl (fun ls hl => ?_)
        refine lv_aload_n hx hb dL_part_200 rfl (lv_at hl 2 rfl) ?_
        refine lv_iload_n hx hb dL_part_201 rfl (lv_at hl 3 rfl) ?_
        refine lv_iload_n hx hb dL_part_202 rfl (lv_at hl 4 rfl) ?_
        refine lv_iload hx hb dL_part_203 (lv_at hl 5 rfl) ?_
        refine lv_iconst (v := 1) hx hb dL_part_205 (by decide) ?_
        refine lv_iadd hx hb dL_part_206 ?_
        obtain ⟨t11, ht11, hf⟩ := ob hf
        refine k_WSsl hC LL_220 ⟨Nat.le_of_ble_eq_true rfl, Nat.le_of_ble_eq_true rfl⟩ ⟨Nat.zero_le _, Nat.zero_le _⟩ (cW_mostCommon l E ad2 q0_letters q0_trial q0_snapshot q0_isSaved q0_past q0_rows q0_bags t9.2 y0_8 q0_text q0_line q0_latestReason q0_latestDetail a1 a2 (a12 + (1 : Int32)) t11 ht11) rfl rfl hH rfl hl.1 rfl (Nat.le_of_ble_eq_true rfl) rfl dL_part_207 (fun H locs hz207 hH => ?_)
        have hH : Hp E (adr (wS E ad2 q0_letters q0_trial q0_snapshot q0_isSaved q0_past q0_rows q0_bags q0_tally q0_sizes q0_text q0_line q0_latestReason q0_latestDetail)) (wS E ad2 q0_letters q0_trial q0_snapshot q0_isSaved q0_past q0_rows q0_bags t11.2 y0_8 q0_text q0_line q0_latestReason q0_latestDetail) s.heap H locs := hH
        refine lv_lconst (v := 0) hx hb dL_part_210 (by decide) ?_
        refine W.lcmp hx hb dL_part_211 ?_
        refine lv_if_lt (tgt := 240) hx hb dL_part_212 (by decide) (fun c12 => ?_) (fun c12 => ?_)
        · have hf := ite_t hf c12
          refine lv_iinc (v := (a12 + (1 : Int32))) (lv' := [(12, .int (a12 + (1 : Int32))), (10, .long (a10 + t10)), (13, .long t10), (0, .ref (ad2 0)), (1, .int a1), (2, .int a2)]) hx hb dL_part_240 hl (k := 5) rfl rfl (by decide) rfl (fun ls hl => ?_)
          refine lv_goto (tgt := 163) hx hb dL_part_243 (by decide) ?_
          exact ih t11.2 y0_8 a1 a2 (a10 + t10) (a12 + (1 : Int32)) ls (lv_sub hl [3, 4, 5, 1, 0] rfl) _ _ hH hf
        · have hf := ite_f hf c12
          refine lv_aload_n hx hb dL_part_215 rfl (lv_at hl 2 rfl) ?_
          refine lv_iload_n hx hb dL_part_216 rfl (lv_at hl 3 rfl) ?_
          refine lv_iload_n hx hb dL_part_217 rfl (lv_at hl 4 rfl) ?_
          refine lv_aload_n hx hb dL_part_218 rfl (lv_at hl 2 rfl) ?_
          refine lv_iload_n hx hb dL_part_219 rfl (lv_at hl 3 rfl) ?_
          refine lv_iload_n hx hb dL_part_220 rfl (lv_at hl 4 rfl) ?_
          refine lv_iload hx hb dL_part_221 (lv_at hl 5 rfl) ?_
          refine lv_iconst (v := 1) hx hb dL_part_223 (by decide) ?_
          refine lv_iadd hx hb dL_part_224 ?_
          obtain ⟨t13, ht13, hf⟩ := ob hf
          refine k_WSsl hC LL_220 ⟨Nat.le_of_ble_eq_true rfl, Nat.le_of_ble_eq_true rfl⟩ ⟨Nat.zero_le _, Nat.zero_le _⟩ (cW_mostCommon l E ad2 q0_letters q0_trial q0_snapshot q0_isSaved q0_past q0_rows q0_bags t11.2 y0_8 q0_text q0_line q0_latestReason q0_latestDetail a1 a2 (a12 + (1 : Int32)) t13 ht13) rfl rfl hH rfl hl.1 rfl (Nat.le_of_ble_eq_true rfl) rfl dL_part_225 (fun H locs hz225 hH => ?_)
          have hH : Hp E (adr (wS E ad2 q0_letters q0_trial q0_snapshot q0_isSaved q0_past q0_rows q0_bags q0_tally q0_sizes q0_text q0_line q0_latestReason q0_latestDetail)) (wS E ad2 q0_letters q0_trial q0_snapshot q0_isSaved q0_past q0_rows q0_bags t13.2 y0_8 q0_text q0_line q0_latestReason q0_latestDetail) s.heap H locs := hH
          refine lv_l2i hx hb dL_part_228 rfl ?_
          obtain ⟨t14, ht14, hf⟩ := ob hf
          refine k_PSl hC LL_216 ⟨Nat.le_of_ble_eq_true rfl, Nat.le_of_ble_eq_true rfl⟩ ⟨Nat.zero_le _, Nat.zero_le _⟩ (cW_count l E ad2 q0_letters q0_trial q0_snapshot q0_isSaved q0_past q0_rows q0_bags t13.2 y0_8 q0_text q0_line q0_latestReason q0_latestDetail a1 a2 t13.1.toInt32 t14 ht14) rfl rfl hH.1 hl.1 rfl (Nat.le_of_ble_eq_true rfl) rfl dL_part_229 (fun hz229 => ?_)
          refine lv_lload hx hb dL_part_232 (lv_at hl 1 rfl) ?_
          refine W.lcmp hx hb dL_part_234 ?_
          refine lv_if_le (tgt := 240) hx hb dL_part_235 (by decide) (fun c15 => ?_) (fun c15 => ?_)
          · have hf := ite_t hf c15
            refine lv_iinc (v := (a12 + (1 : Int32))) (lv' := [(12, .int (a12 + (1 : Int32))), (10, .long (a10 + t10)), (13, .long t10), (0, .ref (ad2 0)), (1, .int a1), (2, .int a2)]) hx hb dL_part_240 hl (k := 5) rfl rfl (by decide) rfl (fun ls hl => ?_)
            refine lv_goto (tgt := 163) hx hb dL_part_243 (by decide) ?_
            exact ih t13.2 y0_8 a1 a2 (a10 + t10) (a12 + (1 : Int32)) ls (lv_sub hl [3, 4, 5, 1, 0] rfl) _ _ hH hf
          · have hf := ite_f hf c15
            refine lv_iconst (v := 0) hx hb dL_part_238 (by decide) ?_
            have hf := Option.some.inj hf
            subst hf
            exact e_Wz hC hH hr hlocks rfl rfl rfl dL_part_239
  have L8 : ∀ (n : Nat) (y0_7 : TY) (y0_8 : TZ) (a1 : Int32) (a2 : Int32) (a3 : Int32) (a4 : Int64) (a6 : Int32) (ls : Array Slot), lv_has ls 15 [(0, .ref (ad2 0)), (1, .int a1), (2, .int a2), (3, .int a3), (4, .long a4), (6, .int a6)] → ∀ (H : Heap) (locs : List Loc), Hp E (adr (wS E ad2 q0_letters q0_trial q0_snapshot q0_isSaved q0_past q0_rows q0_bags q0_tally q0_sizes q0_text q0_line q0_latestReason q0_latestDetail)) (wS E ad2 q0_letters q0_trial q0_snapshot q0_isSaved q0_past q0_rows q0_bags y0_7 y0_8 q0_text q0_line q0_latestReason q0_latestDetail) s.heap H locs → fW_part_8 n q0_letters q0_rows y0_7 y0_8 a1 a2 a3 a4 a6 = some t → W p l e rmW_part s m args below meth c H locs 0 0 (MQ below (qW E (some .boolean) (some (.int t.1)) (wS E ad2 q0_letters q0_trial q0_snapshot q0_isSaved q0_past q0_rows q0_bags q0_tally q0_sizes q0_text q0_line q0_latestReason q0_latestDetail) (wS E ad2 q0_letters q0_trial q0_snapshot q0_isSaved q0_past q0_rows q0_bags t.2.1 t.2.2 q0_text q0_line q0_latestReason q0_latestDetail)) args s 0 0 (adr (wS E ad2 q0_letters q0_trial q0_snapshot q0_isSaved q0_past q0_rows q0_bags q0_tally q0_sizes q0_text q0_line q0_latestReason q0_latestDetail))) (F0 m 8 ls []) := by
    intro n
    induction n with
    | zero => intro y0_7 y0_8 a1 a2 a3 a4 a6 ls hl H locs hH hf; cases hf
    | succ n ih =>
      intro y0_7 y0_8 a1 a2 a3 a4 a6 ls hl H locs hH hf
      rw [fW_part_8] at hf
      refine lv_iload hx hb dL_part_8 (lv_at hl 5 rfl) ?_
      refine lv_iload_n hx hb dL_part_10 rfl (lv_at hl 2 rfl) ?_
      refine lv_iload_n hx hb dL_part_11 rfl (lv_at hl 1 rfl) ?_
      refine lv_isub hx hb dL_part_12 ?_
      refine lv_icmp_ge (tgt := 102) hx hb dL_part_13 (by decide) (fun c1 => ?_) (fun c1 => ?_)
      · have hf := ite_t hf c1
        refine lv_aload_n hx hb dL_part_102 rfl (lv_at hl 0 rfl) ?_
        refine lv_iload_n hx hb dL_part_103 rfl (lv_at hl 1 rfl) ?_
        refine lv_iload_n hx hb dL_part_104 rfl (lv_at hl 2 rfl) ?_
        refine lv_iload_n hx hb dL_part_105 rfl (lv_at hl 3 rfl) ?_
        obtain ⟨t2, ht2, hf⟩ := ob hf
        refine k_PSl hC LL_218 ⟨Nat.le_of_ble_eq_true rfl, Nat.le_of_ble_eq_true rfl⟩ ⟨Nat.zero_le _, Nat.zero_le _⟩ (cW_atLeast l E ad2 q0_letters q0_trial q0_snapshot q0_isSaved q0_past q0_rows q0_bags y0_7 y0_8 q0_text q0_line q0_latestReason q0_latestDetail a1 a2 a3 t2 ht2) rfl rfl hH.1 hl.1 rfl (Nat.le_of_ble_eq_true rfl) rfl dL_part_106 (fun hz106 => ?_)
        refine lv_lstore (lv' := [(6, .long t2), (0, .ref (ad2 0)), (1, .int a1), (2, .int a2), (3, .int a3), (4, .long a4)]) hx hb dL_part_109 hl (by decide) rfl (fun ls hl => ?_)
        refine lv_aload_n hx hb dL_part_111 rfl (lv_at hl 1 rfl) ?_
        refine lv_iload_n hx hb dL_part_112 rfl (lv_at hl 2 rfl) ?_
        refine lv_iload_n hx hb dL_part_113 rfl (lv_at hl 3 rfl) ?_
        refine lv_iload_n hx hb dL_part_114 rfl (lv_at hl 4 rfl) ?_
        obtain ⟨t3, ht3, hf⟩ := ob hf
        refine k_PSl hC LL_214 ⟨Nat.le_of_ble_eq_true rfl, Nat.le_of_ble_eq_true rfl⟩ ⟨Nat.zero_le _, Nat.zero_le _⟩ (cW_lighter l E ad2 q0_letters q0_trial q0_snapshot q0_isSaved q0_past q0_rows q0_bags y0_7 y0_8 q0_text q0_line q0_latestReason q0_latestDetail a1 a2 a3 t3 ht3) rfl rfl hH.1 hl.1 rfl (Nat.le_of_ble_eq_true rfl) rfl dL_part_115 (fun hz115 => ?_)
        refine lv_lstore (lv' := [(8, .long t3), (6, .long t2), (0, .ref (ad2 0)), (1, .int a1), (2, .int a2), (3, .int a3), (4, .long a4)]) hx hb dL_part_118 hl (by decide) rfl (fun ls hl => ?_)
        refine lv_lload hx hb dL_part_120 (lv_at hl 1 rfl) ?_
        refine lv_lconst (v := 0) hx hb dL_part_122 (by decide) ?_
        refine W.lcmp hx hb dL_part_123 ?_
        refine lv_if_lt (tgt := 145) hx hb dL_part_124 (by decide) (fun c4 => ?_) (fun c4 => ?_)
        · have hf := ite_t hf c4
          refine lv_lload hx hb dL_part_145 (lv_at hl 0 rfl) ?_
          refine lv_iload_n hx hb dL_part_147 rfl (lv_at hl 4 rfl) ?_
          refine lv_iload_n hx hb dL_part_148 rfl (lv_at hl 3 rfl) ?_
          refine lv_isub hx hb dL_part_149 ?_
          refine lv_i2l hx hb dL_part_150 rfl ?_
          refine W.lcmp hx hb dL_part_151 ?_
          refine lv_if_eq (tgt := 157) hx hb dL_part_152 (by decide) (fun c5 => ?_) (fun c5 => ?_)
          · have hf := ite_t hf c5
            refine lv_lconst (v := 0) hx hb dL_part_157 (by decide) ?_
            refine lv_lstore (lv' := [(10, .long (0 : Int64)), (8, .long t3), (6, .long t2), (0, .ref (ad2 0)), (1, .int a1), (2, .int a2), (3, .int a3), (4, .long a4)]) hx hb dL_part_158 hl (by decide) rfl (fun ls hl => ?_)
            refine lv_iconst (v := 0) hx hb dL_part_160 (by decide) ?_
            refine lv_istore (lv' := [(12, .int (0 : Int32)), (10, .long (0 : Int64)), (8, .long t3), (6, .long t2), (0, .ref (ad2 0)), (1, .int a1), (2, .int a2), (3, .int a3), (4, .long a4)]) hx hb dL_part_161 hl (by decide) rfl (fun ls hl => ?_)
            exact L163 FU y0_7 y0_8 a1 a2 (0 : Int64) (0 : Int32) ls (lv_sub hl [4, 5, 6, 1, 0] rfl) _ _ hH hf
          · have hf := ite_f hf c5
            refine lv_iconst (v := 0) hx hb dL_part_155 (by decide) ?_
            have hf := Option.some.inj hf
            subst hf
            exact e_Wz hC hH hr hlocks rfl rfl rfl dL_part_156
        · have hf := ite_f hf c4
          refine lv_aload_n hx hb dL_part_127 rfl (lv_at hl 2 rfl) ?_
          refine lv_iload_n hx hb dL_part_128 rfl (lv_at hl 3 rfl) ?_
          refine lv_iload_n hx hb dL_part_129 rfl (lv_at hl 4 rfl) ?_
          refine lv_lload hx hb dL_part_130 (lv_at hl 0 rfl) ?_
          refine lv_l2i hx hb dL_part_132 rfl ?_
          obtain ⟨t16, ht16, hf⟩ := ob hf
          refine k_PSl hC LL_209 ⟨Nat.le_of_ble_eq_true rfl, Nat.le_of_ble_eq_true rfl⟩ ⟨Nat.zero_le _, Nat.zero_le _⟩ (cW_quantile l E ad2 q0_letters q0_trial q0_snapshot q0_isSaved q0_past q0_rows q0_bags y0_7 y0_8 q0_text q0_line q0_latestReason q0_latestDetail a1 a2 t3.toInt32 t16 ht16) rfl rfl hH.1 hl.1 rfl (Nat.le_of_ble_eq_true rfl) rfl dL_part_133 (fun hz133 => ?_)
          refine lv_lload hx hb dL_part_136 (lv_at hl 1 rfl) ?_
          refine W.lcmp hx hb dL_part_138 ?_
          refine lv_if_eq (tgt := 157) hx hb dL_part_139 (by decide) (fun c17 => ?_) (fun c17 => ?_)
          · have hf := ite_t hf c17
            refine lv_lconst (v := 0) hx hb dL_part_157 (by decide) ?_
            refine lv_lstore (lv' := [(10, .long (0 : Int64)), (8, .long t3), (6, .long t2), (0, .ref (ad2 0)), (1, .int a1), (2, .int a2), (3, .int a3), (4, .long a4)]) hx hb dL_part_158 hl (by decide) rfl (fun ls hl => ?_)
            refine lv_iconst (v := 0) hx hb dL_part_160 (by decide) ?_
            refine lv_istore (lv' := [(12, .int (0 : Int32)), (10, .long (0 : Int64)), (8, .long t3), (6, .long t2), (0, .ref (ad2 0)), (1, .int a1), (2, .int a2), (3, .int a3), (4, .long a4)]) hx hb dL_part_161 hl (by decide) rfl (fun ls hl => ?_)
            exact L163 FU y0_7 y0_8 a1 a2 (0 : Int64) (0 : Int32) ls (lv_sub hl [4, 5, 6, 1, 0] rfl) _ _ hH hf
          · have hf := ite_f hf c17
            refine lv_goto (tgt := 155) hx hb dL_part_142 (by decide) ?_
            refine lv_iconst (v := 0) hx hb dL_part_155 (by decide) ?_
            have hf := Option.some.inj hf
            subst hf
            exact e_Wz hC hH hr hlocks rfl rfl rfl dL_part_156
      · have hf := ite_f hf c1
        refine lv_aload_n hx hb dL_part_16 rfl (lv_at hl 0 rfl) ?_
        refine lv_iload_n hx hb dL_part_17 rfl (lv_at hl 1 rfl) ?_
        refine lv_iload_n hx hb dL_part_18 rfl (lv_at hl 2 rfl) ?_
        refine lv_iload hx hb dL_part_19 (lv_at hl 5 rfl) ?_
        obtain ⟨t18, ht18, hf⟩ := ob hf
        refine k_PSl hC LL_209 ⟨Nat.le_of_ble_eq_true rfl, Nat.le_of_ble_eq_true rfl⟩ ⟨Nat.zero_le _, Nat.zero_le _⟩ (cW_quantile l E ad2 q0_letters q0_trial q0_snapshot q0_isSaved q0_past q0_rows q0_bags y0_7 y0_8 q0_text q0_line q0_latestReason q0_latestDetail a1 a2 a6 t18 ht18) rfl rfl hH.1 hl.1 rfl (Nat.le_of_ble_eq_true rfl) rfl dL_part_21 (fun hz21 => ?_)
        refine lv_lstore (lv' := [(7, .long t18), (0, .ref (ad2 0)), (1, .int a1), (2, .int a2), (3, .int a3), (4, .long a4), (6, .int a6)]) hx hb dL_part_24 hl (by decide) rfl (fun ls hl => ?_)
        refine lv_lload hx hb dL_part_26 (lv_at hl 0 rfl) ?_
        refine lv_aload_n hx hb dL_part_28 rfl (lv_at hl 1 rfl) ?_
        refine lv_iload_n hx hb dL_part_29 rfl (lv_at hl 2 rfl) ?_
        refine lv_iload_n hx hb dL_part_30 rfl (lv_at hl 3 rfl) ?_
        refine lv_iload hx hb dL_part_31 (lv_at hl 6 rfl) ?_
        obtain ⟨t19, ht19, hf⟩ := ob hf
        refine k_WSsl hC LL_212 ⟨Nat.le_of_ble_eq_true rfl, Nat.le_of_ble_eq_true rfl⟩ ⟨Nat.zero_le _, Nat.zero_le _⟩ (cW_quantileAgain l E ad2 q0_letters q0_trial q0_snapshot q0_isSaved q0_past q0_rows q0_bags y0_7 y0_8 q0_text q0_line q0_latestReason q0_latestDetail a1 a2 a6 t19 ht19) rfl rfl hH rfl hl.1 rfl (Nat.le_of_ble_eq_true rfl) rfl dL_part_33 (fun H locs hz33 hH => ?_)
        have hH : Hp E (adr (wS E ad2 q0_letters q0_trial q0_snapshot q0_isSaved q0_past q0_rows q0_bags q0_tally q0_sizes q0_text q0_line q0_latestReason q0_latestDetail)) (wS E ad2 q0_letters q0_trial q0_snapshot q0_isSaved q0_past q0_rows q0_bags y0_7 t19.2 q0_text q0_line q0_latestReason q0_latestDetail) s.heap H locs := hH
        refine W.lcmp hx hb dL_part_36 ?_
        refine lv_if_ne (tgt := 90) hx hb dL_part_37 (by decide) (fun c20 => ?_) (fun c20 => ?_)
        · have hf := ite_f hf c20
          refine lv_iconst (v := 0) hx hb dL_part_90 (by decide) ?_
          have hf := Option.some.inj hf
          subst hf
          exact e_Wz hC hH hr hlocks rfl rfl rfl dL_part_91
        · have hf := ite_t hf c20
          refine lv_lload hx hb dL_part_40 (lv_at hl 0 rfl) ?_
          refine lv_lload hx hb dL_part_42 (lv_at hl 5 rfl) ?_
          refine W.lcmp hx hb dL_part_44 ?_
          refine lv_if_lt (tgt := 90) hx hb dL_part_45 (by decide) (fun c21 => ?_) (fun c21 => ?_)
          · have hf := ite_t hf c21
            refine lv_iconst (v := 0) hx hb dL_part_90 (by decide) ?_
            have hf := Option.some.inj hf
            subst hf
            exact e_Wz hC hH hr hlocks rfl rfl rfl dL_part_91
          · have hf := ite_f hf c21
            refine lv_aload_n hx hb dL_part_48 rfl (lv_at hl 1 rfl) ?_
            refine lv_iload_n hx hb dL_part_49 rfl (lv_at hl 2 rfl) ?_
            refine lv_iload_n hx hb dL_part_50 rfl (lv_at hl 3 rfl) ?_
            refine lv_lload hx hb dL_part_51 (lv_at hl 0 rfl) ?_
            refine lv_l2i hx hb dL_part_53 rfl ?_
            obtain ⟨t22, ht22, hf⟩ := ob hf
            refine k_PSl hC LL_214 ⟨Nat.le_of_ble_eq_true rfl, Nat.le_of_ble_eq_true rfl⟩ ⟨Nat.zero_le _, Nat.zero_le _⟩ (cW_lighter l E ad2 q0_letters q0_trial q0_snapshot q0_isSaved q0_past q0_rows q0_bags y0_7 t19.2 q0_text q0_line q0_latestReason q0_latestDetail a1 a2 t18.toInt32 t22 ht22) rfl rfl hH.1 hl.1 rfl (Nat.le_of_ble_eq_true rfl) rfl dL_part_54 (fun hz54 => ?_)
            refine lv_iload hx hb dL_part_57 (lv_at hl 6 rfl) ?_
            refine lv_i2l hx hb dL_part_59 rfl ?_
            refine W.lcmp hx hb dL_part_60 ?_
            refine lv_if_gt (tgt := 90) hx hb dL_part_61 (by decide) (fun c23 => ?_) (fun c23 => ?_)
            · have hf := ite_t hf c23
              refine lv_iconst (v := 0) hx hb dL_part_90 (by decide) ?_
              have hf := Option.some.inj hf
              subst hf
              exact e_Wz hC hH hr hlocks rfl rfl rfl dL_part_91
            · have hf := ite_f hf c23
              refine lv_aload_n hx hb dL_part_64 rfl (lv_at hl 1 rfl) ?_
              refine lv_iload_n hx hb dL_part_65 rfl (lv_at hl 2 rfl) ?_
              refine lv_iload_n hx hb dL_part_66 rfl (lv_at hl 3 rfl) ?_
              refine lv_lload hx hb dL_part_67 (lv_at hl 0 rfl) ?_
              refine lv_l2i hx hb dL_part_69 rfl ?_
              obtain ⟨t24, ht24, hf⟩ := ob hf
              refine k_PSl hC LL_214 ⟨Nat.le_of_ble_eq_true rfl, Nat.le_of_ble_eq_true rfl⟩ ⟨Nat.zero_le _, Nat.zero_le _⟩ (cW_lighter l E ad2 q0_letters q0_trial q0_snapshot q0_isSaved q0_past q0_rows q0_bags y0_7 t19.2 q0_text q0_line q0_latestReason q0_latestDetail a1 a2 t18.toInt32 t24 ht24) rfl rfl hH.1 hl.1 rfl (Nat.le_of_ble_eq_true rfl) rfl dL_part_70 (fun hz70 => ?_)
              refine lv_aload_n hx hb dL_part_73 rfl (lv_at hl 1 rfl) ?_
              refine lv_iload_n hx hb dL_part_74 rfl (lv_at hl 2 rfl) ?_
              refine lv_iload_n hx hb dL_part_75 rfl (lv_at hl 3 rfl) ?_
              refine lv_lload hx hb dL_part_76 (lv_at hl 0 rfl) ?_
              refine lv_l2i hx hb dL_part_78 rfl ?_
              obtain ⟨t25, ht25, hf⟩ := ob hf
              refine k_PSl hC LL_216 ⟨Nat.le_of_ble_eq_true rfl, Nat.le_of_ble_eq_true rfl⟩ ⟨Nat.zero_le _, Nat.zero_le _⟩ (cW_count l E ad2 q0_letters q0_trial q0_snapshot q0_isSaved q0_past q0_rows q0_bags y0_7 t19.2 q0_text q0_line q0_latestReason q0_latestDetail a1 a2 t18.toInt32 t25 ht25) rfl rfl hH.1 hl.1 rfl (Nat.le_of_ble_eq_true rfl) rfl dL_part_79 (fun hz79 => ?_)
              refine lv_ladd hx hb dL_part_82 ?_
              refine lv_iload hx hb dL_part_83 (lv_at hl 6 rfl) ?_
              refine lv_i2l hx hb dL_part_85 rfl ?_
              refine W.lcmp hx hb dL_part_86 ?_
              refine lv_if_gt (tgt := 92) hx hb dL_part_87 (by decide) (fun c26 => ?_) (fun c26 => ?_)
              · have hf := ite_t hf c26
                refine lv_lload hx hb dL_part_92 (lv_at hl 0 rfl) ?_
                refine lv_lstore (lv' := [(4, .long t18), (7, .long t18), (0, .ref (ad2 0)), (1, .int a1), (2, .int a2), (3, .int a3), (6, .int a6)]) hx hb dL_part_94 hl (by decide) rfl (fun ls hl => ?_)
                refine lv_iinc (v := (a6 + (1 : Int32))) (lv' := [(6, .int (a6 + (1 : Int32))), (4, .long t18), (7, .long t18), (0, .ref (ad2 0)), (1, .int a1), (2, .int a2), (3, .int a3)]) hx hb dL_part_96 hl (k := 6) rfl rfl (by decide) rfl (fun ls hl => ?_)
                refine lv_goto (tgt := 8) hx hb dL_part_99 (by decide) ?_
                exact ih y0_7 t19.2 a1 a2 a3 t18 (a6 + (1 : Int32)) ls (lv_sub hl [3, 4, 5, 6, 1, 0] rfl) _ _ hH hf
              · have hf := ite_f hf c26
                refine lv_iconst (v := 0) hx hb dL_part_90 (by decide) ?_
                have hf := Option.some.inj hf
                subst hf
                exact e_Wz hC hH hr hlocks rfl rfl rfl dL_part_91
  intro H locs hH
  rw [fW_part] at hf
  refine lv_ldc2 hx hb hown (hta _ q4_84) dL_part_0 ?_
  refine lv_lstore (lv' := [(4, .long (-1 : Int64)), (0, .ref (ad2 0)), (1, .int a1), (2, .int a2), (3, .int a3)]) hx hb dL_part_3 hl (by decide) rfl (fun ls hl => ?_)
  refine lv_iconst (v := 0) hx hb dL_part_5 (by decide) ?_
  refine lv_istore (lv' := [(6, .int (0 : Int32)), (4, .long (-1 : Int64)), (0, .ref (ad2 0)), (1, .int a1), (2, .int a2), (3, .int a3)]) hx hb dL_part_6 hl (by decide) rfl (fun ls hl => ?_)
  exact L8 FU q0_tally q0_sizes a1 a2 a3 (-1 : Int64) (0 : Int32) ls (lv_sub hl [2, 3, 4, 5, 1, 0] rfl) _ _ hH hf
abbrev rmW_fits : Room := { frames := 8, cells := 0, slots := 0, locals := 199 }
set_option maxHeartbeats 4000000 in
set_option maxRecDepth 100000 in
theorem cW_fits (l : Launch) (E : eE) (ad2 : Nat → Nat) (q0_letters : TL) (q0_trial : TL) (q0_snapshot : TL) (q0_isSaved : Int32) (q0_past : TP) (q0_rows : TR) (q0_bags : TB) (q0_tally : TY) (q0_sizes : TZ) (q0_text : TT) (q0_line : TN) (q0_latestReason : Int32) (q0_latestDetail : Int32) (a1 : Int32) (t : Int32 × TY × TZ) (hf : fW_fits q0_letters q0_past q0_rows q0_bags q0_tally q0_sizes q0_text a1 = some t) : cW l E yL_fits cL_fits 10 (some .boolean) rmW_fits [.ref (ad2 0), .int a1] (wS E ad2 q0_letters q0_trial q0_snapshot q0_isSaved q0_past q0_rows q0_bags q0_tally q0_sizes q0_text q0_line q0_latestReason q0_latestDetail) (some (.int t.1)) (wS E ad2 q0_letters q0_trial q0_snapshot q0_isSaved q0_past q0_rows q0_bags t.2.1 t.2.2 q0_text q0_line q0_latestReason q0_latestDetail) := by
  refine Met.ofW (cc := cL_fits) (maxL := 10) (ret := (some .boolean)) (by decide) rfl ?_
  intro p e s m args below meth c s₁ B hml hv
  obtain ⟨hargs, hP, hK, hD0⟩ := hv
  have hx := B.exec
  have hb := B.bytes
  have hr := B.returns
  have hts := atoms_spec (ws := ws_ yL_fits cL_fits 10 (some .boolean)) B.pre
  have hta : ∀ w ∈ lw_all, w.before args s = true := fun w h => hts w (List.mem_cons_of_mem _ h)
  have hown : s.vm.findClass RL = some m.cls := findClass_of_methodNamed B.named
  have hlocks := B.notSynchronized
  have hC : Cx p s m args c cL_fits 10 RL E := ⟨hx, hb, hml, hown, hta, hK⟩
  have hH : Hp E (adr (wS E ad2 q0_letters q0_trial q0_snapshot q0_isSaved q0_past q0_rows q0_bags q0_tally q0_sizes q0_text q0_line q0_latestReason q0_latestDetail)) (wS E ad2 q0_letters q0_trial q0_snapshot q0_isSaved q0_past q0_rows q0_bags q0_tally q0_sizes q0_text q0_line q0_latestReason q0_latestDetail) s.heap s.heap [] := Hp.start hP hD0
  obtain ⟨ls, he, hl⟩ := entry_ (m := m) (n := 10) hargs (Nat.le_of_ble_eq_true rfl)
  rw [he]
  have hl : lv_has ls 10 [(0, .ref (ad2 0)), (1, .int a1)] := hl
  show W p l e rmW_fits s m args below meth c s.heap [] 0 0 (MQ below (qW E (some .boolean) (some (.int t.1)) (wS E ad2 q0_letters q0_trial q0_snapshot q0_isSaved q0_past q0_rows q0_bags q0_tally q0_sizes q0_text q0_line q0_latestReason q0_latestDetail) (wS E ad2 q0_letters q0_trial q0_snapshot q0_isSaved q0_past q0_rows q0_bags t.2.1 t.2.2 q0_text q0_line q0_latestReason q0_latestDetail)) args s 0 0 (adr (wS E ad2 q0_letters q0_trial q0_snapshot q0_isSaved q0_past q0_rows q0_bags q0_tally q0_sizes q0_text q0_line q0_latestReason q0_latestDetail))) (F0 m 0 ls [])
  suffices hmain : ∀ (H : Heap) (locs : List Loc), Hp E (adr (wS E ad2 q0_letters q0_trial q0_snapshot q0_isSaved q0_past q0_rows q0_bags q0_tally q0_sizes q0_text q0_line q0_latestReason q0_latestDetail)) (wS E ad2 q0_letters q0_trial q0_snapshot q0_isSaved q0_past q0_rows q0_bags q0_tally q0_sizes q0_text q0_line q0_latestReason q0_latestDetail) s.heap H locs → W p l e rmW_fits s m args below meth c H locs 0 0 (MQ below (qW E (some .boolean) (some (.int t.1)) (wS E ad2 q0_letters q0_trial q0_snapshot q0_isSaved q0_past q0_rows q0_bags q0_tally q0_sizes q0_text q0_line q0_latestReason q0_latestDetail) (wS E ad2 q0_letters q0_trial q0_snapshot q0_isSaved q0_past q0_rows q0_bags t.2.1 t.2.2 q0_text q0_line q0_latestReason q0_latestDetail)) args s 0 0 (adr (wS E ad2 q0_letters q0_trial q0_snapshot q0_isSaved q0_past q0_rows q0_bags q0_tally q0_sizes q0_text q0_line q0_latestReason q0_latestDetail))) (F0 m 0 ls []) from hmain _ _ hH
  clear hH
  have L314 : ∀ (n : Nat) (y0_7 : TY) (y0_8 : TZ) (a5 : Int64) (a7 : Int32) (ls : Array Slot), lv_has ls 10 [(0, .ref (ad2 0)), (5, .long a5), (7, .int a7)] → ∀ (H : Heap) (locs : List Loc), Hp E (adr (wS E ad2 q0_letters q0_trial q0_snapshot q0_isSaved q0_past q0_rows q0_bags q0_tally q0_sizes q0_text q0_line q0_latestReason q0_latestDetail)) (wS E ad2 q0_letters q0_trial q0_snapshot q0_isSaved q0_past q0_rows q0_bags y0_7 y0_8 q0_text q0_line q0_latestReason q0_latestDetail) s.heap H locs → fW_fits_314 n q0_letters q0_past q0_rows q0_bags y0_7 y0_8 q0_text a5 a7 = some t → W p l e rmW_fits s m args below meth c H locs 0 0 (MQ below (qW E (some .boolean) (some (.int t.1)) (wS E ad2 q0_letters q0_trial q0_snapshot q0_isSaved q0_past q0_rows q0_bags q0_tally q0_sizes q0_text q0_line q0_latestReason q0_latestDetail) (wS E ad2 q0_letters q0_trial q0_snapshot q0_isSaved q0_past q0_rows q0_bags t.2.1 t.2.2 q0_text q0_line q0_latestReason q0_latestDetail)) args s 0 0 (adr (wS E ad2 q0_letters q0_trial q0_snapshot q0_isSaved q0_past q0_rows q0_bags q0_tally q0_sizes q0_text q0_line q0_latestReason q0_latestDetail))) (F0 m 314 ls []) := by
    intro n
    induction n with
    | zero => intro y0_7 y0_8 a5 a7 ls hl H locs hH hf; cases hf
    | succ n ih =>
      intro y0_7 y0_8 a5 a7 ls hl H locs hH hf
      rw [fW_fits_314] at hf
      refine lv_aload_n hx hb dL_fits_314 rfl (lv_at hl 0 rfl) ?_
      refine lv_iload hx hb dL_fits_315 (lv_at hl 2 rfl) ?_
      refine lv_iconst (v := 1) hx hb dL_fits_317 (by decide) ?_
      refine lv_iadd hx hb dL_fits_318 ?_
      obtain ⟨t17, ht17, hf⟩ := ob hf
      refine k_PSl hC LL_239 ⟨Nat.le_of_ble_eq_true rfl, Nat.le_of_ble_eq_true rfl⟩ ⟨Nat.zero_le _, Nat.zero_le _⟩ (cW_ranked l E ad2 q0_letters q0_trial q0_snapshot q0_isSaved q0_past q0_rows q0_bags y0_7 y0_8 q0_text q0_line q0_latestReason q0_latestDetail (a7 + (1 : Int32)) t17 ht17) rfl rfl hH.1 hl.1 rfl (Nat.le_of_ble_eq_true rfl) rfl dL_fits_319 (fun hz319 => ?_)
      refine lv_lconst (v := 0) hx hb dL_fits_322 (by decide) ?_
      refine W.lcmp hx hb dL_fits_323 ?_
      refine lv_if_lt (tgt := 365) hx hb dL_fits_324 (by decide) (fun c18 => ?_) (fun c18 => ?_)
      · have hf := ite_t hf c18
        refine lv_lload hx hb dL_fits_365 (lv_at hl 1 rfl) ?_
        refine lv_aload_n hx hb dL_fits_367 rfl (lv_at hl 0 rfl) ?_
        refine lv_iconst (v := 1) hx hb dL_fits_368 (by decide) ?_
        obtain ⟨t19, ht19, hf⟩ := ob hf
        refine k_WSsl hC LL_158 ⟨Nat.le_of_ble_eq_true rfl, Nat.le_of_ble_eq_true rfl⟩ ⟨Nat.zero_le _, Nat.zero_le _⟩ (cW_account l E ad2 q0_letters q0_trial q0_snapshot q0_isSaved q0_past q0_rows q0_bags y0_7 y0_8 q0_text q0_line q0_latestReason q0_latestDetail (1 : Int32) t19 ht19) rfl rfl hH rfl hl.1 rfl (Nat.le_of_ble_eq_true rfl) rfl dL_fits_369 (fun H locs hz369 hH => ?_)
        have hH : Hp E (adr (wS E ad2 q0_letters q0_trial q0_snapshot q0_isSaved q0_past q0_rows q0_bags q0_tally q0_sizes q0_text q0_line q0_latestReason q0_latestDetail)) (wS E ad2 q0_letters q0_trial q0_snapshot q0_isSaved q0_past q0_rows q0_bags t19.2 y0_8 q0_text q0_line q0_latestReason q0_latestDetail) s.heap H locs := hH
        refine W.lcmp hx hb dL_fits_372 ?_
        refine lv_if_ne (tgt := 380) hx hb dL_fits_373 (by decide) (fun c20 => ?_) (fun c20 => ?_)
        · have hf := ite_f hf c20
          refine lv_iconst (v := 0) hx hb dL_fits_380 (by decide) ?_
          have hf := Option.some.inj hf
          subst hf
          exact e_Wz hC hH hr hlocks rfl rfl rfl dL_fits_381
        · have hf := ite_t hf c20
          refine lv_iconst (v := 1) hx hb dL_fits_376 (by decide) ?_
          refine lv_goto (tgt := 381) hx hb dL_fits_377 (by decide) ?_
          have hf := Option.some.inj hf
          subst hf
          exact e_Wz hC hH hr hlocks rfl rfl rfl dL_fits_381
      · have hf := ite_f hf c18
        refine lv_aload_n hx hb dL_fits_327 rfl (lv_at hl 0 rfl) ?_
        refine lv_aload_n hx hb dL_fits_328 rfl (lv_at hl 0 rfl) ?_
        refine lv_iload hx hb dL_fits_329 (lv_at hl 2 rfl) ?_
        obtain ⟨t21, ht21, hf⟩ := ob hf
        refine k_PSl hC LL_239 ⟨Nat.le_of_ble_eq_true rfl, Nat.le_of_ble_eq_true rfl⟩ ⟨Nat.zero_le _, Nat.zero_le _⟩ (cW_ranked l E ad2 q0_letters q0_trial q0_snapshot q0_isSaved q0_past q0_rows q0_bags y0_7 y0_8 q0_text q0_line q0_latestReason q0_latestDetail a7 t21 ht21) rfl rfl hH.1 hl.1 rfl (Nat.le_of_ble_eq_true rfl) rfl dL_fits_331 (fun hz331 => ?_)
        refine lv_l2i hx hb dL_fits_334 rfl ?_
        refine lv_iconst (v := 2) hx hb dL_fits_335 (by decide) ?_
        obtain ⟨t22, ht22, hf⟩ := ob hf
        refine k_WSsl hC LL_163 ⟨Nat.le_of_ble_eq_true rfl, Nat.le_of_ble_eq_true rfl⟩ ⟨Nat.zero_le _, Nat.zero_le _⟩ (cW_bagOf l E ad2 q0_letters q0_trial q0_snapshot q0_isSaved q0_past q0_rows q0_bags y0_7 y0_8 q0_text q0_line q0_latestReason q0_latestDetail t21.toInt32 (2 : Int32) t22 ht22) rfl rfl hH rfl hl.1 rfl (Nat.le_of_ble_eq_true rfl) rfl dL_fits_336 (fun H locs hz336 hH => ?_)
        have hH : Hp E (adr (wS E ad2 q0_letters q0_trial q0_snapshot q0_isSaved q0_past q0_rows q0_bags q0_tally q0_sizes q0_text q0_line q0_latestReason q0_latestDetail)) (wS E ad2 q0_letters q0_trial q0_snapshot q0_isSaved q0_past q0_rows q0_bags t22.2 y0_8 q0_text q0_line q0_latestReason q0_latestDetail) s.heap H locs := hH
        refine lv_aload_n hx hb dL_fits_339 rfl (lv_at hl 0 rfl) ?_
        refine lv_aload_n hx hb dL_fits_340 rfl (lv_at hl 0 rfl) ?_
        refine lv_iload hx hb dL_fits_341 (lv_at hl 2 rfl) ?_
        refine lv_iconst (v := 1) hx hb dL_fits_343 (by decide) ?_
        refine lv_iadd hx hb dL_fits_344 ?_
        obtain ⟨t23, ht23, hf⟩ := ob hf
        refine k_PSl hC LL_239 ⟨Nat.le_of_ble_eq_true rfl, Nat.le_of_ble_eq_true rfl⟩ ⟨Nat.zero_le _, Nat.zero_le _⟩ (cW_ranked l E ad2 q0_letters q0_trial q0_snapshot q0_isSaved q0_past q0_rows q0_bags t22.2 y0_8 q0_text q0_line q0_latestReason q0_latestDetail (a7 + (1 : Int32)) t23 ht23) rfl rfl hH.1 hl.1 rfl (Nat.le_of_ble_eq_true rfl) rfl dL_fits_345 (fun hz345 => ?_)
        refine lv_l2i hx hb dL_fits_348 rfl ?_
        refine lv_iconst (v := 2) hx hb dL_fits_349 (by decide) ?_
        obtain ⟨t24, ht24, hf⟩ := ob hf
        refine k_WSsl hC LL_163 ⟨Nat.le_of_ble_eq_true rfl, Nat.le_of_ble_eq_true rfl⟩ ⟨Nat.zero_le _, Nat.zero_le _⟩ (cW_bagOf l E ad2 q0_letters q0_trial q0_snapshot q0_isSaved q0_past q0_rows q0_bags t22.2 y0_8 q0_text q0_line q0_latestReason q0_latestDetail t23.toInt32 (2 : Int32) t24 ht24) rfl rfl hH rfl hl.1 rfl (Nat.le_of_ble_eq_true rfl) rfl dL_fits_350 (fun H locs hz350 hH => ?_)
        have hH : Hp E (adr (wS E ad2 q0_letters q0_trial q0_snapshot q0_isSaved q0_past q0_rows q0_bags q0_tally q0_sizes q0_text q0_line q0_latestReason q0_latestDetail)) (wS E ad2 q0_letters q0_trial q0_snapshot q0_isSaved q0_past q0_rows q0_bags t24.2 y0_8 q0_text q0_line q0_latestReason q0_latestDetail) s.heap H locs := hH
        refine W.lcmp hx hb dL_fits_353 ?_
        refine lv_if_ge (tgt := 359) hx hb dL_fits_354 (by decide) (fun c25 => ?_) (fun c25 => ?_)
        · have hf := ite_t hf c25
          refine lv_iinc (v := (a7 + (1 : Int32))) (lv' := [(7, .int (a7 + (1 : Int32))), (0, .ref (ad2 0)), (5, .long a5)]) hx hb dL_fits_359 hl (k := 2) rfl rfl (by decide) rfl (fun ls hl => ?_)
          refine lv_goto (tgt := 314) hx hb dL_fits_362 (by decide) ?_
          exact ih t24.2 y0_8 a5 (a7 + (1 : Int32)) ls (lv_sub hl [1, 2, 0] rfl) _ _ hH hf
        · have hf := ite_f hf c25
          refine lv_iconst (v := 0) hx hb dL_fits_357 (by decide) ?_
          have hf := Option.some.inj hf
          subst hf
          exact e_Wz hC hH hr hlocks rfl rfl rfl dL_fits_358
  have L205 : ∀ (n : Nat) (y0_7 : TY) (y0_8 : TZ) (a5 : Int64) (a7 : Int32) (ls : Array Slot), lv_has ls 10 [(0, .ref (ad2 0)), (5, .long a5), (7, .int a7)] → ∀ (H : Heap) (locs : List Loc), Hp E (adr (wS E ad2 q0_letters q0_trial q0_snapshot q0_isSaved q0_past q0_rows q0_bags q0_tally q0_sizes q0_text q0_line q0_latestReason q0_latestDetail)) (wS E ad2 q0_letters q0_trial q0_snapshot q0_isSaved q0_past q0_rows q0_bags y0_7 y0_8 q0_text q0_line q0_latestReason q0_latestDetail) s.heap H locs → fW_fits_205 n q0_letters q0_past q0_rows q0_bags y0_7 y0_8 q0_text a5 a7 = some t → W p l e rmW_fits s m args below meth c H locs 0 0 (MQ below (qW E (some .boolean) (some (.int t.1)) (wS E ad2 q0_letters q0_trial q0_snapshot q0_isSaved q0_past q0_rows q0_bags q0_tally q0_sizes q0_text q0_line q0_latestReason q0_latestDetail) (wS E ad2 q0_letters q0_trial q0_snapshot q0_isSaved q0_past q0_rows q0_bags t.2.1 t.2.2 q0_text q0_line q0_latestReason q0_latestDetail)) args s 0 0 (adr (wS E ad2 q0_letters q0_trial q0_snapshot q0_isSaved q0_past q0_rows q0_bags q0_tally q0_sizes q0_text q0_line q0_latestReason q0_latestDetail))) (F0 m 205 ls []) := by
    intro n
    induction n with
    | zero => intro y0_7 y0_8 a5 a7 ls hl H locs hH hf; cases hf
    | succ n ih =>
      intro y0_7 y0_8 a5 a7 ls hl H locs hH hf
      rw [fW_fits_205] at hf
      refine lv_iload hx hb dL_fits_205 (lv_at hl 2 rfl) ?_
      refine lv_i2l hx hb dL_fits_207 rfl ?_
      refine lv_aload_n hx hb dL_fits_208 rfl (lv_at hl 0 rfl) ?_
      refine lv_iconst (v := 4) hx hb dL_fits_209 (by decide) ?_
      obtain ⟨t15, ht15, hf⟩ := ob hf
      refine k_WSsl hC LL_158 ⟨Nat.le_of_ble_eq_true rfl, Nat.le_of_ble_eq_true rfl⟩ ⟨Nat.zero_le _, Nat.zero_le _⟩ (cW_account l E ad2 q0_letters q0_trial q0_snapshot q0_isSaved q0_past q0_rows q0_bags y0_7 y0_8 q0_text q0_line q0_latestReason q0_latestDetail (4 : Int32) t15 ht15) rfl rfl hH rfl hl.1 rfl (Nat.le_of_ble_eq_true rfl) rfl dL_fits_210 (fun H locs hz210 hH => ?_)
      have hH : Hp E (adr (wS E ad2 q0_letters q0_trial q0_snapshot q0_isSaved q0_past q0_rows q0_bags q0_tally q0_sizes q0_text q0_line q0_latestReason q0_latestDetail)) (wS E ad2 q0_letters q0_trial q0_snapshot q0_isSaved q0_past q0_rows q0_bags t15.2 y0_8 q0_text q0_line q0_latestReason q0_latestDetail) s.heap H locs := hH
      refine W.lcmp hx hb dL_fits_213 ?_
      refine lv_if_ge (tgt := 311) hx hb dL_fits_214 (by decide) (fun c16 => ?_) (fun c16 => ?_)
      · have hf := ite_t hf c16
        refine lv_iconst (v := 0) hx hb dL_fits_311 (by decide) ?_
        refine lv_istore (lv' := [(7, .int (0 : Int32)), (0, .ref (ad2 0)), (5, .long a5)]) hx hb dL_fits_312 hl (by decide) rfl (fun ls hl => ?_)
        exact L314 FU t15.2 y0_8 a5 (0 : Int32) ls (lv_sub hl [1, 2, 0] rfl) _ _ hH hf
      · have hf := ite_f hf c16
        refine lv_aload_n hx hb dL_fits_217 rfl (lv_at hl 0 rfl) ?_
        refine lv_iload hx hb dL_fits_218 (lv_at hl 2 rfl) ?_
        refine lv_iconst (v := 0) hx hb dL_fits_220 (by decide) ?_
        obtain ⟨t26, ht26, hf⟩ := ob hf
        refine k_WSsl hC LL_163 ⟨Nat.le_of_ble_eq_true rfl, Nat.le_of_ble_eq_true rfl⟩ ⟨Nat.zero_le _, Nat.zero_le _⟩ (cW_bagOf l E ad2 q0_letters q0_trial q0_snapshot q0_isSaved q0_past q0_rows q0_bags t15.2 y0_8 q0_text q0_line q0_latestReason q0_latestDetail a7 (0 : Int32) t26 ht26) rfl rfl hH rfl hl.1 rfl (Nat.le_of_ble_eq_true rfl) rfl dL_fits_221 (fun H locs hz221 hH => ?_)
        have hH : Hp E (adr (wS E ad2 q0_letters q0_trial q0_snapshot q0_isSaved q0_past q0_rows q0_bags q0_tally q0_sizes q0_text q0_line q0_latestReason q0_latestDetail)) (wS E ad2 q0_letters q0_trial q0_snapshot q0_isSaved q0_past q0_rows q0_bags t26.2 y0_8 q0_text q0_line q0_latestReason q0_latestDetail) s.heap H locs := hH
        refine lv_l2i hx hb dL_fits_224 rfl ?_
        refine lv_istore (lv' := [(8, .int t26.1.toInt32), (0, .ref (ad2 0)), (5, .long a5), (7, .int a7)]) hx hb dL_fits_225 hl (by decide) rfl (fun ls hl => ?_)
        refine lv_aload_n hx hb dL_fits_227 rfl (lv_at hl 1 rfl) ?_
        refine lv_iload hx hb dL_fits_228 (lv_at hl 3 rfl) ?_
        refine lv_iconst (v := 1) hx hb dL_fits_230 (by decide) ?_
        obtain ⟨t27, ht27, hf⟩ := ob hf
        refine k_WSsl hC LL_163 ⟨Nat.le_of_ble_eq_true rfl, Nat.le_of_ble_eq_true rfl⟩ ⟨Nat.zero_le _, Nat.zero_le _⟩ (cW_bagOf l E ad2 q0_letters q0_trial q0_snapshot q0_isSaved q0_past q0_rows q0_bags t26.2 y0_8 q0_text q0_line q0_latestReason q0_latestDetail a7 (1 : Int32) t27 ht27) rfl rfl hH rfl hl.1 rfl (Nat.le_of_ble_eq_true rfl) rfl dL_fits_231 (fun H locs hz231 hH => ?_)
        have hH : Hp E (adr (wS E ad2 q0_letters q0_trial q0_snapshot q0_isSaved q0_past q0_rows q0_bags q0_tally q0_sizes q0_text q0_line q0_latestReason q0_latestDetail)) (wS E ad2 q0_letters q0_trial q0_snapshot q0_isSaved q0_past q0_rows q0_bags t27.2 y0_8 q0_text q0_line q0_latestReason q0_latestDetail) s.heap H locs := hH
        refine lv_l2i hx hb dL_fits_234 rfl ?_
        refine lv_istore (lv' := [(9, .int t27.1.toInt32), (8, .int t26.1.toInt32), (0, .ref (ad2 0)), (5, .long a5), (7, .int a7)]) hx hb dL_fits_235 hl (by decide) rfl (fun ls hl => ?_)
        refine lv_lload hx hb dL_fits_237 (lv_at hl 3 rfl) ?_
        refine lv_aload_n hx hb dL_fits_239 rfl (lv_at hl 2 rfl) ?_
        refine lv_iload hx hb dL_fits_240 (lv_at hl 4 rfl) ?_
        refine lv_iconst (v := 2) hx hb dL_fits_242 (by decide) ?_
        obtain ⟨t28, ht28, hf⟩ := ob hf
        refine k_WSsl hC LL_163 ⟨Nat.le_of_ble_eq_true rfl, Nat.le_of_ble_eq_true rfl⟩ ⟨Nat.zero_le _, Nat.zero_le _⟩ (cW_bagOf l E ad2 q0_letters q0_trial q0_snapshot q0_isSaved q0_past q0_rows q0_bags t27.2 y0_8 q0_text q0_line q0_latestReason q0_latestDetail a7 (2 : Int32) t28 ht28) rfl rfl hH rfl hl.1 rfl (Nat.le_of_ble_eq_true rfl) rfl dL_fits_243 (fun H locs hz243 hH => ?_)
        have hH : Hp E (adr (wS E ad2 q0_letters q0_trial q0_snapshot q0_isSaved q0_past q0_rows q0_bags q0_tally q0_sizes q0_text q0_line q0_latestReason q0_latestDetail)) (wS E ad2 q0_letters q0_trial q0_snapshot q0_isSaved q0_past q0_rows q0_bags t28.2 y0_8 q0_text q0_line q0_latestReason q0_latestDetail) s.heap H locs := hH
        refine lv_ladd hx hb dL_fits_246 ?_
        refine lv_lstore (lv' := [(5, .long (a5 + t28.1)), (9, .int t27.1.toInt32), (8, .int t26.1.toInt32), (0, .ref (ad2 0)), (7, .int a7)]) hx hb dL_fits_247 hl (by decide) rfl (fun ls hl => ?_)
        refine lv_aload_n hx hb dL_fits_249 rfl (lv_at hl 3 rfl) ?_
        refine lv_iload hx hb dL_fits_250 (lv_at hl 4 rfl) ?_
        refine lv_iconst (v := 3) hx hb dL_fits_252 (by decide) ?_
        obtain ⟨t29, ht29, hf⟩ := ob hf
        refine k_WSsl hC LL_163 ⟨Nat.le_of_ble_eq_true rfl, Nat.le_of_ble_eq_true rfl⟩ ⟨Nat.zero_le _, Nat.zero_le _⟩ (cW_bagOf l E ad2 q0_letters q0_trial q0_snapshot q0_isSaved q0_past q0_rows q0_bags t28.2 y0_8 q0_text q0_line q0_latestReason q0_latestDetail a7 (3 : Int32) t29 ht29) rfl rfl hH rfl hl.1 rfl (Nat.le_of_ble_eq_true rfl) rfl dL_fits_253 (fun H locs hz253 hH => ?_)
        have hH : Hp E (adr (wS E ad2 q0_letters q0_trial q0_snapshot q0_isSaved q0_past q0_rows q0_bags q0_tally q0_sizes q0_text q0_line q0_latestReason q0_latestDetail)) (wS E ad2 q0_letters q0_trial q0_snapshot q0_isSaved q0_past q0_rows q0_bags t29.2 y0_8 q0_text q0_line q0_latestReason q0_latestDetail) s.heap H locs := hH
        refine lv_aload_n hx hb dL_fits_256 rfl (lv_at hl 3 rfl) ?_
        refine lv_iload hx hb dL_fits_257 (lv_at hl 2 rfl) ?_
        refine lv_iload hx hb dL_fits_259 (lv_at hl 2 rfl) ?_
        refine lv_iload hx hb dL_fits_261 (lv_at hl 1 rfl) ?_
        refine lv_iadd hx hb dL_fits_263 ?_
        refine lv_iload hx hb dL_fits_264 (lv_at hl 1 rfl) ?_
        refine lv_iconst (v := 1) hx hb dL_fits_266 (by decide) ?_
        refine lv_isub hx hb dL_fits_267 ?_
        refine lv_iconst (v := 2) hx hb dL_fits_268 (by decide) ?_
        refine lv_idiv hx hb dL_fits_269 (by decide) ?_
        obtain ⟨t30, ht30, hf⟩ := ob hf
        refine k_PSl hC LL_209 ⟨Nat.le_of_ble_eq_true rfl, Nat.le_of_ble_eq_true rfl⟩ ⟨Nat.zero_le _, Nat.zero_le _⟩ (cW_quantile l E ad2 q0_letters q0_trial q0_snapshot q0_isSaved q0_past q0_rows q0_bags t29.2 y0_8 q0_text q0_line q0_latestReason q0_latestDetail t26.1.toInt32 (t26.1.toInt32 + t27.1.toInt32) ((t27.1.toInt32 - (1 : Int32)) / (2 : Int32)) t30 ht30) rfl rfl hH.1 hl.1 rfl (Nat.le_of_ble_eq_true rfl) rfl dL_fits_270 (fun hz270 => ?_)
        refine W.lcmp hx hb dL_fits_273 ?_
        refine lv_if_ne (tgt := 303) hx hb dL_fits_274 (by decide) (fun c31 => ?_) (fun c31 => ?_)
        · have hf := ite_f hf c31
          refine lv_iconst (v := 0) hx hb dL_fits_303 (by decide) ?_
          have hf := Option.some.inj hf
          subst hf
          exact e_Wz hC hH hr hlocks rfl rfl rfl dL_fits_304
        · have hf := ite_t hf c31
          refine lv_aload_n hx hb dL_fits_277 rfl (lv_at hl 3 rfl) ?_
          refine lv_iload hx hb dL_fits_278 (lv_at hl 4 rfl) ?_
          refine lv_iconst (v := 4) hx hb dL_fits_280 (by decide) ?_
          obtain ⟨t32, ht32, hf⟩ := ob hf
          refine k_WSsl hC LL_163 ⟨Nat.le_of_ble_eq_true rfl, Nat.le_of_ble_eq_true rfl⟩ ⟨Nat.zero_le _, Nat.zero_le _⟩ (cW_bagOf l E ad2 q0_letters q0_trial q0_snapshot q0_isSaved q0_past q0_rows q0_bags t29.2 y0_8 q0_text q0_line q0_latestReason q0_latestDetail a7 (4 : Int32) t32 ht32) rfl rfl hH rfl hl.1 rfl (Nat.le_of_ble_eq_true rfl) rfl dL_fits_281 (fun H locs hz281 hH => ?_)
          have hH : Hp E (adr (wS E ad2 q0_letters q0_trial q0_snapshot q0_isSaved q0_past q0_rows q0_bags q0_tally q0_sizes q0_text q0_line q0_latestReason q0_latestDetail)) (wS E ad2 q0_letters q0_trial q0_snapshot q0_isSaved q0_past q0_rows q0_bags t32.2 y0_8 q0_text q0_line q0_latestReason q0_latestDetail) s.heap H locs := hH
          refine lv_aload_n hx hb dL_fits_284 rfl (lv_at hl 3 rfl) ?_
          refine lv_iload hx hb dL_fits_285 (lv_at hl 2 rfl) ?_
          refine lv_iload hx hb dL_fits_287 (lv_at hl 2 rfl) ?_
          refine lv_iload hx hb dL_fits_289 (lv_at hl 1 rfl) ?_
          refine lv_iadd hx hb dL_fits_291 ?_
          refine lv_iload hx hb dL_fits_292 (lv_at hl 1 rfl) ?_
          refine lv_iconst (v := 1) hx hb dL_fits_294 (by decide) ?_
          refine lv_isub hx hb dL_fits_295 ?_
          obtain ⟨t33, ht33, hf⟩ := ob hf
          refine k_PSl hC LL_209 ⟨Nat.le_of_ble_eq_true rfl, Nat.le_of_ble_eq_true rfl⟩ ⟨Nat.zero_le _, Nat.zero_le _⟩ (cW_quantile l E ad2 q0_letters q0_trial q0_snapshot q0_isSaved q0_past q0_rows q0_bags t32.2 y0_8 q0_text q0_line q0_latestReason q0_latestDetail t26.1.toInt32 (t26.1.toInt32 + t27.1.toInt32) (t27.1.toInt32 - (1 : Int32)) t33 ht33) rfl rfl hH.1 hl.1 rfl (Nat.le_of_ble_eq_true rfl) rfl dL_fits_296 (fun hz296 => ?_)
          refine W.lcmp hx hb dL_fits_299 ?_
          refine lv_if_eq (tgt := 305) hx hb dL_fits_300 (by decide) (fun c34 => ?_) (fun c34 => ?_)
          · have hf := ite_t hf c34
            refine lv_iinc (v := (a7 + (1 : Int32))) (lv' := [(7, .int (a7 + (1 : Int32))), (5, .long (a5 + t28.1)), (9, .int t27.1.toInt32), (8, .int t26.1.toInt32), (0, .ref (ad2 0))]) hx hb dL_fits_305 hl (k := 4) rfl rfl (by decide) rfl (fun ls hl => ?_)
            refine lv_goto (tgt := 205) hx hb dL_fits_308 (by decide) ?_
            exact ih t32.2 y0_8 (a5 + t28.1) (a7 + (1 : Int32)) ls (lv_sub hl [4, 1, 0] rfl) _ _ hH hf
          · have hf := ite_f hf c34
            refine lv_iconst (v := 0) hx hb dL_fits_303 (by decide) ?_
            have hf := Option.some.inj hf
            subst hf
            exact e_Wz hC hH hr hlocks rfl rfl rfl dL_fits_304
  have L89 : ∀ (n : Nat) (y0_7 : TY) (y0_8 : TZ) (a2 : Int32) (a5 : Int32) (ls : Array Slot), lv_has ls 10 [(0, .ref (ad2 0)), (2, .int a2), (5, .int a5)] → ∀ (H : Heap) (locs : List Loc), Hp E (adr (wS E ad2 q0_letters q0_trial q0_snapshot q0_isSaved q0_past q0_rows q0_bags q0_tally q0_sizes q0_text q0_line q0_latestReason q0_latestDetail)) (wS E ad2 q0_letters q0_trial q0_snapshot q0_isSaved q0_past q0_rows q0_bags y0_7 y0_8 q0_text q0_line q0_latestReason q0_latestDetail) s.heap H locs → fW_fits_89 n q0_letters q0_past q0_rows q0_bags y0_7 y0_8 q0_text a2 a5 = some t → W p l e rmW_fits s m args below meth c H locs 0 0 (MQ below (qW E (some .boolean) (some (.int t.1)) (wS E ad2 q0_letters q0_trial q0_snapshot q0_isSaved q0_past q0_rows q0_bags q0_tally q0_sizes q0_text q0_line q0_latestReason q0_latestDetail) (wS E ad2 q0_letters q0_trial q0_snapshot q0_isSaved q0_past q0_rows q0_bags t.2.1 t.2.2 q0_text q0_line q0_latestReason q0_latestDetail)) args s 0 0 (adr (wS E ad2 q0_letters q0_trial q0_snapshot q0_isSaved q0_past q0_rows q0_bags q0_tally q0_sizes q0_text q0_line q0_latestReason q0_latestDetail))) (F0 m 89 ls []) := by
    intro n
    induction n with
    | zero => intro y0_7 y0_8 a2 a5 ls hl H locs hH hf; cases hf
    | succ n ih =>
      intro y0_7 y0_8 a2 a5 ls hl H locs hH hf
      rw [fW_fits_89] at hf
      refine lv_iload hx hb dL_fits_89 (lv_at hl 2 rfl) ?_
      refine lv_iload_n hx hb dL_fits_91 rfl (lv_at hl 1 rfl) ?_
      refine lv_icmp_ge (tgt := 199) hx hb dL_fits_92 (by decide) (fun c14 => ?_) (fun c14 => ?_)
      · have hf := ite_t hf c14
        refine lv_lconst (v := 0) hx hb dL_fits_199 (by decide) ?_
        refine lv_lstore (lv' := [(5, .long (0 : Int64)), (0, .ref (ad2 0)), (2, .int a2)]) hx hb dL_fits_200 hl (by decide) rfl (fun ls hl => ?_)
        refine lv_iconst (v := 0) hx hb dL_fits_202 (by decide) ?_
        refine lv_istore (lv' := [(7, .int (0 : Int32)), (5, .long (0 : Int64)), (0, .ref (ad2 0)), (2, .int a2)]) hx hb dL_fits_203 hl (by decide) rfl (fun ls hl => ?_)
        exact L205 FU y0_7 y0_8 (0 : Int64) (0 : Int32) ls (lv_sub hl [2, 1, 0] rfl) _ _ hH hf
      · have hf := ite_f hf c14
        refine lv_aload_n hx hb dL_fits_95 rfl (lv_at hl 0 rfl) ?_
        refine lv_iload hx hb dL_fits_96 (lv_at hl 2 rfl) ?_
        obtain ⟨t35, ht35, hf⟩ := ob hf
        refine k_PSl hC LL_161 ⟨Nat.le_of_ble_eq_true rfl, Nat.le_of_ble_eq_true rfl⟩ ⟨Nat.zero_le _, Nat.zero_le _⟩ (cW_weight l E ad2 q0_letters q0_trial q0_snapshot q0_isSaved q0_past q0_rows q0_bags y0_7 y0_8 q0_text q0_line q0_latestReason q0_latestDetail a5 t35 ht35) rfl rfl hH.1 hl.1 rfl (Nat.le_of_ble_eq_true rfl) rfl dL_fits_98 (fun hz98 => ?_)
        refine lv_aload_n hx hb dL_fits_101 rfl (lv_at hl 0 rfl) ?_
        refine lv_iload hx hb dL_fits_102 (lv_at hl 2 rfl) ?_
        obtain ⟨t36, ht36, hf⟩ := ob hf
        refine k_PSl hC LL_233 ⟨Nat.le_of_ble_eq_true rfl, Nat.le_of_ble_eq_true rfl⟩ ⟨Nat.zero_le _, Nat.zero_le _⟩ (cW_weightAgain l E ad2 q0_letters q0_trial q0_snapshot q0_isSaved q0_past q0_rows q0_bags y0_7 y0_8 q0_text q0_line q0_latestReason q0_latestDetail a5 t36 ht36) rfl rfl hH.1 hl.1 rfl (Nat.le_of_ble_eq_true rfl) rfl dL_fits_104 (fun hz104 => ?_)
        refine W.lcmp hx hb dL_fits_107 ?_
        refine lv_if_ne (tgt := 144) hx hb dL_fits_108 (by decide) (fun c37 => ?_) (fun c37 => ?_)
        · have hf := ite_f hf c37
          refine lv_iconst (v := 0) hx hb dL_fits_144 (by decide) ?_
          have hf := Option.some.inj hf
          subst hf
          exact e_Wz hC hH hr hlocks rfl rfl rfl dL_fits_145
        · have hf := ite_t hf c37
          refine lv_aload_n hx hb dL_fits_111 rfl (lv_at hl 0 rfl) ?_
          refine lv_aload_n hx hb dL_fits_112 rfl (lv_at hl 0 rfl) ?_
          refine lv_iload hx hb dL_fits_113 (lv_at hl 2 rfl) ?_
          obtain ⟨t38, ht38, hf⟩ := ob hf
          refine k_PSl hC LL_161 ⟨Nat.le_of_ble_eq_true rfl, Nat.le_of_ble_eq_true rfl⟩ ⟨Nat.zero_le _, Nat.zero_le _⟩ (cW_weight l E ad2 q0_letters q0_trial q0_snapshot q0_isSaved q0_past q0_rows q0_bags y0_7 y0_8 q0_text q0_line q0_latestReason q0_latestDetail a5 t38 ht38) rfl rfl hH.1 hl.1 rfl (Nat.le_of_ble_eq_true rfl) rfl dL_fits_115 (fun hz115 => ?_)
          refine lv_l2i hx hb dL_fits_118 rfl ?_
          refine lv_aload_n hx hb dL_fits_119 rfl (lv_at hl 0 rfl) ?_
          refine lv_iconst (v := 0) hx hb dL_fits_120 (by decide) ?_
          refine lv_iload hx hb dL_fits_121 (lv_at hl 2 rfl) ?_
          refine lv_aload_n hx hb dL_fits_123 rfl (lv_at hl 0 rfl) ?_
          refine lv_iload hx hb dL_fits_124 (lv_at hl 2 rfl) ?_
          obtain ⟨t39, ht39, hf⟩ := ob hf
          refine k_PSl hC LL_161 ⟨Nat.le_of_ble_eq_true rfl, Nat.le_of_ble_eq_true rfl⟩ ⟨Nat.zero_le _, Nat.zero_le _⟩ (cW_weight l E ad2 q0_letters q0_trial q0_snapshot q0_isSaved q0_past q0_rows q0_bags y0_7 y0_8 q0_text q0_line q0_latestReason q0_latestDetail a5 t39 ht39) rfl rfl hH.1 hl.1 rfl (Nat.le_of_ble_eq_true rfl) rfl dL_fits_126 (fun hz126 => ?_)
          refine lv_l2i hx hb dL_fits_129 rfl ?_
          obtain ⟨t40, ht40, hf⟩ := ob hf
          refine k_PSl hC LL_216 ⟨Nat.le_of_ble_eq_true rfl, Nat.le_of_ble_eq_true rfl⟩ ⟨Nat.zero_le _, Nat.zero_le _⟩ (cW_count l E ad2 q0_letters q0_trial q0_snapshot q0_isSaved q0_past q0_rows q0_bags y0_7 y0_8 q0_text q0_line q0_latestReason q0_latestDetail (0 : Int32) a5 t39.toInt32 t40 ht40) rfl rfl hH.1 hl.1 rfl (Nat.le_of_ble_eq_true rfl) rfl dL_fits_130 (fun hz130 => ?_)
          refine lv_l2i hx hb dL_fits_133 rfl ?_
          obtain ⟨t41, ht41, hf⟩ := ob hf
          refine k_PSl hC LL_235 ⟨Nat.le_of_ble_eq_true rfl, Nat.le_of_ble_eq_true rfl⟩ ⟨Nat.zero_le _, Nat.zero_le _⟩ (cW_find l E ad2 q0_letters q0_trial q0_snapshot q0_isSaved q0_past q0_rows q0_bags y0_7 y0_8 q0_text q0_line q0_latestReason q0_latestDetail t38.toInt32 t40.toInt32 t41 ht41) rfl rfl hH.1 hl.1 rfl (Nat.le_of_ble_eq_true rfl) rfl dL_fits_134 (fun hz134 => ?_)
          refine lv_iload hx hb dL_fits_137 (lv_at hl 2 rfl) ?_
          refine lv_i2l hx hb dL_fits_139 rfl ?_
          refine W.lcmp hx hb dL_fits_140 ?_
          refine lv_if_eq (tgt := 146) hx hb dL_fits_141 (by decide) (fun c42 => ?_) (fun c42 => ?_)
          · have hf := ite_t hf c42
            refine lv_aload_n hx hb dL_fits_146 rfl (lv_at hl 0 rfl) ?_
            refine lv_iload hx hb dL_fits_147 (lv_at hl 2 rfl) ?_
            obtain ⟨t43, ht43, hf⟩ := ob hf
            refine k_PSl hC LL_237 ⟨Nat.le_of_ble_eq_true rfl, Nat.le_of_ble_eq_true rfl⟩ ⟨Nat.zero_le _, Nat.zero_le _⟩ (cW_bagAt l E ad2 q0_letters q0_trial q0_snapshot q0_isSaved q0_past q0_rows q0_bags y0_7 y0_8 q0_text q0_line q0_latestReason q0_latestDetail a5 t43 ht43) rfl rfl hH.1 hl.1 rfl (Nat.le_of_ble_eq_true rfl) rfl dL_fits_149 (fun hz149 => ?_)
            refine lv_l2i hx hb dL_fits_152 rfl ?_
            refine lv_istore (lv' := [(6, .int t43.toInt32), (0, .ref (ad2 0)), (2, .int a2), (5, .int a5)]) hx hb dL_fits_153 hl (by decide) rfl (fun ls hl => ?_)
            refine lv_aload_n hx hb dL_fits_155 rfl (lv_at hl 1 rfl) ?_
            refine lv_iload hx hb dL_fits_156 (lv_at hl 0 rfl) ?_
            refine lv_iconst (v := 0) hx hb dL_fits_158 (by decide) ?_
            obtain ⟨t44, ht44, hf⟩ := ob hf
            refine k_WSsl hC LL_163 ⟨Nat.le_of_ble_eq_true rfl, Nat.le_of_ble_eq_true rfl⟩ ⟨Nat.zero_le _, Nat.zero_le _⟩ (cW_bagOf l E ad2 q0_letters q0_trial q0_snapshot q0_isSaved q0_past q0_rows q0_bags y0_7 y0_8 q0_text q0_line q0_latestReason q0_latestDetail t43.toInt32 (0 : Int32) t44 ht44) rfl rfl hH rfl hl.1 rfl (Nat.le_of_ble_eq_true rfl) rfl dL_fits_159 (fun H locs hz159 hH => ?_)
            have hH : Hp E (adr (wS E ad2 q0_letters q0_trial q0_snapshot q0_isSaved q0_past q0_rows q0_bags q0_tally q0_sizes q0_text q0_line q0_latestReason q0_latestDetail)) (wS E ad2 q0_letters q0_trial q0_snapshot q0_isSaved q0_past q0_rows q0_bags t44.2 y0_8 q0_text q0_line q0_latestReason q0_latestDetail) s.heap H locs := hH
            refine lv_iload hx hb dL_fits_162 (lv_at hl 3 rfl) ?_
            refine lv_i2l hx hb dL_fits_164 rfl ?_
            refine W.lcmp hx hb dL_fits_165 ?_
            refine lv_if_gt (tgt := 191) hx hb dL_fits_166 (by decide) (fun c45 => ?_) (fun c45 => ?_)
            · have hf := ite_t hf c45
              refine lv_iconst (v := 0) hx hb dL_fits_191 (by decide) ?_
              have hf := Option.some.inj hf
              subst hf
              exact e_Wz hC hH hr hlocks rfl rfl rfl dL_fits_192
            · have hf := ite_f hf c45
              refine lv_aload_n hx hb dL_fits_169 rfl (lv_at hl 1 rfl) ?_
              refine lv_iload hx hb dL_fits_170 (lv_at hl 0 rfl) ?_
              refine lv_iconst (v := 0) hx hb dL_fits_172 (by decide) ?_
              obtain ⟨t46, ht46, hf⟩ := ob hf
              refine k_WSsl hC LL_163 ⟨Nat.le_of_ble_eq_true rfl, Nat.le_of_ble_eq_true rfl⟩ ⟨Nat.zero_le _, Nat.zero_le _⟩ (cW_bagOf l E ad2 q0_letters q0_trial q0_snapshot q0_isSaved q0_past q0_rows q0_bags t44.2 y0_8 q0_text q0_line q0_latestReason q0_latestDetail t43.toInt32 (0 : Int32) t46 ht46) rfl rfl hH rfl hl.1 rfl (Nat.le_of_ble_eq_true rfl) rfl dL_fits_173 (fun H locs hz173 hH => ?_)
              have hH : Hp E (adr (wS E ad2 q0_letters q0_trial q0_snapshot q0_isSaved q0_past q0_rows q0_bags q0_tally q0_sizes q0_text q0_line q0_latestReason q0_latestDetail)) (wS E ad2 q0_letters q0_trial q0_snapshot q0_isSaved q0_past q0_rows q0_bags t46.2 y0_8 q0_text q0_line q0_latestReason q0_latestDetail) s.heap H locs := hH
              refine lv_aload_n hx hb dL_fits_176 rfl (lv_at hl 1 rfl) ?_
              refine lv_iload hx hb dL_fits_177 (lv_at hl 0 rfl) ?_
              refine lv_iconst (v := 1) hx hb dL_fits_179 (by decide) ?_
              obtain ⟨t47, ht47, hf⟩ := ob hf
              refine k_WSsl hC LL_163 ⟨Nat.le_of_ble_eq_true rfl, Nat.le_of_ble_eq_true rfl⟩ ⟨Nat.zero_le _, Nat.zero_le _⟩ (cW_bagOf l E ad2 q0_letters q0_trial q0_snapshot q0_isSaved q0_past q0_rows q0_bags t46.2 y0_8 q0_text q0_line q0_latestReason q0_latestDetail t43.toInt32 (1 : Int32) t47 ht47) rfl rfl hH rfl hl.1 rfl (Nat.le_of_ble_eq_true rfl) rfl dL_fits_180 (fun H locs hz180 hH => ?_)
              have hH : Hp E (adr (wS E ad2 q0_letters q0_trial q0_snapshot q0_isSaved q0_past q0_rows q0_bags q0_tally q0_sizes q0_text q0_line q0_latestReason q0_latestDetail)) (wS E ad2 q0_letters q0_trial q0_snapshot q0_isSaved q0_past q0_rows q0_bags t47.2 y0_8 q0_text q0_line q0_latestReason q0_latestDetail) s.heap H locs := hH
              refine lv_ladd hx hb dL_fits_183 ?_
              refine lv_iload hx hb dL_fits_184 (lv_at hl 3 rfl) ?_
              refine lv_i2l hx hb dL_fits_186 rfl ?_
              refine W.lcmp hx hb dL_fits_187 ?_
              refine lv_if_gt (tgt := 193) hx hb dL_fits_188 (by decide) (fun c48 => ?_) (fun c48 => ?_)
              · have hf := ite_t hf c48
                refine lv_iinc (v := (a5 + (1 : Int32))) (lv' := [(5, .int (a5 + (1 : Int32))), (6, .int t43.toInt32), (0, .ref (ad2 0)), (2, .int a2)]) hx hb dL_fits_193 hl (k := 3) rfl rfl (by decide) rfl (fun ls hl => ?_)
                refine lv_goto (tgt := 89) hx hb dL_fits_196 (by decide) ?_
                exact ih t47.2 y0_8 a2 (a5 + (1 : Int32)) ls (lv_sub hl [2, 3, 0] rfl) _ _ hH hf
              · have hf := ite_f hf c48
                refine lv_iconst (v := 0) hx hb dL_fits_191 (by decide) ?_
                have hf := Option.some.inj hf
                subst hf
                exact e_Wz hC hH hr hlocks rfl rfl rfl dL_fits_192
          · have hf := ite_f hf c42
            refine lv_iconst (v := 0) hx hb dL_fits_144 (by decide) ?_
            have hf := Option.some.inj hf
            subst hf
            exact e_Wz hC hH hr hlocks rfl rfl rfl dL_fits_145
  intro H locs hH
  rw [fW_fits] at hf
  refine lv_aload_n hx hb dL_fits_0 rfl (lv_at hl 0 rfl) ?_
  refine lv_iconst (v := 0) hx hb dL_fits_1 (by decide) ?_
  obtain ⟨t1, ht1, hf⟩ := ob hf
  refine k_WSsl hC LL_158 ⟨Nat.le_of_ble_eq_true rfl, Nat.le_of_ble_eq_true rfl⟩ ⟨Nat.zero_le _, Nat.zero_le _⟩ (cW_account l E ad2 q0_letters q0_trial q0_snapshot q0_isSaved q0_past q0_rows q0_bags q0_tally q0_sizes q0_text q0_line q0_latestReason q0_latestDetail (0 : Int32) t1 ht1) rfl rfl hH rfl hl.1 rfl (Nat.le_of_ble_eq_true rfl) rfl dL_fits_2 (fun H locs hz2 hH => ?_)
  have hH : Hp E (adr (wS E ad2 q0_letters q0_trial q0_snapshot q0_isSaved q0_past q0_rows q0_bags q0_tally q0_sizes q0_text q0_line q0_latestReason q0_latestDetail)) (wS E ad2 q0_letters q0_trial q0_snapshot q0_isSaved q0_past q0_rows q0_bags t1.2 q0_sizes q0_text q0_line q0_latestReason q0_latestDetail) s.heap H locs := hH
  refine lv_l2i hx hb dL_fits_5 rfl ?_
  refine lv_istore_n (lv' := [(2, .int t1.1.toInt32), (0, .ref (ad2 0)), (1, .int a1)]) hx hb dL_fits_6 rfl hl (by decide) rfl (fun ls hl => ?_)
  refine lv_aload_n hx hb dL_fits_7 rfl (lv_at hl 1 rfl) ?_
  obtain ⟨t2, ht2, hf⟩ := ob hf
  refine k_WSsl hC LL_223 ⟨Nat.le_of_ble_eq_true rfl, Nat.le_of_ble_eq_true rfl⟩ ⟨Nat.zero_le _, Nat.zero_le _⟩ (cW_isBalanced l E ad2 q0_letters q0_trial q0_snapshot q0_isSaved q0_past q0_rows q0_bags t1.2 q0_sizes q0_text q0_line q0_latestReason q0_latestDetail t2 ht2) rfl rfl hH rfl hl.1 rfl (Nat.le_of_ble_eq_true rfl) rfl dL_fits_8 (fun H locs hz8 hH => ?_)
  have hH : Hp E (adr (wS E ad2 q0_letters q0_trial q0_snapshot q0_isSaved q0_past q0_rows q0_bags q0_tally q0_sizes q0_text q0_line q0_latestReason q0_latestDetail)) (wS E ad2 q0_letters q0_trial q0_snapshot q0_isSaved q0_past q0_rows q0_bags t1.2 t2.2 q0_text q0_line q0_latestReason q0_latestDetail) s.heap H locs := hH
  refine lv_lconst (v := 1) hx hb dL_fits_11 (by decide) ?_
  refine W.lcmp hx hb dL_fits_12 ?_
  refine lv_if_ne (tgt := 23) hx hb dL_fits_13 (by decide) (fun c3 => ?_) (fun c3 => ?_)
  · have hf := ite_f hf c3
    refine lv_iconst (v := 0) hx hb dL_fits_23 (by decide) ?_
    have hf := Option.some.inj hf
    subst hf
    exact e_Wz hC hH hr hlocks rfl rfl rfl dL_fits_24
  · have hf := ite_t hf c3
    refine lv_aload_n hx hb dL_fits_16 rfl (lv_at hl 1 rfl) ?_
    obtain ⟨t4, ht4, hf⟩ := ob hf
    refine k_WSsi hC LL_225 ⟨Nat.le_of_ble_eq_true rfl, Nat.le_of_ble_eq_true rfl⟩ ⟨Nat.zero_le _, Nat.zero_le _⟩ (cW_rows l E ad2 q0_letters q0_trial q0_snapshot q0_isSaved q0_past q0_rows q0_bags t1.2 t2.2 q0_text q0_line q0_latestReason q0_latestDetail t4 ht4) rfl rfl hH rfl hl.1 rfl (Nat.le_of_ble_eq_true rfl) rfl dL_fits_17 (fun H locs hz17 hH => ?_)
    have hH : Hp E (adr (wS E ad2 q0_letters q0_trial q0_snapshot q0_isSaved q0_past q0_rows q0_bags q0_tally q0_sizes q0_text q0_line q0_latestReason q0_latestDetail)) (wS E ad2 q0_letters q0_trial q0_snapshot q0_isSaved q0_past q0_rows q0_bags t4.2 t2.2 q0_text q0_line q0_latestReason q0_latestDetail) s.heap H locs := hH
    refine lv_if_ne (tgt := 25) hx hb dL_fits_20 (by decide) (fun c5 => ?_) (fun c5 => ?_)
    · have hf := ite_f hf c5
      refine lv_iload_n hx hb dL_fits_25 rfl (lv_at hl 2 rfl) ?_
      refine lv_iload_n hx hb dL_fits_26 rfl (lv_at hl 0 rfl) ?_
      refine lv_iconst (v := 1) hx hb dL_fits_27 (by decide) ?_
      refine lv_iadd hx hb dL_fits_28 ?_
      obtain ⟨t6, ht6, hf⟩ := ob hf
      refine k_PSi hC LL_167 ⟨Nat.le_of_ble_eq_true rfl, Nat.le_of_ble_eq_true rfl⟩ ⟨Nat.zero_le _, Nat.zero_le _⟩ (cW_chosen l E a1 (t1.1.toInt32 + (1 : Int32)) t6 ht6) rfl rfl (vP_nil) hl.1 rfl (Nat.le_of_ble_eq_true rfl) rfl dL_fits_29 (fun hz29 => ?_)
      refine lv_istore_n (lv' := [(3, .int t6), (2, .int t1.1.toInt32), (0, .ref (ad2 0)), (1, .int a1)]) hx hb dL_fits_32 rfl hl (by decide) rfl (fun ls hl => ?_)
      refine lv_iload_n hx hb dL_fits_33 rfl (lv_at hl 0 rfl) ?_
      refine lv_iload_n hx hb dL_fits_34 rfl (lv_at hl 3 rfl) ?_
      refine lv_bipush (v := 7) hx hb dL_fits_35 (by decide) ?_
      refine lv_ishr hx hb dL_fits_37 ?_
      refine lv_iload_n hx hb dL_fits_38 rfl (lv_at hl 1 rfl) ?_
      refine lv_iload_n hx hb dL_fits_39 rfl (lv_at hl 0 rfl) ?_
      refine lv_isub hx hb dL_fits_40 ?_
      refine lv_iconst (v := 1) hx hb dL_fits_41 (by decide) ?_
      refine lv_iadd hx hb dL_fits_42 ?_
      obtain ⟨t7, ht7, hf⟩ := ob hf
      refine k_PSi hC LL_167 ⟨Nat.le_of_ble_eq_true rfl, Nat.le_of_ble_eq_true rfl⟩ ⟨Nat.zero_le _, Nat.zero_le _⟩ (cW_chosen l E (a1 >>> ((7 : Int32) &&& 31)) ((t1.1.toInt32 - t6) + (1 : Int32)) t7 ht7) rfl rfl (vP_nil) hl.1 rfl (Nat.le_of_ble_eq_true rfl) rfl dL_fits_43 (fun hz43 => ?_)
      refine lv_iadd hx hb dL_fits_46 ?_
      refine lv_istore (lv' := [(4, .int (t6 + t7)), (3, .int t6), (2, .int t1.1.toInt32), (0, .ref (ad2 0)), (1, .int a1)]) hx hb dL_fits_47 hl (by decide) rfl (fun ls hl => ?_)
      refine lv_aload_n hx hb dL_fits_49 rfl (lv_at hl 3 rfl) ?_
      refine lv_iload_n hx hb dL_fits_50 rfl (lv_at hl 1 rfl) ?_
      refine lv_iload hx hb dL_fits_51 (lv_at hl 0 rfl) ?_
      refine lv_iload_n hx hb dL_fits_53 rfl (lv_at hl 4 rfl) ?_
      refine lv_iconst (v := 3) hx hb dL_fits_54 (by decide) ?_
      refine lv_ishr hx hb dL_fits_55 ?_
      refine lv_bipush (v := 32) hx hb dL_fits_56 (by decide) ?_
      obtain ⟨t8, ht8, hf⟩ := ob hf
      refine k_PSi hC LL_167 ⟨Nat.le_of_ble_eq_true rfl, Nat.le_of_ble_eq_true rfl⟩ ⟨Nat.zero_le _, Nat.zero_le _⟩ (cW_chosen l E (a1 >>> ((3 : Int32) &&& 31)) (32 : Int32) t8 ht8) rfl rfl (vP_nil) hl.1 rfl (Nat.le_of_ble_eq_true rfl) rfl dL_fits_58 (fun hz58 => ?_)
      obtain ⟨t9, ht9, hf⟩ := ob hf
      refine k_WSsi hC LL_229 ⟨Nat.le_of_ble_eq_true rfl, Nat.le_of_ble_eq_true rfl⟩ ⟨Nat.zero_le _, Nat.zero_le _⟩ (cW_part l E ad2 q0_letters q0_trial q0_snapshot q0_isSaved q0_past q0_rows q0_bags t4.2 t2.2 q0_text q0_line q0_latestReason q0_latestDetail t6 (t6 + t7) t8 t9 ht9) rfl rfl hH rfl hl.1 rfl (Nat.le_of_ble_eq_true rfl) rfl dL_fits_61 (fun H locs hz61 hH => ?_)
      have hH : Hp E (adr (wS E ad2 q0_letters q0_trial q0_snapshot q0_isSaved q0_past q0_rows q0_bags q0_tally q0_sizes q0_text q0_line q0_latestReason q0_latestDetail)) (wS E ad2 q0_letters q0_trial q0_snapshot q0_isSaved q0_past q0_rows q0_bags t9.2.1 t9.2.2 q0_text q0_line q0_latestReason q0_latestDetail) s.heap H locs := hH
      refine lv_if_eq (tgt := 84) hx hb dL_fits_64 (by decide) (fun c10 => ?_) (fun c10 => ?_)
      · have hf := ite_t hf c10
        refine lv_iconst (v := 0) hx hb dL_fits_84 (by decide) ?_
        have hf := Option.some.inj hf
        subst hf
        exact e_Wz hC hH hr hlocks rfl rfl rfl dL_fits_85
      · have hf := ite_f hf c10
        refine lv_aload_n hx hb dL_fits_67 rfl (lv_at hl 3 rfl) ?_
        refine lv_iconst (v := 0) hx hb dL_fits_68 (by decide) ?_
        refine lv_iload_n hx hb dL_fits_69 rfl (lv_at hl 2 rfl) ?_
        refine lv_iload_n hx hb dL_fits_70 rfl (lv_at hl 4 rfl) ?_
        refine lv_iconst (v := 5) hx hb dL_fits_71 (by decide) ?_
        refine lv_ishr hx hb dL_fits_72 ?_
        refine lv_bipush (v := 32) hx hb dL_fits_73 (by decide) ?_
        obtain ⟨t11, ht11, hf⟩ := ob hf
        refine k_PSi hC LL_167 ⟨Nat.le_of_ble_eq_true rfl, Nat.le_of_ble_eq_true rfl⟩ ⟨Nat.zero_le _, Nat.zero_le _⟩ (cW_chosen l E (a1 >>> ((5 : Int32) &&& 31)) (32 : Int32) t11 ht11) rfl rfl (vP_nil) hl.1 rfl (Nat.le_of_ble_eq_true rfl) rfl dL_fits_75 (fun hz75 => ?_)
        obtain ⟨t12, ht12, hf⟩ := ob hf
        refine k_WSsi hC LL_229 ⟨Nat.le_of_ble_eq_true rfl, Nat.le_of_ble_eq_true rfl⟩ ⟨Nat.zero_le _, Nat.zero_le _⟩ (cW_part l E ad2 q0_letters q0_trial q0_snapshot q0_isSaved q0_past q0_rows q0_bags t9.2.1 t9.2.2 q0_text q0_line q0_latestReason q0_latestDetail (0 : Int32) t1.1.toInt32 t11 t12 ht12) rfl rfl hH rfl hl.1 rfl (Nat.le_of_ble_eq_true rfl) rfl dL_fits_78 (fun H locs hz78 hH => ?_)
        have hH : Hp E (adr (wS E ad2 q0_letters q0_trial q0_snapshot q0_isSaved q0_past q0_rows q0_bags q0_tally q0_sizes q0_text q0_line q0_latestReason q0_latestDetail)) (wS E ad2 q0_letters q0_trial q0_snapshot q0_isSaved q0_past q0_rows q0_bags t12.2.1 t12.2.2 q0_text q0_line q0_latestReason q0_latestDetail) s.heap H locs := hH
        refine lv_if_ne (tgt := 86) hx hb dL_fits_81 (by decide) (fun c13 => ?_) (fun c13 => ?_)
        · have hf := ite_f hf c13
          refine lv_iconst (v := 0) hx hb dL_fits_86 (by decide) ?_
          refine lv_istore (lv' := [(5, .int (0 : Int32)), (4, .int (t6 + t7)), (3, .int t6), (2, .int t1.1.toInt32), (0, .ref (ad2 0)), (1, .int a1)]) hx hb dL_fits_87 hl (by decide) rfl (fun ls hl => ?_)
          exact L89 FU t12.2.1 t12.2.2 t1.1.toInt32 (0 : Int32) ls (lv_sub hl [4, 3, 0] rfl) _ _ hH hf
        · have hf := ite_t hf c13
          refine lv_iconst (v := 0) hx hb dL_fits_84 (by decide) ?_
          have hf := Option.some.inj hf
          subst hf
          exact e_Wz hC hH hr hlocks rfl rfl rfl dL_fits_85
    · have hf := ite_t hf c5
      refine lv_iconst (v := 0) hx hb dL_fits_23 (by decide) ?_
      have hf := Option.some.inj hf
      subst hf
      exact e_Wz hC hH hr hlocks rfl rfl rfl dL_fits_24
