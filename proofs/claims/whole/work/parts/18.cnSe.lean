abbrev rmS_tellRow : Room := { frames := 2, cells := 0, slots := 0, locals := 42 }
set_option maxHeartbeats 4000000 in
set_option maxRecDepth 100000 in
theorem cS_tellRow (l : Launch) (E : eE) (ad : Nat → Nat) (q0_letters : TL) (q0_trial : TL) (q0_snapshot : TL) (q0_isSaved : Int32) (q0_past : TP) (q0_rows : TR) (q0_bags : TB) (q0_tally : TY) (q0_sizes : TZ) (q0_text : TT) (q0_line : TN) (q0_latestReason : Int32) (q0_latestDetail : Int32) (a1 : Int32) (t : Int32 × TN) (hf : fS_tellRow q0_letters q0_rows q0_line a1 = some t) : cW l E yX8_tellRow cX8_tellRow 3 (some .int) rmS_tellRow [.ref (ad 0), .int a1] (wS E ad q0_letters q0_trial q0_snapshot q0_isSaved q0_past q0_rows q0_bags q0_tally q0_sizes q0_text q0_line q0_latestReason q0_latestDetail) (some (.int t.1)) (wS E ad q0_letters q0_trial q0_snapshot q0_isSaved q0_past q0_rows q0_bags q0_tally q0_sizes q0_text t.2 q0_latestReason q0_latestDetail) := by
  refine Met.ofW (cc := cX8_tellRow) (maxL := 3) (ret := (some .int)) (by decide) rfl ?_
  intro p e s m args below meth c s₁ B hml hv
  obtain ⟨hargs, hP, hK, hD0⟩ := hv
  have hx := B.exec
  have hb := B.bytes
  have hr := B.returns
  have hts := atoms_spec (ws := ws_ yX8_tellRow cX8_tellRow 3 (some .int)) B.pre
  have hta : ∀ w ∈ lw_all, w.before args s = true := fun w h => hts w (List.mem_cons_of_mem _ h)
  have hown : s.vm.findClass RX8 = some m.cls := findClass_of_methodNamed B.named
  have hlocks := B.notSynchronized
  have hC : Cx p s m args c cX8_tellRow 3 RX8 E := ⟨hx, hb, hml, hown, hta, hK⟩
  have hH : Hp E (adr (wS E ad q0_letters q0_trial q0_snapshot q0_isSaved q0_past q0_rows q0_bags q0_tally q0_sizes q0_text q0_line q0_latestReason q0_latestDetail)) (wS E ad q0_letters q0_trial q0_snapshot q0_isSaved q0_past q0_rows q0_bags q0_tally q0_sizes q0_text q0_line q0_latestReason q0_latestDetail) s.heap s.heap [] := Hp.start hP hD0
  obtain ⟨ls, he, hl⟩ := entry_ (m := m) (n := 3) hargs (Nat.le_of_ble_eq_true rfl)
  rw [he]
  have hl : lv_has ls 3 [(0, .ref (ad 0)), (1, .int a1)] := hl
  show W p l e rmS_tellRow s m args below meth c s.heap [] 0 0 (MQ below (qW E (some .int) (some (.int t.1)) (wS E ad q0_letters q0_trial q0_snapshot q0_isSaved q0_past q0_rows q0_bags q0_tally q0_sizes q0_text q0_line q0_latestReason q0_latestDetail) (wS E ad q0_letters q0_trial q0_snapshot q0_isSaved q0_past q0_rows q0_bags q0_tally q0_sizes q0_text t.2 q0_latestReason q0_latestDetail)) args s 0 0 (adr (wS E ad q0_letters q0_trial q0_snapshot q0_isSaved q0_past q0_rows q0_bags q0_tally q0_sizes q0_text q0_line q0_latestReason q0_latestDetail))) (F0 m 0 ls [])
  suffices hmain : ∀ (H : Heap) (locs : List Loc), Hp E (adr (wS E ad q0_letters q0_trial q0_snapshot q0_isSaved q0_past q0_rows q0_bags q0_tally q0_sizes q0_text q0_line q0_latestReason q0_latestDetail)) (wS E ad q0_letters q0_trial q0_snapshot q0_isSaved q0_past q0_rows q0_bags q0_tally q0_sizes q0_text q0_line q0_latestReason q0_latestDetail) s.heap H locs → W p l e rmS_tellRow s m args below meth c H locs 0 0 (MQ below (qW E (some .int) (some (.int t.1)) (wS E ad q0_letters q0_trial q0_snapshot q0_isSaved q0_past q0_rows q0_bags q0_tally q0_sizes q0_text q0_line q0_latestReason q0_latestDetail) (wS E ad q0_letters q0_trial q0_snapshot q0_isSaved q0_past q0_rows q0_bags q0_tally q0_sizes q0_text t.2 q0_latestReason q0_latestDetail)) args s 0 0 (adr (wS E ad q0_letters q0_trial q0_snapshot q0_isSaved q0_past q0_rows q0_bags q0_tally q0_sizes q0_text q0_line q0_latestReason q0_latestDetail))) (F0 m 0 ls []) from hmain _ _ hH
  clear hH
  have L19 : ∀ (n : Nat) (y0_10 : TN) (a1 : Int32) (a2 : Int32) (ls : Array Slot), lv_has ls 3 [(0, .ref (ad 0)), (1, .int a1), (2, .int a2)] → ∀ (H : Heap) (locs : List Loc), Hp E (adr (wS E ad q0_letters q0_trial q0_snapshot q0_isSaved q0_past q0_rows q0_bags q0_tally q0_sizes q0_text q0_line q0_latestReason q0_latestDetail)) (wS E ad q0_letters q0_trial q0_snapshot q0_isSaved q0_past q0_rows q0_bags q0_tally q0_sizes q0_text y0_10 q0_latestReason q0_latestDetail) s.heap H locs → fS_tellRow_19 n q0_letters q0_rows y0_10 a1 a2 = some t → W p l e rmS_tellRow s m args below meth c H locs 0 0 (MQ below (qW E (some .int) (some (.int t.1)) (wS E ad q0_letters q0_trial q0_snapshot q0_isSaved q0_past q0_rows q0_bags q0_tally q0_sizes q0_text q0_line q0_latestReason q0_latestDetail) (wS E ad q0_letters q0_trial q0_snapshot q0_isSaved q0_past q0_rows q0_bags q0_tally q0_sizes q0_text t.2 q0_latestReason q0_latestDetail)) args s 0 0 (adr (wS E ad q0_letters q0_trial q0_snapshot q0_isSaved q0_past q0_rows q0_bags q0_tally q0_sizes q0_text q0_line q0_latestReason q0_latestDetail))) (F0 m 19 ls []) := by
    intro n
    induction n with
    | zero => intro y0_10 a1 a2 ls hl H locs hH hf; cases hf
    | succ n ih =>
      intro y0_10 a1 a2 ls hl H locs hH hf
      rw [fS_tellRow_19] at hf
      refine lv_iload_n hx hb dX8_tellRow_19 rfl (lv_at hl 2 rfl) ?_
      refine lv_aload_n hx hb dX8_tellRow_20 rfl (lv_at hl 0 rfl) ?_
      refine gX8_10 hC hH.1 0 rfl (v := .ref (ad 1)) rfl dX8_tellRow_21 ?_
      refine k_PVi hC LX8_87 ⟨Nat.le_of_ble_eq_true rfl, Nat.le_of_ble_eq_true rfl⟩ ⟨Nat.zero_le _, Nat.zero_le _⟩ (cL_size l E (fun j => ad (1 + j)) q0_letters.1 q0_letters.2.1 q0_letters.2.2.1 q0_letters.2.2.2.1 q0_letters.2.2.2.2.1 q0_letters.2.2.2.2.2 _ rfl) rfl rfl (ss_letters hH.1) rfl rfl hl.1 rfl (Nat.le_of_ble_eq_true rfl) rfl dX8_tellRow_24 (fun hz24 => ?_)
      refine lv_icmp_ge (tgt := 75) hx hb dX8_tellRow_27 (by decide) (fun c3 => ?_) (fun c3 => ?_)
      · have hf := ite_t hf c3
        refine lv_aload_n hx hb dX8_tellRow_75 rfl (lv_at hl 0 rfl) ?_
        refine gX8_67 hC hH.1 0 rfl (v := .ref (ad 48)) rfl dX8_tellRow_76 ?_
        refine k_PVi hC LX8_234 ⟨Nat.le_of_ble_eq_true rfl, Nat.le_of_ble_eq_true rfl⟩ ⟨Nat.zero_le _, Nat.zero_le _⟩ (cN_size l E (fun j => ad (48 + j)) y0_10.1 y0_10.2 _ rfl) rfl rfl (ss_line hH.1) rfl rfl hl.1 rfl (Nat.le_of_ble_eq_true rfl) rfl dX8_tellRow_79 (fun hz79 => ?_)
        have hf := Option.some.inj hf
        subst hf
        exact e_Wi hC hH hr hlocks rfl rfl dX8_tellRow_82
      · have hf := ite_f hf c3
        refine lv_iload_n hx hb dX8_tellRow_30 rfl (lv_at hl 2 rfl) ?_
        refine lv_if_le (tgt := 50) hx hb dX8_tellRow_31 (by decide) (fun c4 => ?_) (fun c4 => ?_)
        · have hf := ite_t hf c4
          refine lv_aload_n hx hb dX8_tellRow_50 rfl (lv_at hl 0 rfl) ?_
          refine gX8_67 hC hH.1 0 rfl (v := .ref (ad 48)) rfl dX8_tellRow_51 ?_
          refine lv_bipush (v := 48) hx hb dX8_tellRow_54 (by decide) ?_
          refine lv_aload_n hx hb dX8_tellRow_56 rfl (lv_at hl 0 rfl) ?_
          refine gX8_32 hC hH.1 0 rfl (v := .ref (ad 25)) rfl dX8_tellRow_57 ?_
          refine lv_iload_n hx hb dX8_tellRow_60 rfl (lv_at hl 1 rfl) ?_
          refine lv_iload_n hx hb dX8_tellRow_61 rfl (lv_at hl 2 rfl) ?_
          obtain ⟨t5, ht5, hf⟩ := ob hf
          refine k_PVi hC LX8_133 ⟨Nat.le_of_ble_eq_true rfl, Nat.le_of_ble_eq_true rfl⟩ ⟨Nat.zero_le _, Nat.zero_le _⟩ (cR_bitAt l E (fun j => ad (25 + j)) q0_rows.1 q0_rows.2.1 q0_rows.2.2.1 q0_rows.2.2.2.1 q0_rows.2.2.2.2.1 q0_rows.2.2.2.2.2 a1 a2 t5 ht5) rfl rfl (ss_rows hH.1) rfl rfl hl.1 rfl (Nat.le_of_ble_eq_true rfl) rfl dX8_tellRow_62 (fun hz62 => ?_)
          refine lv_iadd hx hb dX8_tellRow_65 ?_
          obtain ⟨t6, ht6, hf⟩ := ob hf
          refine k_WVpv hC LX8_228 ⟨Nat.le_of_ble_eq_true rfl, Nat.le_of_ble_eq_true rfl⟩ ⟨Nat.zero_le _, Nat.zero_le _⟩ (cN_write l E (fun j => ad (48 + j)) y0_10.1 y0_10.2 ((48 : Int32) + t5) t6 ht6) rfl rfl hH (W1 := wS E ad q0_letters q0_trial q0_snapshot q0_isSaved q0_past q0_rows q0_bags q0_tally q0_sizes q0_text (t6.1, t6.2) q0_latestReason q0_latestDetail) (sp_line E ad q0_letters q0_trial q0_snapshot q0_isSaved q0_past q0_rows q0_bags q0_tally q0_sizes q0_text y0_10 q0_latestReason q0_latestDetail) (sq_line E ad q0_letters q0_trial q0_snapshot q0_isSaved q0_past q0_rows q0_bags q0_tally q0_sizes q0_text y0_10 q0_latestReason q0_latestDetail t6.1 t6.2) rfl rfl rfl hl.1 rfl (Nat.le_of_ble_eq_true rfl) rfl dX8_tellRow_66 (fun H locs hz66 hH => ?_)
          refine lv_iinc (v := (a2 + (1 : Int32))) (lv' := [(2, .int (a2 + (1 : Int32))), (0, .ref (ad 0)), (1, .int a1)]) hx hb dX8_tellRow_69 hl (k := 2) rfl rfl (by decide) rfl (fun ls hl => ?_)
          refine lv_goto (tgt := 19) hx hb dX8_tellRow_72 (by decide) ?_
          exact ih (t6.1, t6.2) a1 (a2 + (1 : Int32)) ls (lv_sub hl [1, 2, 0] rfl) _ _ hH hf
        · have hf := ite_f hf c4
          refine lv_iload_n hx hb dX8_tellRow_34 rfl (lv_at hl 2 rfl) ?_
          refine lv_bipush (v := 8) hx hb dX8_tellRow_35 (by decide) ?_
          refine lv_irem hx hb dX8_tellRow_37 (by decide) ?_
          refine lv_if_ne (tgt := 50) hx hb dX8_tellRow_38 (by decide) (fun c7 => ?_) (fun c7 => ?_)
          · have hf := ite_f hf c7
            refine lv_aload_n hx hb dX8_tellRow_50 rfl (lv_at hl 0 rfl) ?_
            refine gX8_67 hC hH.1 0 rfl (v := .ref (ad 48)) rfl dX8_tellRow_51 ?_
            refine lv_bipush (v := 48) hx hb dX8_tellRow_54 (by decide) ?_
            refine lv_aload_n hx hb dX8_tellRow_56 rfl (lv_at hl 0 rfl) ?_
            refine gX8_32 hC hH.1 0 rfl (v := .ref (ad 25)) rfl dX8_tellRow_57 ?_
            refine lv_iload_n hx hb dX8_tellRow_60 rfl (lv_at hl 1 rfl) ?_
            refine lv_iload_n hx hb dX8_tellRow_61 rfl (lv_at hl 2 rfl) ?_
            obtain ⟨t8, ht8, hf⟩ := ob hf
            refine k_PVi hC LX8_133 ⟨Nat.le_of_ble_eq_true rfl, Nat.le_of_ble_eq_true rfl⟩ ⟨Nat.zero_le _, Nat.zero_le _⟩ (cR_bitAt l E (fun j => ad (25 + j)) q0_rows.1 q0_rows.2.1 q0_rows.2.2.1 q0_rows.2.2.2.1 q0_rows.2.2.2.2.1 q0_rows.2.2.2.2.2 a1 a2 t8 ht8) rfl rfl (ss_rows hH.1) rfl rfl hl.1 rfl (Nat.le_of_ble_eq_true rfl) rfl dX8_tellRow_62 (fun hz62 => ?_)
            refine lv_iadd hx hb dX8_tellRow_65 ?_
            obtain ⟨t9, ht9, hf⟩ := ob hf
            refine k_WVpv hC LX8_228 ⟨Nat.le_of_ble_eq_true rfl, Nat.le_of_ble_eq_true rfl⟩ ⟨Nat.zero_le _, Nat.zero_le _⟩ (cN_write l E (fun j => ad (48 + j)) y0_10.1 y0_10.2 ((48 : Int32) + t8) t9 ht9) rfl rfl hH (W1 := wS E ad q0_letters q0_trial q0_snapshot q0_isSaved q0_past q0_rows q0_bags q0_tally q0_sizes q0_text (t9.1, t9.2) q0_latestReason q0_latestDetail) (sp_line E ad q0_letters q0_trial q0_snapshot q0_isSaved q0_past q0_rows q0_bags q0_tally q0_sizes q0_text y0_10 q0_latestReason q0_latestDetail) (sq_line E ad q0_letters q0_trial q0_snapshot q0_isSaved q0_past q0_rows q0_bags q0_tally q0_sizes q0_text y0_10 q0_latestReason q0_latestDetail t9.1 t9.2) rfl rfl rfl hl.1 rfl (Nat.le_of_ble_eq_true rfl) rfl dX8_tellRow_66 (fun H locs hz66 hH => ?_)
            refine lv_iinc (v := (a2 + (1 : Int32))) (lv' := [(2, .int (a2 + (1 : Int32))), (0, .ref (ad 0)), (1, .int a1)]) hx hb dX8_tellRow_69 hl (k := 2) rfl rfl (by decide) rfl (fun ls hl => ?_)
            refine lv_goto (tgt := 19) hx hb dX8_tellRow_72 (by decide) ?_
            exact ih (t9.1, t9.2) a1 (a2 + (1 : Int32)) ls (lv_sub hl [1, 2, 0] rfl) _ _ hH hf
          · have hf := ite_t hf c7
            refine lv_aload_n hx hb dX8_tellRow_41 rfl (lv_at hl 0 rfl) ?_
            refine gX8_67 hC hH.1 0 rfl (v := .ref (ad 48)) rfl dX8_tellRow_42 ?_
            refine lv_bipush (v := 32) hx hb dX8_tellRow_45 (by decide) ?_
            obtain ⟨t10, ht10, hf⟩ := ob hf
            refine k_WVpv hC LX8_228 ⟨Nat.le_of_ble_eq_true rfl, Nat.le_of_ble_eq_true rfl⟩ ⟨Nat.zero_le _, Nat.zero_le _⟩ (cN_write l E (fun j => ad (48 + j)) y0_10.1 y0_10.2 (32 : Int32) t10 ht10) rfl rfl hH (W1 := wS E ad q0_letters q0_trial q0_snapshot q0_isSaved q0_past q0_rows q0_bags q0_tally q0_sizes q0_text (t10.1, t10.2) q0_latestReason q0_latestDetail) (sp_line E ad q0_letters q0_trial q0_snapshot q0_isSaved q0_past q0_rows q0_bags q0_tally q0_sizes q0_text y0_10 q0_latestReason q0_latestDetail) (sq_line E ad q0_letters q0_trial q0_snapshot q0_isSaved q0_past q0_rows q0_bags q0_tally q0_sizes q0_text y0_10 q0_latestReason q0_latestDetail t10.1 t10.2) rfl rfl rfl hl.1 rfl (Nat.le_of_ble_eq_true rfl) rfl dX8_tellRow_47 (fun H locs hz47 hH => ?_)
            refine lv_aload_n hx hb dX8_tellRow_50 rfl (lv_at hl 0 rfl) ?_
            refine gX8_67 hC hH.1 0 rfl (v := .ref (ad 48)) rfl dX8_tellRow_51 ?_
            refine lv_bipush (v := 48) hx hb dX8_tellRow_54 (by decide) ?_
            refine lv_aload_n hx hb dX8_tellRow_56 rfl (lv_at hl 0 rfl) ?_
            refine gX8_32 hC hH.1 0 rfl (v := .ref (ad 25)) rfl dX8_tellRow_57 ?_
            refine lv_iload_n hx hb dX8_tellRow_60 rfl (lv_at hl 1 rfl) ?_
            refine lv_iload_n hx hb dX8_tellRow_61 rfl (lv_at hl 2 rfl) ?_
            obtain ⟨t11, ht11, hf⟩ := ob hf
            refine k_PVi hC LX8_133 ⟨Nat.le_of_ble_eq_true rfl, Nat.le_of_ble_eq_true rfl⟩ ⟨Nat.zero_le _, Nat.zero_le _⟩ (cR_bitAt l E (fun j => ad (25 + j)) q0_rows.1 q0_rows.2.1 q0_rows.2.2.1 q0_rows.2.2.2.1 q0_rows.2.2.2.2.1 q0_rows.2.2.2.2.2 a1 a2 t11 ht11) rfl rfl (ss_rows hH.1) rfl rfl hl.1 rfl (Nat.le_of_ble_eq_true rfl) rfl dX8_tellRow_62 (fun hz62 => ?_)
            refine lv_iadd hx hb dX8_tellRow_65 ?_
            obtain ⟨t12, ht12, hf⟩ := ob hf
            refine k_WVpv hC LX8_228 ⟨Nat.le_of_ble_eq_true rfl, Nat.le_of_ble_eq_true rfl⟩ ⟨Nat.zero_le _, Nat.zero_le _⟩ (cN_write l E (fun j => ad (48 + j)) t10.1 t10.2 ((48 : Int32) + t11) t12 ht12) rfl rfl hH (W1 := wS E ad q0_letters q0_trial q0_snapshot q0_isSaved q0_past q0_rows q0_bags q0_tally q0_sizes q0_text (t12.1, t12.2) q0_latestReason q0_latestDetail) (sp_line E ad q0_letters q0_trial q0_snapshot q0_isSaved q0_past q0_rows q0_bags q0_tally q0_sizes q0_text (t10.1, t10.2) q0_latestReason q0_latestDetail) (sq_line E ad q0_letters q0_trial q0_snapshot q0_isSaved q0_past q0_rows q0_bags q0_tally q0_sizes q0_text (t10.1, t10.2) q0_latestReason q0_latestDetail t12.1 t12.2) rfl rfl rfl hl.1 rfl (Nat.le_of_ble_eq_true rfl) rfl dX8_tellRow_66 (fun H locs hz66 hH => ?_)
            refine lv_iinc (v := (a2 + (1 : Int32))) (lv' := [(2, .int (a2 + (1 : Int32))), (0, .ref (ad 0)), (1, .int a1)]) hx hb dX8_tellRow_69 hl (k := 2) rfl rfl (by decide) rfl (fun ls hl => ?_)
            refine lv_goto (tgt := 19) hx hb dX8_tellRow_72 (by decide) ?_
            exact ih (t12.1, t12.2) a1 (a2 + (1 : Int32)) ls (lv_sub hl [1, 2, 0] rfl) _ _ hH hf
  intro H locs hH
  rw [fS_tellRow] at hf
  refine lv_iload_n hx hb dX8_tellRow_0 rfl (lv_at hl 1 rfl) ?_
  refine k_PSi hC LX8_130 ⟨Nat.le_of_ble_eq_true rfl, Nat.le_of_ble_eq_true rfl⟩ ⟨Nat.zero_le _, Nat.zero_le _⟩ (cS_isRow l E a1 _ rfl) rfl rfl (vP_nil) hl.1 rfl (Nat.le_of_ble_eq_true rfl) rfl dX8_tellRow_1 (fun hz1 => ?_)
  refine lv_if_ne (tgt := 10) hx hb dX8_tellRow_4 (by decide) (fun c1 => ?_) (fun c1 => ?_)
  · have hf := ite_f hf c1
    refine lv_aload_n hx hb dX8_tellRow_10 rfl (lv_at hl 0 rfl) ?_
    refine gX8_67 hC hH.1 0 rfl (v := .ref (ad 48)) rfl dX8_tellRow_11 ?_
    obtain ⟨t2, ht2, hf⟩ := ob hf
    refine k_WVpv hC LX8_227 ⟨Nat.le_of_ble_eq_true rfl, Nat.le_of_ble_eq_true rfl⟩ ⟨Nat.zero_le _, Nat.zero_le _⟩ (cN_empty l E (fun j => ad (48 + j)) q0_line.1 q0_line.2 t2 ht2) rfl rfl hH (W1 := wS E ad q0_letters q0_trial q0_snapshot q0_isSaved q0_past q0_rows q0_bags q0_tally q0_sizes q0_text (q0_line.1, t2) q0_latestReason q0_latestDetail) (sp_line E ad q0_letters q0_trial q0_snapshot q0_isSaved q0_past q0_rows q0_bags q0_tally q0_sizes q0_text q0_line q0_latestReason q0_latestDetail) (sq_line E ad q0_letters q0_trial q0_snapshot q0_isSaved q0_past q0_rows q0_bags q0_tally q0_sizes q0_text q0_line q0_latestReason q0_latestDetail q0_line.1 t2) rfl rfl rfl hl.1 rfl (Nat.le_of_ble_eq_true rfl) rfl dX8_tellRow_14 (fun H locs hz14 hH => ?_)
    refine lv_iconst (v := 0) hx hb dX8_tellRow_17 (by decide) ?_
    refine lv_istore_n (lv' := [(2, .int (0 : Int32)), (0, .ref (ad 0)), (1, .int a1)]) hx hb dX8_tellRow_18 rfl hl (by decide) rfl (fun ls hl => ?_)
    exact L19 FU (q0_line.1, t2) a1 (0 : Int32) ls (lv_sub hl [1, 2, 0] rfl) _ _ hH hf
  · have hf := ite_t hf c1
    refine lv_bipush (v := (-11)) hx hb dX8_tellRow_7 (by decide) ?_
    have hf := Option.some.inj hf
    subst hf
    exact e_Wi hC hH hr hlocks rfl rfl dX8_tellRow_9
abbrev rmS_character : Room := { frames := 1, cells := 0, slots := 0, locals := 21 }
set_option maxHeartbeats 4000000 in
set_option maxRecDepth 100000 in
theorem cS_character (l : Launch) (E : eE) (ad : Nat → Nat) (q0_letters : TL) (q0_trial : TL) (q0_snapshot : TL) (q0_isSaved : Int32) (q0_past : TP) (q0_rows : TR) (q0_bags : TB) (q0_tally : TY) (q0_sizes : TZ) (q0_text : TT) (q0_line : TN) (q0_latestReason : Int32) (q0_latestDetail : Int32) (a1 : Int32) (r : Int32) (hf : fS_character q0_line a1 = some r) : cP l E yX8_character cX8_character 2 (some .int) rmS_character [.ref (ad 0), .int a1] (wS E ad q0_letters q0_trial q0_snapshot q0_isSaved q0_past q0_rows q0_bags q0_tally q0_sizes q0_text q0_line q0_latestReason q0_latestDetail) (some (.int r)) := by
  refine Met.ofW (cc := cX8_character) (maxL := 2) (ret := (some .int)) (by decide) rfl ?_
  intro p e s m args below meth c s₁ B hml hv
  obtain ⟨hargs, hP, hK⟩ := hv
  have hx := B.exec
  have hb := B.bytes
  have hr := B.returns
  have hts := atoms_spec (ws := ws_ yX8_character cX8_character 2 (some .int)) B.pre
  have hta : ∀ w ∈ lw_all, w.before args s = true := fun w h => hts w (List.mem_cons_of_mem _ h)
  have hown : s.vm.findClass RX8 = some m.cls := findClass_of_methodNamed B.named
  have hlocks := B.notSynchronized
  have hC : Cx p s m args c cX8_character 2 RX8 E := ⟨hx, hb, hml, hown, hta, hK⟩
  obtain ⟨ls, he, hl⟩ := entry_ (m := m) (n := 2) hargs (Nat.le_of_ble_eq_true rfl)
  rw [he]
  have hl : lv_has ls 2 [(0, .ref (ad 0)), (1, .int a1)] := hl
  show W p l e rmS_character s m args below meth c s.heap [] 0 0 (MQ below (qP (some .int) (some (.int r))) args s 0 0 (fun _ => False)) (F0 m 0 ls [])
  rw [fS_character] at hf
  refine lv_iload_n hx hb dX8_character_0 rfl (lv_at hl 1 rfl) ?_
  refine lv_if_lt (tgt := 26) hx hb dX8_character_1 (by decide) (fun c1 => ?_) (fun c1 => ?_)
  · have hf := ite_t hf c1
    refine lv_bipush (v := (-11)) hx hb dX8_character_26 (by decide) ?_
    have hf := Option.some.inj hf
    exact e_Pi hC hr hlocks hf dX8_character_28
  · have hf := ite_f hf c1
    refine lv_iload_n hx hb dX8_character_4 rfl (lv_at hl 1 rfl) ?_
    refine lv_aload_n hx hb dX8_character_5 rfl (lv_at hl 0 rfl) ?_
    refine gX8_67 hC hP 0 rfl (v := .ref (ad 48)) rfl dX8_character_6 ?_
    refine k_PVi hC LX8_234 ⟨Nat.le_of_ble_eq_true rfl, Nat.le_of_ble_eq_true rfl⟩ ⟨Nat.zero_le _, Nat.zero_le _⟩ (cN_size l E (fun j => ad (48 + j)) q0_line.1 q0_line.2 _ rfl) rfl rfl (ss_line hP) rfl rfl hl.1 rfl (Nat.le_of_ble_eq_true rfl) rfl dX8_character_9 (fun hz9 => ?_)
    refine lv_icmp_ge (tgt := 26) hx hb dX8_character_12 (by decide) (fun c2 => ?_) (fun c2 => ?_)
    · have hf := ite_t hf c2
      refine lv_bipush (v := (-11)) hx hb dX8_character_26 (by decide) ?_
      have hf := Option.some.inj hf
      exact e_Pi hC hr hlocks hf dX8_character_28
    · have hf := ite_f hf c2
      refine lv_aload_n hx hb dX8_character_15 rfl (lv_at hl 0 rfl) ?_
      refine gX8_67 hC hP 0 rfl (v := .ref (ad 48)) rfl dX8_character_16 ?_
      refine lv_iload_n hx hb dX8_character_19 rfl (lv_at hl 1 rfl) ?_
      obtain ⟨t3, ht3, hf⟩ := ob hf
      refine k_PVi hC LX8_235 ⟨Nat.le_of_ble_eq_true rfl, Nat.le_of_ble_eq_true rfl⟩ ⟨Nat.zero_le _, Nat.zero_le _⟩ (cN_codeAt l E (fun j => ad (48 + j)) q0_line.1 q0_line.2 a1 t3 ht3) rfl rfl (ss_line hP) rfl rfl hl.1 rfl (Nat.le_of_ble_eq_true rfl) rfl dX8_character_20 (fun hz20 => ?_)
      refine lv_goto (tgt := 28) hx hb dX8_character_23 (by decide) ?_
      have hf := Option.some.inj hf
      exact e_Pi hC hr hlocks hf dX8_character_28
abbrev rmS_reason : Room := { frames := 0, cells := 0, slots := 0, locals := 0 }
set_option maxHeartbeats 4000000 in
set_option maxRecDepth 100000 in
theorem cS_reason (l : Launch) (E : eE) (ad : Nat → Nat) (q0_letters : TL) (q0_trial : TL) (q0_snapshot : TL) (q0_isSaved : Int32) (q0_past : TP) (q0_rows : TR) (q0_bags : TB) (q0_tally : TY) (q0_sizes : TZ) (q0_text : TT) (q0_line : TN) (q0_latestReason : Int32) (q0_latestDetail : Int32) (a1 : Int32) (r : Int32) (hf : fS_reason q0_latestReason q0_latestDetail a1 = r) : cP l E yX8_reason cX8_reason 2 (some .int) rmS_reason [.ref (ad 0), .int a1] (wS E ad q0_letters q0_trial q0_snapshot q0_isSaved q0_past q0_rows q0_bags q0_tally q0_sizes q0_text q0_line q0_latestReason q0_latestDetail) (some (.int r)) := by
  refine Met.ofW (cc := cX8_reason) (maxL := 2) (ret := (some .int)) (by decide) rfl ?_
  intro p e s m args below meth c s₁ B hml hv
  obtain ⟨hargs, hP, hK⟩ := hv
  have hx := B.exec
  have hb := B.bytes
  have hr := B.returns
  have hts := atoms_spec (ws := ws_ yX8_reason cX8_reason 2 (some .int)) B.pre
  have hta : ∀ w ∈ lw_all, w.before args s = true := fun w h => hts w (List.mem_cons_of_mem _ h)
  have hown : s.vm.findClass RX8 = some m.cls := findClass_of_methodNamed B.named
  have hlocks := B.notSynchronized
  have hC : Cx p s m args c cX8_reason 2 RX8 E := ⟨hx, hb, hml, hown, hta, hK⟩
  obtain ⟨ls, he, hl⟩ := entry_ (m := m) (n := 2) hargs (Nat.le_of_ble_eq_true rfl)
  rw [he]
  have hl : lv_has ls 2 [(0, .ref (ad 0)), (1, .int a1)] := hl
  show W p l e rmS_reason s m args below meth c s.heap [] 0 0 (MQ below (qP (some .int) (some (.int r))) args s 0 0 (fun _ => False)) (F0 m 0 ls [])
  rw [fS_reason] at hf
  refine lv_aload_n hx hb dX8_reason_0 rfl (lv_at hl 0 rfl) ?_
  refine gX8_238 hC hP 0 rfl (v := .int q0_latestReason) rfl dX8_reason_1 ?_
  refine lv_if_ne (tgt := 10) hx hb dX8_reason_4 (by decide) (fun c1 => ?_) (fun c1 => ?_)
  · have hf := ite_f hf c1
    refine lv_iload_n hx hb dX8_reason_10 rfl (lv_at hl 1 rfl) ?_
    refine lv_if_eq (tgt := 21) hx hb dX8_reason_11 (by decide) (fun c2 => ?_) (fun c2 => ?_)
    · have hf := ite_t hf c2
      refine lv_aload_n hx hb dX8_reason_21 rfl (lv_at hl 0 rfl) ?_
      refine gX8_238 hC hP 0 rfl (v := .int q0_latestReason) rfl dX8_reason_22 ?_
      exact e_Pi hC hr hlocks hf dX8_reason_25
    · have hf := ite_f hf c2
      refine lv_aload_n hx hb dX8_reason_14 rfl (lv_at hl 0 rfl) ?_
      refine gX8_242 hC hP 0 rfl (v := .int q0_latestDetail) rfl dX8_reason_15 ?_
      refine lv_goto (tgt := 25) hx hb dX8_reason_18 (by decide) ?_
      exact e_Pi hC hr hlocks hf dX8_reason_25
  · have hf := ite_t hf c1
    refine lv_bipush (v := (-15)) hx hb dX8_reason_7 (by decide) ?_
    exact e_Pi hC hr hlocks hf dX8_reason_9
abbrev rmS_account : Room := { frames := 4, cells := 0, slots := 0, locals := 84 }
set_option maxHeartbeats 4000000 in
set_option maxRecDepth 100000 in
theorem cS_account (l : Launch) (E : eE) (ad : Nat → Nat) (q0_letters : TL) (q0_trial : TL) (q0_snapshot : TL) (q0_isSaved : Int32) (q0_past : TP) (q0_rows : TR) (q0_bags : TB) (q0_tally : TY) (q0_sizes : TZ) (q0_text : TT) (q0_line : TN) (q0_latestReason : Int32) (q0_latestDetail : Int32) (a1 : Int32) (t : Int32 × TY) (hf : fS_account q0_letters q0_past q0_rows q0_bags q0_tally q0_text a1 = some t) : cW l E yX8_account cX8_account 2 (some .int) rmS_account [.ref (ad 0), .int a1] (wS E ad q0_letters q0_trial q0_snapshot q0_isSaved q0_past q0_rows q0_bags q0_tally q0_sizes q0_text q0_line q0_latestReason q0_latestDetail) (some (.int t.1)) (wS E ad q0_letters q0_trial q0_snapshot q0_isSaved q0_past q0_rows q0_bags t.2 q0_sizes q0_text q0_line q0_latestReason q0_latestDetail) := by
  refine Met.ofW (cc := cX8_account) (maxL := 2) (ret := (some .int)) (by decide) rfl ?_
  intro p e s m args below meth c s₁ B hml hv
  obtain ⟨hargs, hP, hK, hD0⟩ := hv
  have hx := B.exec
  have hb := B.bytes
  have hr := B.returns
  have hts := atoms_spec (ws := ws_ yX8_account cX8_account 2 (some .int)) B.pre
  have hta : ∀ w ∈ lw_all, w.before args s = true := fun w h => hts w (List.mem_cons_of_mem _ h)
  have hown : s.vm.findClass RX8 = some m.cls := findClass_of_methodNamed B.named
  have hlocks := B.notSynchronized
  have hC : Cx p s m args c cX8_account 2 RX8 E := ⟨hx, hb, hml, hown, hta, hK⟩
  have hH : Hp E (adr (wS E ad q0_letters q0_trial q0_snapshot q0_isSaved q0_past q0_rows q0_bags q0_tally q0_sizes q0_text q0_line q0_latestReason q0_latestDetail)) (wS E ad q0_letters q0_trial q0_snapshot q0_isSaved q0_past q0_rows q0_bags q0_tally q0_sizes q0_text q0_line q0_latestReason q0_latestDetail) s.heap s.heap [] := Hp.start hP hD0
  obtain ⟨ls, he, hl⟩ := entry_ (m := m) (n := 2) hargs (Nat.le_of_ble_eq_true rfl)
  rw [he]
  have hl : lv_has ls 2 [(0, .ref (ad 0)), (1, .int a1)] := hl
  show W p l e rmS_account s m args below meth c s.heap [] 0 0 (MQ below (qW E (some .int) (some (.int t.1)) (wS E ad q0_letters q0_trial q0_snapshot q0_isSaved q0_past q0_rows q0_bags q0_tally q0_sizes q0_text q0_line q0_latestReason q0_latestDetail) (wS E ad q0_letters q0_trial q0_snapshot q0_isSaved q0_past q0_rows q0_bags t.2 q0_sizes q0_text q0_line q0_latestReason q0_latestDetail)) args s 0 0 (adr (wS E ad q0_letters q0_trial q0_snapshot q0_isSaved q0_past q0_rows q0_bags q0_tally q0_sizes q0_text q0_line q0_latestReason q0_latestDetail))) (F0 m 0 ls [])
  suffices hmain : ∀ (H : Heap) (locs : List Loc), Hp E (adr (wS E ad q0_letters q0_trial q0_snapshot q0_isSaved q0_past q0_rows q0_bags q0_tally q0_sizes q0_text q0_line q0_latestReason q0_latestDetail)) (wS E ad q0_letters q0_trial q0_snapshot q0_isSaved q0_past q0_rows q0_bags q0_tally q0_sizes q0_text q0_line q0_latestReason q0_latestDetail) s.heap H locs → W p l e rmS_account s m args below meth c H locs 0 0 (MQ below (qW E (some .int) (some (.int t.1)) (wS E ad q0_letters q0_trial q0_snapshot q0_isSaved q0_past q0_rows q0_bags q0_tally q0_sizes q0_text q0_line q0_latestReason q0_latestDetail) (wS E ad q0_letters q0_trial q0_snapshot q0_isSaved q0_past q0_rows q0_bags t.2 q0_sizes q0_text q0_line q0_latestReason q0_latestDetail)) args s 0 0 (adr (wS E ad q0_letters q0_trial q0_snapshot q0_isSaved q0_past q0_rows q0_bags q0_tally q0_sizes q0_text q0_line q0_latestReason q0_latestDetail))) (F0 m 0 ls []) from hmain _ _ hH
  clear hH
  intro H locs hH
  rw [fS_account] at hf
  refine lv_iload_n hx hb dX8_account_0 rfl (lv_at hl 1 rfl) ?_
  by_cases c1_0 : a1 = (0 : Int32)
  · have hf := ite_t hf c1_0
    have e9 : (a1).toInt = 0 := by rw [c1_0]; decide
    refine lv_tableIn (tgt := 60) hx hb dX8_account_1 (by omega) (by omega) (by rw [e9]; rfl) (by decide) ?_
    refine lv_aload_n hx hb dX8_account_60 rfl (lv_at hl 0 rfl) ?_
    refine gX8_10 hC hH.1 0 rfl (v := .ref (ad 1)) rfl dX8_account_61 ?_
    refine k_PVi hC LX8_87 ⟨Nat.le_of_ble_eq_true rfl, Nat.le_of_ble_eq_true rfl⟩ ⟨Nat.zero_le _, Nat.zero_le _⟩ (cL_size l E (fun j => ad (1 + j)) q0_letters.1 q0_letters.2.1 q0_letters.2.2.1 q0_letters.2.2.2.1 q0_letters.2.2.2.2.1 q0_letters.2.2.2.2.2 _ rfl) rfl rfl (ss_letters hH.1) rfl rfl hl.1 rfl (Nat.le_of_ble_eq_true rfl) rfl dX8_account_64 (fun hz64 => ?_)
    have hf := Option.some.inj hf
    subst hf
    exact e_Wi hC hH hr hlocks rfl rfl dX8_account_67
  · have hf := ite_f hf c1_0
    by_cases c1_1 : a1 = (1 : Int32)
    · have hf := ite_t hf c1_1
      have e9 : (a1).toInt = 1 := by rw [c1_1]; decide
      refine lv_tableIn (tgt := 68) hx hb dX8_account_1 (by omega) (by omega) (by rw [e9]; rfl) (by decide) ?_
      refine lv_aload_n hx hb dX8_account_68 rfl (lv_at hl 0 rfl) ?_
      refine gX8_10 hC hH.1 0 rfl (v := .ref (ad 1)) rfl dX8_account_69 ?_
      obtain ⟨t1, ht1, hf⟩ := ob hf
      refine k_PVi hC LX8_245 ⟨Nat.le_of_ble_eq_true rfl, Nat.le_of_ble_eq_true rfl⟩ ⟨Nat.zero_le _, Nat.zero_le _⟩ (cL_total l E (fun j => ad (1 + j)) q0_letters.1 q0_letters.2.1 q0_letters.2.2.1 q0_letters.2.2.2.1 q0_letters.2.2.2.2.1 q0_letters.2.2.2.2.2 t1 ht1) rfl rfl (ss_letters hH.1) rfl rfl hl.1 rfl (Nat.le_of_ble_eq_true rfl) rfl dX8_account_72 (fun hz72 => ?_)
      have hf := Option.some.inj hf
      subst hf
      exact e_Wi hC hH hr hlocks rfl rfl dX8_account_75
    · have hf := ite_f hf c1_1
      by_cases c1_2 : a1 = (2 : Int32)
      · have hf := ite_t hf c1_2
        have e9 : (a1).toInt = 2 := by rw [c1_2]; decide
        refine lv_tableIn (tgt := 76) hx hb dX8_account_1 (by omega) (by omega) (by rw [e9]; rfl) (by decide) ?_
        refine lv_aload_n hx hb dX8_account_76 rfl (lv_at hl 0 rfl) ?_
        refine gX8_10 hC hH.1 0 rfl (v := .ref (ad 1)) rfl dX8_account_77 ?_
        refine k_PVi hC LX8_248 ⟨Nat.le_of_ble_eq_true rfl, Nat.le_of_ble_eq_true rfl⟩ ⟨Nat.zero_le _, Nat.zero_le _⟩ (cL_came l E (fun j => ad (1 + j)) q0_letters.1 q0_letters.2.1 q0_letters.2.2.1 q0_letters.2.2.2.1 q0_letters.2.2.2.2.1 q0_letters.2.2.2.2.2 _ rfl) rfl rfl (ss_letters hH.1) rfl rfl hl.1 rfl (Nat.le_of_ble_eq_true rfl) rfl dX8_account_80 (fun hz80 => ?_)
        have hf := Option.some.inj hf
        subst hf
        exact e_Wi hC hH hr hlocks rfl rfl dX8_account_83
      · have hf := ite_f hf c1_2
        by_cases c1_3 : a1 = (3 : Int32)
        · have hf := ite_t hf c1_3
          have e9 : (a1).toInt = 3 := by rw [c1_3]; decide
          refine lv_tableIn (tgt := 84) hx hb dX8_account_1 (by omega) (by omega) (by rw [e9]; rfl) (by decide) ?_
          refine lv_aload_n hx hb dX8_account_84 rfl (lv_at hl 0 rfl) ?_
          refine gX8_10 hC hH.1 0 rfl (v := .ref (ad 1)) rfl dX8_account_85 ?_
          refine k_PVi hC LX8_251 ⟨Nat.le_of_ble_eq_true rfl, Nat.le_of_ble_eq_true rfl⟩ ⟨Nat.zero_le _, Nat.zero_le _⟩ (cL_left l E (fun j => ad (1 + j)) q0_letters.1 q0_letters.2.1 q0_letters.2.2.1 q0_letters.2.2.2.1 q0_letters.2.2.2.2.1 q0_letters.2.2.2.2.2 _ rfl) rfl rfl (ss_letters hH.1) rfl rfl hl.1 rfl (Nat.le_of_ble_eq_true rfl) rfl dX8_account_88 (fun hz88 => ?_)
          have hf := Option.some.inj hf
          subst hf
          exact e_Wi hC hH hr hlocks rfl rfl dX8_account_91
        · have hf := ite_f hf c1_3
          by_cases c1_4 : a1 = (4 : Int32)
          · have hf := ite_t hf c1_4
            have e9 : (a1).toInt = 4 := by rw [c1_4]; decide
            refine lv_tableIn (tgt := 92) hx hb dX8_account_1 (by omega) (by omega) (by rw [e9]; rfl) (by decide) ?_
            refine lv_aload_n hx hb dX8_account_92 rfl (lv_at hl 0 rfl) ?_
            refine gX8_39 hC hH.1 0 rfl (v := .ref (ad 36)) rfl dX8_account_93 ?_
            refine k_PVi hC LX8_185 ⟨Nat.le_of_ble_eq_true rfl, Nat.le_of_ble_eq_true rfl⟩ ⟨Nat.zero_le _, Nat.zero_le _⟩ (cB_number l E (fun j => ad (36 + j)) q0_bags.1 q0_bags.2.1 q0_bags.2.2.1 q0_bags.2.2.2 _ rfl) rfl rfl (ss_bags hH.1) rfl rfl hl.1 rfl (Nat.le_of_ble_eq_true rfl) rfl dX8_account_96 (fun hz96 => ?_)
            have hf := Option.some.inj hf
            subst hf
            exact e_Wi hC hH hr hlocks rfl rfl dX8_account_99
          · have hf := ite_f hf c1_4
            by_cases c1_5 : a1 = (5 : Int32)
            · have hf := ite_t hf c1_5
              have e9 : (a1).toInt = 5 := by rw [c1_5]; decide
              refine lv_tableIn (tgt := 100) hx hb dX8_account_1 (by omega) (by omega) (by rw [e9]; rfl) (by decide) ?_
              refine lv_aload_n hx hb dX8_account_100 rfl (lv_at hl 0 rfl) ?_
              refine gX8_10 hC hH.1 0 rfl (v := .ref (ad 1)) rfl dX8_account_101 ?_
              refine k_PVi hC LX8_124 ⟨Nat.le_of_ble_eq_true rfl, Nat.le_of_ble_eq_true rfl⟩ ⟨Nat.zero_le _, Nat.zero_le _⟩ (cL_marked l E (fun j => ad (1 + j)) q0_letters.1 q0_letters.2.1 q0_letters.2.2.1 q0_letters.2.2.2.1 q0_letters.2.2.2.2.1 q0_letters.2.2.2.2.2 _ rfl) rfl rfl (ss_letters hH.1) rfl rfl hl.1 rfl (Nat.le_of_ble_eq_true rfl) rfl dX8_account_104 (fun hz104 => ?_)
              have hf := Option.some.inj hf
              subst hf
              exact e_Wi hC hH hr hlocks rfl rfl dX8_account_107
            · have hf := ite_f hf c1_5
              by_cases c1_6 : a1 = (6 : Int32)
              · have hf := ite_t hf c1_6
                have e9 : (a1).toInt = 6 := by rw [c1_6]; decide
                refine lv_tableIn (tgt := 108) hx hb dX8_account_1 (by omega) (by omega) (by rw [e9]; rfl) (by decide) ?_
                refine lv_aload_n hx hb dX8_account_108 rfl (lv_at hl 0 rfl) ?_
                refine gX8_46 hC hH.1 0 rfl (v := .ref (ad 39)) rfl dX8_account_109 ?_
                refine lv_aload_n hx hb dX8_account_112 rfl (lv_at hl 0 rfl) ?_
                refine gX8_10 hC hH.1 0 rfl (v := .ref (ad 1)) rfl dX8_account_113 ?_
                refine lv_iconst (v := 0) hx hb dX8_account_116 (by decide) ?_
                refine lv_aload_n hx hb dX8_account_117 rfl (lv_at hl 0 rfl) ?_
                refine gX8_10 hC hH.1 0 rfl (v := .ref (ad 1)) rfl dX8_account_118 ?_
                refine k_PVi hC LX8_87 ⟨Nat.le_of_ble_eq_true rfl, Nat.le_of_ble_eq_true rfl⟩ ⟨Nat.zero_le _, Nat.zero_le _⟩ (cL_size l E (fun j => ad (1 + j)) q0_letters.1 q0_letters.2.1 q0_letters.2.2.1 q0_letters.2.2.2.1 q0_letters.2.2.2.2.1 q0_letters.2.2.2.2.2 _ rfl) rfl rfl (ss_letters hH.1) rfl rfl hl.1 rfl (Nat.le_of_ble_eq_true rfl) rfl dX8_account_121 (fun hz121 => ?_)
                obtain ⟨t2, ht2, hf⟩ := ob hf
                refine k_WVpv hC LX8_181 ⟨Nat.le_of_ble_eq_true rfl, Nat.le_of_ble_eq_true rfl⟩ ⟨Nat.zero_le _, Nat.zero_le _⟩ (cY_fill l E (fun j => ad (39 + j)) q0_tally (fun j => ad (1 + j)) q0_letters.1 q0_letters.2.1 q0_letters.2.2.1 q0_letters.2.2.2.1 q0_letters.2.2.2.2.1 q0_letters.2.2.2.2.2 (0 : Int32) (fL_size q0_letters.2.1) t2 ht2) rfl rfl hH (W1 := wS E ad q0_letters q0_trial q0_snapshot q0_isSaved q0_past q0_rows q0_bags t2 q0_sizes q0_text q0_line q0_latestReason q0_latestDetail) (sp_tally_letters E ad q0_letters q0_trial q0_snapshot q0_isSaved q0_past q0_rows q0_bags q0_tally q0_sizes q0_text q0_line q0_latestReason q0_latestDetail) (sq_tally_letters E ad q0_letters q0_trial q0_snapshot q0_isSaved q0_past q0_rows q0_bags q0_tally q0_sizes q0_text q0_line q0_latestReason q0_latestDetail t2 q0_letters.1 q0_letters.2.1 q0_letters.2.2.1 q0_letters.2.2.2.1 q0_letters.2.2.2.2.1 q0_letters.2.2.2.2.2) rfl rfl rfl hl.1 rfl (Nat.le_of_ble_eq_true rfl) rfl dX8_account_124 (fun H locs hz124 hH => ?_)
                refine lv_aload_n hx hb dX8_account_127 rfl (lv_at hl 0 rfl) ?_
                refine gX8_46 hC hH.1 0 rfl (v := .ref (ad 39)) rfl dX8_account_128 ?_
                obtain ⟨t3, ht3, hf⟩ := ob hf
                refine k_PVi hC LX8_197 ⟨Nat.le_of_ble_eq_true rfl, Nat.le_of_ble_eq_true rfl⟩ ⟨Nat.zero_le _, Nat.zero_le _⟩ (cY_unlike l E (fun j => ad (39 + j)) t2 t3 ht3) rfl rfl (ss_tally hH.1) rfl rfl hl.1 rfl (Nat.le_of_ble_eq_true rfl) rfl dX8_account_131 (fun hz131 => ?_)
                have hf := Option.some.inj hf
                subst hf
                exact e_Wi hC hH hr hlocks rfl rfl dX8_account_134
              · have hf := ite_f hf c1_6
                by_cases c1_7 : a1 = (7 : Int32)
                · have hf := ite_t hf c1_7
                  have e9 : (a1).toInt = 7 := by rw [c1_7]; decide
                  refine lv_tableIn (tgt := 135) hx hb dX8_account_1 (by omega) (by omega) (by rw [e9]; rfl) (by decide) ?_
                  refine lv_aload_n hx hb dX8_account_135 rfl (lv_at hl 0 rfl) ?_
                  refine gX8_10 hC hH.1 0 rfl (v := .ref (ad 1)) rfl dX8_account_136 ?_
                  refine k_PVi hC LX8_254 ⟨Nat.le_of_ble_eq_true rfl, Nat.le_of_ble_eq_true rfl⟩ ⟨Nat.zero_le _, Nat.zero_le _⟩ (cL_swaps l E (fun j => ad (1 + j)) q0_letters.1 q0_letters.2.1 q0_letters.2.2.1 q0_letters.2.2.2.1 q0_letters.2.2.2.2.1 q0_letters.2.2.2.2.2 _ rfl) rfl rfl (ss_letters hH.1) rfl rfl hl.1 rfl (Nat.le_of_ble_eq_true rfl) rfl dX8_account_139 (fun hz139 => ?_)
                  have hf := Option.some.inj hf
                  subst hf
                  exact e_Wi hC hH hr hlocks rfl rfl dX8_account_142
                · have hf := ite_f hf c1_7
                  by_cases c1_8 : a1 = (8 : Int32)
                  · have hf := ite_t hf c1_8
                    have e9 : (a1).toInt = 8 := by rw [c1_8]; decide
                    refine lv_tableIn (tgt := 143) hx hb dX8_account_1 (by omega) (by omega) (by rw [e9]; rfl) (by decide) ?_
                    refine lv_aload_n hx hb dX8_account_143 rfl (lv_at hl 0 rfl) ?_
                    refine gX8_32 hC hH.1 0 rfl (v := .ref (ad 25)) rfl dX8_account_144 ?_
                    obtain ⟨t4, ht4, hf⟩ := ob hf
                    refine k_PVi hC LX8_257 ⟨Nat.le_of_ble_eq_true rfl, Nat.le_of_ble_eq_true rfl⟩ ⟨Nat.zero_le _, Nat.zero_le _⟩ (cR_onesOfAll l E (fun j => ad (25 + j)) q0_rows.1 q0_rows.2.1 q0_rows.2.2.1 q0_rows.2.2.2.1 q0_rows.2.2.2.2.1 q0_rows.2.2.2.2.2 t4 ht4) rfl rfl (ss_rows hH.1) rfl rfl hl.1 rfl (Nat.le_of_ble_eq_true rfl) rfl dX8_account_147 (fun hz147 => ?_)
                    have hf := Option.some.inj hf
                    subst hf
                    exact e_Wi hC hH hr hlocks rfl rfl dX8_account_150
                  · have hf := ite_f hf c1_8
                    by_cases c1_9 : a1 = (9 : Int32)
                    · have hf := ite_t hf c1_9
                      have e9 : (a1).toInt = 9 := by rw [c1_9]; decide
                      refine lv_tableIn (tgt := 151) hx hb dX8_account_1 (by omega) (by omega) (by rw [e9]; rfl) (by decide) ?_
                      refine lv_aload_n hx hb dX8_account_151 rfl (lv_at hl 0 rfl) ?_
                      refine gX8_60 hC hH.1 0 rfl (v := .ref (ad 43)) rfl dX8_account_152 ?_
                      refine k_PVi hC LX8_211 ⟨Nat.le_of_ble_eq_true rfl, Nat.le_of_ble_eq_true rfl⟩ ⟨Nat.zero_le _, Nat.zero_le _⟩ (cT_size l E (fun j => ad (43 + j)) q0_text.1 q0_text.2.1 q0_text.2.2.1 q0_text.2.2.2.1 q0_text.2.2.2.2.1 q0_text.2.2.2.2.2.1 q0_text.2.2.2.2.2.2.1 q0_text.2.2.2.2.2.2.2 _ rfl) rfl rfl (ss_text hH.1) rfl rfl hl.1 rfl (Nat.le_of_ble_eq_true rfl) rfl dX8_account_155 (fun hz155 => ?_)
                      have hf := Option.some.inj hf
                      subst hf
                      exact e_Wi hC hH hr hlocks rfl rfl dX8_account_158
                    · have hf := ite_f hf c1_9
                      by_cases c1_10 : a1 = (10 : Int32)
                      · have hf := ite_t hf c1_10
                        have e9 : (a1).toInt = 10 := by rw [c1_10]; decide
                        refine lv_tableIn (tgt := 159) hx hb dX8_account_1 (by omega) (by omega) (by rw [e9]; rfl) (by decide) ?_
                        refine lv_aload_n hx hb dX8_account_159 rfl (lv_at hl 0 rfl) ?_
                        refine gX8_25 hC hH.1 0 rfl (v := .ref (ad 7)) rfl dX8_account_160 ?_
                        refine k_PVi hC LX8_260 ⟨Nat.le_of_ble_eq_true rfl, Nat.le_of_ble_eq_true rfl⟩ ⟨Nat.zero_le _, Nat.zero_le _⟩ (cP_size l E (fun j => ad (7 + j)) q0_past.1 q0_past.2.1 q0_past.2.2 _ rfl) rfl rfl (ss_past hH.1) rfl rfl hl.1 rfl (Nat.le_of_ble_eq_true rfl) rfl dX8_account_163 (fun hz163 => ?_)
                        have hf := Option.some.inj hf
                        subst hf
                        exact e_Wi hC hH hr hlocks rfl rfl dX8_account_166
                      · have hf := ite_f hf c1_10
                        have hd : W p l e rmS_account s m args below meth c H locs 0 0 (MQ below (qW E (some .int) (some (.int t.1)) (wS E ad q0_letters q0_trial q0_snapshot q0_isSaved q0_past q0_rows q0_bags q0_tally q0_sizes q0_text q0_line q0_latestReason q0_latestDetail) (wS E ad q0_letters q0_trial q0_snapshot q0_isSaved q0_past q0_rows q0_bags t.2 q0_sizes q0_text q0_line q0_latestReason q0_latestDetail)) args s 0 0 (adr (wS E ad q0_letters q0_trial q0_snapshot q0_isSaved q0_past q0_rows q0_bags q0_tally q0_sizes q0_text q0_line q0_latestReason q0_latestDetail))) (F0 m 167 ls []) := by
                          refine lv_bipush (v := (-12)) hx hb dX8_account_167 (by decide) ?_
                          have hf := Option.some.inj hf
                          subst hf
                          exact e_Wi hC hH hr hlocks rfl rfl dX8_account_169
                        refine lv_tableOut (tgt := 167) hx hb dX8_account_1 (by have n0 := lv_neT c1_0 (a := 0) (by decide); have n1 := lv_neT c1_1 (a := 1) (by decide); have n2 := lv_neT c1_2 (a := 2) (by decide); have n3 := lv_neT c1_3 (a := 3) (by decide); have n4 := lv_neT c1_4 (a := 4) (by decide); have n5 := lv_neT c1_5 (a := 5) (by decide); have n6 := lv_neT c1_6 (a := 6) (by decide); have n7 := lv_neT c1_7 (a := 7) (by decide); have n8 := lv_neT c1_8 (a := 8) (by decide); have n9 := lv_neT c1_9 (a := 9) (by decide); have n10 := lv_neT c1_10 (a := 10) (by decide); omega) (by decide) hd
abbrev rmS_areWeightsAlike : Room := { frames := 4, cells := 0, slots := 0, locals := 97 }
set_option maxHeartbeats 4000000 in
set_option maxRecDepth 100000 in
theorem cS_areWeightsAlike (l : Launch) (E : eE) (ad : Nat → Nat) (q0_letters : TL) (q0_trial : TL) (q0_snapshot : TL) (q0_isSaved : Int32) (q0_past : TP) (q0_rows : TR) (q0_bags : TB) (q0_tally : TY) (q0_sizes : TZ) (q0_text : TT) (q0_line : TN) (q0_latestReason : Int32) (q0_latestDetail : Int32) (r : Int32) (hf : fS_areWeightsAlike q0_letters q0_rows = some r) : cP l E yX8_areWeightsAlike cX8_areWeightsAlike 2 (some .boolean) rmS_areWeightsAlike [.ref (ad 0)] (wS E ad q0_letters q0_trial q0_snapshot q0_isSaved q0_past q0_rows q0_bags q0_tally q0_sizes q0_text q0_line q0_latestReason q0_latestDetail) (some (.int r)) := by
  refine Met.ofW (cc := cX8_areWeightsAlike) (maxL := 2) (ret := (some .boolean)) (by decide) rfl ?_
  intro p e s m args below meth c s₁ B hml hv
  obtain ⟨hargs, hP, hK⟩ := hv
  have hx := B.exec
  have hb := B.bytes
  have hr := B.returns
  have hts := atoms_spec (ws := ws_ yX8_areWeightsAlike cX8_areWeightsAlike 2 (some .boolean)) B.pre
  have hta : ∀ w ∈ lw_all, w.before args s = true := fun w h => hts w (List.mem_cons_of_mem _ h)
  have hown : s.vm.findClass RX8 = some m.cls := findClass_of_methodNamed B.named
  have hlocks := B.notSynchronized
  have hC : Cx p s m args c cX8_areWeightsAlike 2 RX8 E := ⟨hx, hb, hml, hown, hta, hK⟩
  obtain ⟨ls, he, hl⟩ := entry_ (m := m) (n := 2) hargs (Nat.le_of_ble_eq_true rfl)
  rw [he]
  have hl : lv_has ls 2 [(0, .ref (ad 0))] := hl
  show W p l e rmS_areWeightsAlike s m args below meth c s.heap [] 0 0 (MQ below (qP (some .boolean) (some (.int r))) args s 0 0 (fun _ => False)) (F0 m 0 ls [])
  have L2 : ∀ (n : Nat) (a1 : Int32) (ls : Array Slot), lv_has ls 2 [(0, .ref (ad 0)), (1, .int a1)] → fS_areWeightsAlike_2 n q0_letters q0_rows a1 = some r → W p l e rmS_areWeightsAlike s m args below meth c s.heap [] 0 0 (MQ below (qP (some .boolean) (some (.int r))) args s 0 0 (fun _ => False)) (F0 m 2 ls []) := by
    intro n
    induction n with
    | zero => intro a1 ls hl hf; cases hf
    | succ n ih =>
      intro a1 ls hl hf
      rw [fS_areWeightsAlike_2] at hf
      refine lv_iload_n hx hb dX8_areWeightsAlike_2 rfl (lv_at hl 1 rfl) ?_
      refine lv_aload_n hx hb dX8_areWeightsAlike_3 rfl (lv_at hl 0 rfl) ?_
      refine gX8_10 hC hP 0 rfl (v := .ref (ad 1)) rfl dX8_areWeightsAlike_4 ?_
      refine k_PVi hC LX8_87 ⟨Nat.le_of_ble_eq_true rfl, Nat.le_of_ble_eq_true rfl⟩ ⟨Nat.zero_le _, Nat.zero_le _⟩ (cL_size l E (fun j => ad (1 + j)) q0_letters.1 q0_letters.2.1 q0_letters.2.2.1 q0_letters.2.2.2.1 q0_letters.2.2.2.2.1 q0_letters.2.2.2.2.2 _ rfl) rfl rfl (ss_letters hP) rfl rfl hl.1 rfl (Nat.le_of_ble_eq_true rfl) rfl dX8_areWeightsAlike_7 (fun hz7 => ?_)
      refine lv_icmp_ge (tgt := 40) hx hb dX8_areWeightsAlike_10 (by decide) (fun c1 => ?_) (fun c1 => ?_)
      · have hf := ite_t hf c1
        refine lv_iconst (v := 1) hx hb dX8_areWeightsAlike_40 (by decide) ?_
        have hf := Option.some.inj hf
        exact e_Pz hC hr hlocks hf rfl dX8_areWeightsAlike_41
      · have hf := ite_f hf c1
        refine lv_aload_n hx hb dX8_areWeightsAlike_13 rfl (lv_at hl 0 rfl) ?_
        refine gX8_10 hC hP 0 rfl (v := .ref (ad 1)) rfl dX8_areWeightsAlike_14 ?_
        refine lv_iload_n hx hb dX8_areWeightsAlike_17 rfl (lv_at hl 1 rfl) ?_
        obtain ⟨t2, ht2, hf⟩ := ob hf
        refine k_PVi hC LX8_101 ⟨Nat.le_of_ble_eq_true rfl, Nat.le_of_ble_eq_true rfl⟩ ⟨Nat.zero_le _, Nat.zero_le _⟩ (cL_at l E (fun j => ad (1 + j)) q0_letters.1 q0_letters.2.1 q0_letters.2.2.1 q0_letters.2.2.2.1 q0_letters.2.2.2.2.1 q0_letters.2.2.2.2.2 a1 t2 ht2) rfl rfl (ss_letters hP) rfl rfl hl.1 rfl (Nat.le_of_ble_eq_true rfl) rfl dX8_areWeightsAlike_18 (fun hz18 => ?_)
        refine lv_aload_n hx hb dX8_areWeightsAlike_21 rfl (lv_at hl 0 rfl) ?_
        refine gX8_32 hC hP 0 rfl (v := .ref (ad 25)) rfl dX8_areWeightsAlike_22 ?_
        refine lv_iload_n hx hb dX8_areWeightsAlike_25 rfl (lv_at hl 1 rfl) ?_
        obtain ⟨t3, ht3, hf⟩ := ob hf
        refine k_PVi hC LX8_127 ⟨Nat.le_of_ble_eq_true rfl, Nat.le_of_ble_eq_true rfl⟩ ⟨Nat.zero_le _, Nat.zero_le _⟩ (cR_weightOf l E (fun j => ad (25 + j)) q0_rows.1 q0_rows.2.1 q0_rows.2.2.1 q0_rows.2.2.2.1 q0_rows.2.2.2.2.1 q0_rows.2.2.2.2.2 a1 t3 ht3) rfl rfl (ss_rows hP) rfl rfl hl.1 rfl (Nat.le_of_ble_eq_true rfl) rfl dX8_areWeightsAlike_26 (fun hz26 => ?_)
        refine lv_icmp_eq (tgt := 34) hx hb dX8_areWeightsAlike_29 (by decide) (fun c4 => ?_) (fun c4 => ?_)
        · have hf := ite_t hf c4
          refine lv_iinc (v := (a1 + (1 : Int32))) (lv' := [(1, .int (a1 + (1 : Int32))), (0, .ref (ad 0))]) hx hb dX8_areWeightsAlike_34 hl (k := 1) rfl rfl (by decide) rfl (fun ls hl => ?_)
          refine lv_goto (tgt := 2) hx hb dX8_areWeightsAlike_37 (by decide) ?_
          exact ih (a1 + (1 : Int32)) ls (lv_sub hl [1, 0] rfl) hf
        · have hf := ite_f hf c4
          refine lv_iconst (v := 0) hx hb dX8_areWeightsAlike_32 (by decide) ?_
          have hf := Option.some.inj hf
          exact e_Pz hC hr hlocks hf rfl dX8_areWeightsAlike_33
  rw [fS_areWeightsAlike] at hf
  refine lv_iconst (v := 0) hx hb dX8_areWeightsAlike_0 (by decide) ?_
  refine lv_istore_n (lv' := [(1, .int (0 : Int32)), (0, .ref (ad 0))]) hx hb dX8_areWeightsAlike_1 rfl hl (by decide) rfl (fun ls hl => ?_)
  exact L2 FU (0 : Int32) ls (lv_sub hl [1, 0] rfl) hf
abbrev rmS_areCountsAlike : Room := { frames := 4, cells := 0, slots := 0, locals := 90 }
set_option maxHeartbeats 4000000 in
set_option maxRecDepth 100000 in
theorem cS_areCountsAlike (l : Launch) (E : eE) (ad : Nat → Nat) (q0_letters : TL) (q0_trial : TL) (q0_snapshot : TL) (q0_isSaved : Int32) (q0_past : TP) (q0_rows : TR) (q0_bags : TB) (q0_tally : TY) (q0_sizes : TZ) (q0_text : TT) (q0_line : TN) (q0_latestReason : Int32) (q0_latestDetail : Int32) (r : Int32) (hf : fS_areCountsAlike q0_letters q0_rows = some r) : cP l E yX8_areCountsAlike cX8_areCountsAlike 3 (some .boolean) rmS_areCountsAlike [.ref (ad 0)] (wS E ad q0_letters q0_trial q0_snapshot q0_isSaved q0_past q0_rows q0_bags q0_tally q0_sizes q0_text q0_line q0_latestReason q0_latestDetail) (some (.int r)) := by
  refine Met.ofW (cc := cX8_areCountsAlike) (maxL := 3) (ret := (some .boolean)) (by decide) rfl ?_
  intro p e s m args below meth c s₁ B hml hv
  obtain ⟨hargs, hP, hK⟩ := hv
  have hx := B.exec
  have hb := B.bytes
  have hr := B.returns
  have hts := atoms_spec (ws := ws_ yX8_areCountsAlike cX8_areCountsAlike 3 (some .boolean)) B.pre
  have hta : ∀ w ∈ lw_all, w.before args s = true := fun w h => hts w (List.mem_cons_of_mem _ h)
  have hown : s.vm.findClass RX8 = some m.cls := findClass_of_methodNamed B.named
  have hlocks := B.notSynchronized
  have hC : Cx p s m args c cX8_areCountsAlike 3 RX8 E := ⟨hx, hb, hml, hown, hta, hK⟩
  obtain ⟨ls, he, hl⟩ := entry_ (m := m) (n := 3) hargs (Nat.le_of_ble_eq_true rfl)
  rw [he]
  have hl : lv_has ls 3 [(0, .ref (ad 0))] := hl
  show W p l e rmS_areCountsAlike s m args below meth c s.heap [] 0 0 (MQ below (qP (some .boolean) (some (.int r))) args s 0 0 (fun _ => False)) (F0 m 0 ls [])
  have L9 : ∀ (n : Nat) (a1 : Int32) (a2 : Int32) (ls : Array Slot), lv_has ls 3 [(0, .ref (ad 0)), (1, .int a1), (2, .int a2)] → ∀ (o : Int32 ⊕ (Unit)), fS_areCountsAlike_9 n q0_letters q0_rows a1 a2 = some o → (∀ r9, o = Sum.inl r9 → r9 = r) → (∀ (oy : (Unit)), o = Sum.inr oy → ∀ (ls : Array Slot), lv_has ls 3 [(0, .ref (ad 0)), (1, .int a1)] → W p l e rmS_areCountsAlike s m args below meth c s.heap [] 0 0 (MQ below (qP (some .boolean) (some (.int r))) args s 0 0 (fun _ => False)) (F0 m 74 ls [])) → W p l e rmS_areCountsAlike s m args below meth c s.heap [] 0 0 (MQ below (qP (some .boolean) (some (.int r))) args s 0 0 (fun _ => False)) (F0 m 9 ls []) := by
    intro n
    induction n with
    | zero => intro a1 a2 ls hl o hf hrt hk; cases hf
    | succ n ih =>
      intro a1 a2 ls hl o hf hrt hk
      rw [fS_areCountsAlike_9] at hf
      refine lv_iload_n hx hb dX8_areCountsAlike_9 rfl (lv_at hl 2 rfl) ?_
      refine lv_aload_n hx hb dX8_areCountsAlike_10 rfl (lv_at hl 0 rfl) ?_
      refine gX8_10 hC hP 0 rfl (v := .ref (ad 1)) rfl dX8_areCountsAlike_11 ?_
      refine k_PVi hC LX8_87 ⟨Nat.le_of_ble_eq_true rfl, Nat.le_of_ble_eq_true rfl⟩ ⟨Nat.zero_le _, Nat.zero_le _⟩ (cL_size l E (fun j => ad (1 + j)) q0_letters.1 q0_letters.2.1 q0_letters.2.2.1 q0_letters.2.2.2.1 q0_letters.2.2.2.2.1 q0_letters.2.2.2.2.2 _ rfl) rfl rfl (ss_letters hP) rfl rfl hl.1 rfl (Nat.le_of_ble_eq_true rfl) rfl dX8_areCountsAlike_14 (fun hz14 => ?_)
      refine lv_icmp_gt (tgt := 74) hx hb dX8_areCountsAlike_17 (by decide) (fun c2 => ?_) (fun c2 => ?_)
      · have hf := ite_t hf c2
        cases hf
        exact hk _ rfl ls (lv_sub hl [0, 1] rfl)
      · have hf := ite_f hf c2
        refine lv_aload_n hx hb dX8_areCountsAlike_20 rfl (lv_at hl 0 rfl) ?_
        refine gX8_32 hC hP 0 rfl (v := .ref (ad 25)) rfl dX8_areCountsAlike_21 ?_
        refine lv_iload_n hx hb dX8_areCountsAlike_24 rfl (lv_at hl 1 rfl) ?_
        refine lv_iconst (v := 1) hx hb dX8_areCountsAlike_25 (by decide) ?_
        refine lv_iload_n hx hb dX8_areCountsAlike_26 rfl (lv_at hl 2 rfl) ?_
        obtain ⟨t3, ht3, hf⟩ := ob hf
        refine k_PVi hC LX8_143 ⟨Nat.le_of_ble_eq_true rfl, Nat.le_of_ble_eq_true rfl⟩ ⟨Nat.zero_le _, Nat.zero_le _⟩ (cR_ahead l E (fun j => ad (25 + j)) q0_rows.1 q0_rows.2.1 q0_rows.2.2.1 q0_rows.2.2.2.1 q0_rows.2.2.2.2.1 q0_rows.2.2.2.2.2 a1 (1 : Int32) a2 t3 ht3) rfl rfl (ss_rows hP) rfl rfl hl.1 rfl (Nat.le_of_ble_eq_true rfl) rfl dX8_areCountsAlike_27 (fun hz27 => ?_)
        refine lv_aload_n hx hb dX8_areCountsAlike_30 rfl (lv_at hl 0 rfl) ?_
        refine gX8_32 hC hP 0 rfl (v := .ref (ad 25)) rfl dX8_areCountsAlike_31 ?_
        refine lv_iload_n hx hb dX8_areCountsAlike_34 rfl (lv_at hl 1 rfl) ?_
        refine lv_iconst (v := 1) hx hb dX8_areCountsAlike_35 (by decide) ?_
        refine lv_iload_n hx hb dX8_areCountsAlike_36 rfl (lv_at hl 2 rfl) ?_
        obtain ⟨t4, ht4, hf⟩ := ob hf
        refine k_PVi hC LX8_147 ⟨Nat.le_of_ble_eq_true rfl, Nat.le_of_ble_eq_true rfl⟩ ⟨Nat.zero_le _, Nat.zero_le _⟩ (cR_aheadOneByOne l E (fun j => ad (25 + j)) q0_rows.1 q0_rows.2.1 q0_rows.2.2.1 q0_rows.2.2.2.1 q0_rows.2.2.2.2.1 q0_rows.2.2.2.2.2 a1 (1 : Int32) a2 t4 ht4) rfl rfl (ss_rows hP) rfl rfl hl.1 rfl (Nat.le_of_ble_eq_true rfl) rfl dX8_areCountsAlike_37 (fun hz37 => ?_)
        refine lv_icmp_ne (tgt := 66) hx hb dX8_areCountsAlike_40 (by decide) (fun c5 => ?_) (fun c5 => ?_)
        · have hf := ite_f hf c5
          refine lv_iconst (v := 0) hx hb dX8_areCountsAlike_66 (by decide) ?_
          cases hf
          have hf := hrt _ rfl
          exact e_Pz hC hr hlocks hf rfl dX8_areCountsAlike_67
        · have hf := ite_t hf c5
          refine lv_aload_n hx hb dX8_areCountsAlike_43 rfl (lv_at hl 0 rfl) ?_
          refine gX8_32 hC hP 0 rfl (v := .ref (ad 25)) rfl dX8_areCountsAlike_44 ?_
          refine lv_iload_n hx hb dX8_areCountsAlike_47 rfl (lv_at hl 1 rfl) ?_
          refine lv_iconst (v := 0) hx hb dX8_areCountsAlike_48 (by decide) ?_
          refine lv_iload_n hx hb dX8_areCountsAlike_49 rfl (lv_at hl 2 rfl) ?_
          obtain ⟨t6, ht6, hf⟩ := ob hf
          refine k_PVi hC LX8_143 ⟨Nat.le_of_ble_eq_true rfl, Nat.le_of_ble_eq_true rfl⟩ ⟨Nat.zero_le _, Nat.zero_le _⟩ (cR_ahead l E (fun j => ad (25 + j)) q0_rows.1 q0_rows.2.1 q0_rows.2.2.1 q0_rows.2.2.2.1 q0_rows.2.2.2.2.1 q0_rows.2.2.2.2.2 a1 (0 : Int32) a2 t6 ht6) rfl rfl (ss_rows hP) rfl rfl hl.1 rfl (Nat.le_of_ble_eq_true rfl) rfl dX8_areCountsAlike_50 (fun hz50 => ?_)
          refine lv_aload_n hx hb dX8_areCountsAlike_53 rfl (lv_at hl 0 rfl) ?_
          refine gX8_32 hC hP 0 rfl (v := .ref (ad 25)) rfl dX8_areCountsAlike_54 ?_
          refine lv_iload_n hx hb dX8_areCountsAlike_57 rfl (lv_at hl 1 rfl) ?_
          refine lv_iconst (v := 0) hx hb dX8_areCountsAlike_58 (by decide) ?_
          refine lv_iload_n hx hb dX8_areCountsAlike_59 rfl (lv_at hl 2 rfl) ?_
          obtain ⟨t7, ht7, hf⟩ := ob hf
          refine k_PVi hC LX8_147 ⟨Nat.le_of_ble_eq_true rfl, Nat.le_of_ble_eq_true rfl⟩ ⟨Nat.zero_le _, Nat.zero_le _⟩ (cR_aheadOneByOne l E (fun j => ad (25 + j)) q0_rows.1 q0_rows.2.1 q0_rows.2.2.1 q0_rows.2.2.2.1 q0_rows.2.2.2.2.1 q0_rows.2.2.2.2.2 a1 (0 : Int32) a2 t7 ht7) rfl rfl (ss_rows hP) rfl rfl hl.1 rfl (Nat.le_of_ble_eq_true rfl) rfl dX8_areCountsAlike_60 (fun hz60 => ?_)
          refine lv_icmp_eq (tgt := 68) hx hb dX8_areCountsAlike_63 (by decide) (fun c8 => ?_) (fun c8 => ?_)
          · have hf := ite_t hf c8
            refine lv_iinc (v := (a2 + (8 : Int32))) (lv' := [(2, .int (a2 + (8 : Int32))), (0, .ref (ad 0)), (1, .int a1)]) hx hb dX8_areCountsAlike_68 hl (k := 2) rfl rfl (by decide) rfl (fun ls hl => ?_)
            refine lv_goto (tgt := 9) hx hb dX8_areCountsAlike_71 (by decide) ?_
            exact ih a1 (a2 + (8 : Int32)) ls (lv_sub hl [1, 2, 0] rfl) _ hf hrt hk
          · have hf := ite_f hf c8
            refine lv_iconst (v := 0) hx hb dX8_areCountsAlike_66 (by decide) ?_
            cases hf
            have hf := hrt _ rfl
            exact e_Pz hC hr hlocks hf rfl dX8_areCountsAlike_67
  have L2 : ∀ (n : Nat) (a1 : Int32) (ls : Array Slot), lv_has ls 3 [(0, .ref (ad 0)), (1, .int a1)] → fS_areCountsAlike_2 n q0_letters q0_rows a1 = some r → W p l e rmS_areCountsAlike s m args below meth c s.heap [] 0 0 (MQ below (qP (some .boolean) (some (.int r))) args s 0 0 (fun _ => False)) (F0 m 2 ls []) := by
    intro n
    induction n with
    | zero => intro a1 ls hl hf; cases hf
    | succ n ih =>
      intro a1 ls hl hf
      rw [fS_areCountsAlike_2] at hf
      refine lv_iload_n hx hb dX8_areCountsAlike_2 rfl (lv_at hl 1 rfl) ?_
      refine lv_iconst (v := 5) hx hb dX8_areCountsAlike_3 (by decide) ?_
      refine lv_icmp_ge (tgt := 80) hx hb dX8_areCountsAlike_4 (by decide) (fun c1 => ?_) (fun c1 => ?_)
      · have hf := ite_t hf c1
        refine lv_iconst (v := 1) hx hb dX8_areCountsAlike_80 (by decide) ?_
        have hf := Option.some.inj hf
        exact e_Pz hC hr hlocks hf rfl dX8_areCountsAlike_81
      · have hf := ite_f hf c1
        refine lv_iconst (v := 0) hx hb dX8_areCountsAlike_7 (by decide) ?_
        refine lv_istore_n (lv' := [(2, .int (0 : Int32)), (0, .ref (ad 0)), (1, .int a1)]) hx hb dX8_areCountsAlike_8 rfl hl (by decide) rfl (fun ls hl => ?_)
        obtain ⟨o9, ho9, hf⟩ := ob hf
        refine L9 FU a1 (0 : Int32) ls (lv_sub hl [1, 2, 0] rfl) o9 ho9 (fun r9 e9 => by subst e9; exact Option.some.inj hf) (fun o9x e9 ls hl => ?_)
        subst e9
        have hf := sum_r hf
        refine lv_iinc (v := (a1 + (1 : Int32))) (lv' := [(1, .int (a1 + (1 : Int32))), (0, .ref (ad 0))]) hx hb dX8_areCountsAlike_74 hl (k := 1) rfl rfl (by decide) rfl (fun ls hl => ?_)
        refine lv_goto (tgt := 2) hx hb dX8_areCountsAlike_77 (by decide) ?_
        exact ih (a1 + (1 : Int32)) ls (lv_sub hl [1, 0] rfl) hf
  rw [fS_areCountsAlike] at hf
  refine lv_iconst (v := 0) hx hb dX8_areCountsAlike_0 (by decide) ?_
  refine lv_istore_n (lv' := [(1, .int (0 : Int32)), (0, .ref (ad 0))]) hx hb dX8_areCountsAlike_1 rfl hl (by decide) rfl (fun ls hl => ?_)
  exact L2 FU (0 : Int32) ls (lv_sub hl [1, 0] rfl) hf
abbrev rmS_areSizesAlike : Room := { frames := 4, cells := 0, slots := 0, locals := 102 }
set_option maxHeartbeats 4000000 in
set_option maxRecDepth 100000 in
theorem cS_areSizesAlike (l : Launch) (E : eE) (ad : Nat → Nat) (q0_letters : TL) (q0_trial : TL) (q0_snapshot : TL) (q0_isSaved : Int32) (q0_past : TP) (q0_rows : TR) (q0_bags : TB) (q0_tally : TY) (q0_sizes : TZ) (q0_text : TT) (q0_line : TN) (q0_latestReason : Int32) (q0_latestDetail : Int32) (t : Int32 × TZ) (hf : fS_areSizesAlike q0_letters q0_rows q0_sizes = some t) : cW l E yX8_areSizesAlike cX8_areSizesAlike 3 (some .boolean) rmS_areSizesAlike [.ref (ad 0)] (wS E ad q0_letters q0_trial q0_snapshot q0_isSaved q0_past q0_rows q0_bags q0_tally q0_sizes q0_text q0_line q0_latestReason q0_latestDetail) (some (.int t.1)) (wS E ad q0_letters q0_trial q0_snapshot q0_isSaved q0_past q0_rows q0_bags q0_tally t.2 q0_text q0_line q0_latestReason q0_latestDetail) := by
  refine Met.ofW (cc := cX8_areSizesAlike) (maxL := 3) (ret := (some .boolean)) (by decide) rfl ?_
  intro p e s m args below meth c s₁ B hml hv
  obtain ⟨hargs, hP, hK, hD0⟩ := hv
  have hx := B.exec
  have hb := B.bytes
  have hr := B.returns
  have hts := atoms_spec (ws := ws_ yX8_areSizesAlike cX8_areSizesAlike 3 (some .boolean)) B.pre
  have hta : ∀ w ∈ lw_all, w.before args s = true := fun w h => hts w (List.mem_cons_of_mem _ h)
  have hown : s.vm.findClass RX8 = some m.cls := findClass_of_methodNamed B.named
  have hlocks := B.notSynchronized
  have hC : Cx p s m args c cX8_areSizesAlike 3 RX8 E := ⟨hx, hb, hml, hown, hta, hK⟩
  have hH : Hp E (adr (wS E ad q0_letters q0_trial q0_snapshot q0_isSaved q0_past q0_rows q0_bags q0_tally q0_sizes q0_text q0_line q0_latestReason q0_latestDetail)) (wS E ad q0_letters q0_trial q0_snapshot q0_isSaved q0_past q0_rows q0_bags q0_tally q0_sizes q0_text q0_line q0_latestReason q0_latestDetail) s.heap s.heap [] := Hp.start hP hD0
  obtain ⟨ls, he, hl⟩ := entry_ (m := m) (n := 3) hargs (Nat.le_of_ble_eq_true rfl)
  rw [he]
  have hl : lv_has ls 3 [(0, .ref (ad 0))] := hl
  show W p l e rmS_areSizesAlike s m args below meth c s.heap [] 0 0 (MQ below (qW E (some .boolean) (some (.int t.1)) (wS E ad q0_letters q0_trial q0_snapshot q0_isSaved q0_past q0_rows q0_bags q0_tally q0_sizes q0_text q0_line q0_latestReason q0_latestDetail) (wS E ad q0_letters q0_trial q0_snapshot q0_isSaved q0_past q0_rows q0_bags q0_tally t.2 q0_text q0_line q0_latestReason q0_latestDetail)) args s 0 0 (adr (wS E ad q0_letters q0_trial q0_snapshot q0_isSaved q0_past q0_rows q0_bags q0_tally q0_sizes q0_text q0_line q0_latestReason q0_latestDetail))) (F0 m 0 ls [])
  suffices hmain : ∀ (H : Heap) (locs : List Loc), Hp E (adr (wS E ad q0_letters q0_trial q0_snapshot q0_isSaved q0_past q0_rows q0_bags q0_tally q0_sizes q0_text q0_line q0_latestReason q0_latestDetail)) (wS E ad q0_letters q0_trial q0_snapshot q0_isSaved q0_past q0_rows q0_bags q0_tally q0_sizes q0_text q0_line q0_latestReason q0_latestDetail) s.heap H locs → W p l e rmS_areSizesAlike s m args below meth c H locs 0 0 (MQ below (qW E (some .boolean) (some (.int t.1)) (wS E ad q0_letters q0_trial q0_snapshot q0_isSaved q0_past q0_rows q0_bags q0_tally q0_sizes q0_text q0_line q0_latestReason q0_latestDetail) (wS E ad q0_letters q0_trial q0_snapshot q0_isSaved q0_past q0_rows q0_bags q0_tally t.2 q0_text q0_line q0_latestReason q0_latestDetail)) args s 0 0 (adr (wS E ad q0_letters q0_trial q0_snapshot q0_isSaved q0_past q0_rows q0_bags q0_tally q0_sizes q0_text q0_line q0_latestReason q0_latestDetail))) (F0 m 0 ls []) from hmain _ _ hH
  clear hH
  have L23 : ∀ (n : Nat) (y0_8 : TZ) (a1 : Int32) (a2 : Int32) (ls : Array Slot), lv_has ls 3 [(0, .ref (ad 0)), (1, .int a1), (2, .int a2)] → ∀ (H : Heap) (locs : List Loc), Hp E (adr (wS E ad q0_letters q0_trial q0_snapshot q0_isSaved q0_past q0_rows q0_bags q0_tally q0_sizes q0_text q0_line q0_latestReason q0_latestDetail)) (wS E ad q0_letters q0_trial q0_snapshot q0_isSaved q0_past q0_rows q0_bags q0_tally y0_8 q0_text q0_line q0_latestReason q0_latestDetail) s.heap H locs → fS_areSizesAlike_23 n q0_letters q0_rows y0_8 a1 a2 = some t → W p l e rmS_areSizesAlike s m args below meth c H locs 0 0 (MQ below (qW E (some .boolean) (some (.int t.1)) (wS E ad q0_letters q0_trial q0_snapshot q0_isSaved q0_past q0_rows q0_bags q0_tally q0_sizes q0_text q0_line q0_latestReason q0_latestDetail) (wS E ad q0_letters q0_trial q0_snapshot q0_isSaved q0_past q0_rows q0_bags q0_tally t.2 q0_text q0_line q0_latestReason q0_latestDetail)) args s 0 0 (adr (wS E ad q0_letters q0_trial q0_snapshot q0_isSaved q0_past q0_rows q0_bags q0_tally q0_sizes q0_text q0_line q0_latestReason q0_latestDetail))) (F0 m 23 ls []) := by
    intro n
    induction n with
    | zero => intro y0_8 a1 a2 ls hl H locs hH hf; cases hf
    | succ n ih =>
      intro y0_8 a1 a2 ls hl H locs hH hf
      rw [fS_areSizesAlike_23] at hf
      refine lv_iload_n hx hb dX8_areSizesAlike_23 rfl (lv_at hl 2 rfl) ?_
      refine lv_iload_n hx hb dX8_areSizesAlike_24 rfl (lv_at hl 1 rfl) ?_
      refine lv_icmp_ge (tgt := 57) hx hb dX8_areSizesAlike_25 (by decide) (fun c2 => ?_) (fun c2 => ?_)
      · have hf := ite_t hf c2
        refine lv_iconst (v := 1) hx hb dX8_areSizesAlike_57 (by decide) ?_
        have hf := Option.some.inj hf
        subst hf
        exact e_Wz hC hH hr hlocks rfl rfl rfl dX8_areSizesAlike_58
      · have hf := ite_f hf c2
        refine lv_aload_n hx hb dX8_areSizesAlike_28 rfl (lv_at hl 0 rfl) ?_
        refine gX8_53 hC hH.1 0 rfl (v := .ref (ad 41)) rfl dX8_areSizesAlike_29 ?_
        refine lv_iload_n hx hb dX8_areSizesAlike_32 rfl (lv_at hl 2 rfl) ?_
        obtain ⟨t3, ht3, hf⟩ := ob hf
        refine k_PVi hC LX8_168 ⟨Nat.le_of_ble_eq_true rfl, Nat.le_of_ble_eq_true rfl⟩ ⟨Nat.zero_le _, Nat.zero_le _⟩ (cZ_at l E (fun j => ad (41 + j)) y0_8.1 y0_8.2 a2 t3 ht3) rfl rfl (ss_sizes hH.1) rfl rfl hl.1 rfl (Nat.le_of_ble_eq_true rfl) rfl dX8_areSizesAlike_33 (fun hz33 => ?_)
        refine lv_aload_n hx hb dX8_areSizesAlike_36 rfl (lv_at hl 0 rfl) ?_
        refine gX8_32 hC hH.1 0 rfl (v := .ref (ad 25)) rfl dX8_areSizesAlike_37 ?_
        refine lv_iconst (v := 0) hx hb dX8_areSizesAlike_40 (by decide) ?_
        refine lv_iload_n hx hb dX8_areSizesAlike_41 rfl (lv_at hl 1 rfl) ?_
        refine lv_iload_n hx hb dX8_areSizesAlike_42 rfl (lv_at hl 2 rfl) ?_
        obtain ⟨t4, ht4, hf⟩ := ob hf
        refine k_PVi hC LX8_160 ⟨Nat.le_of_ble_eq_true rfl, Nat.le_of_ble_eq_true rfl⟩ ⟨Nat.zero_le _, Nat.zero_le _⟩ (cR_weightBySize l E (fun j => ad (25 + j)) q0_rows.1 q0_rows.2.1 q0_rows.2.2.1 q0_rows.2.2.2.1 q0_rows.2.2.2.2.1 q0_rows.2.2.2.2.2 (0 : Int32) a1 a2 t4 ht4) rfl rfl (ss_rows hH.1) rfl rfl hl.1 rfl (Nat.le_of_ble_eq_true rfl) rfl dX8_areSizesAlike_43 (fun hz43 => ?_)
        refine lv_icmp_eq (tgt := 51) hx hb dX8_areSizesAlike_46 (by decide) (fun c5 => ?_) (fun c5 => ?_)
        · have hf := ite_t hf c5
          refine lv_iinc (v := (a2 + (1 : Int32))) (lv' := [(2, .int (a2 + (1 : Int32))), (0, .ref (ad 0)), (1, .int a1)]) hx hb dX8_areSizesAlike_51 hl (k := 2) rfl rfl (by decide) rfl (fun ls hl => ?_)
          refine lv_goto (tgt := 23) hx hb dX8_areSizesAlike_54 (by decide) ?_
          exact ih y0_8 a1 (a2 + (1 : Int32)) ls (lv_sub hl [1, 2, 0] rfl) _ _ hH hf
        · have hf := ite_f hf c5
          refine lv_iconst (v := 0) hx hb dX8_areSizesAlike_49 (by decide) ?_
          have hf := Option.some.inj hf
          subst hf
          exact e_Wz hC hH hr hlocks rfl rfl rfl dX8_areSizesAlike_50
  intro H locs hH
  rw [fS_areSizesAlike] at hf
  refine lv_aload_n hx hb dX8_areSizesAlike_0 rfl (lv_at hl 0 rfl) ?_
  refine gX8_10 hC hH.1 0 rfl (v := .ref (ad 1)) rfl dX8_areSizesAlike_1 ?_
  refine k_PVi hC LX8_87 ⟨Nat.le_of_ble_eq_true rfl, Nat.le_of_ble_eq_true rfl⟩ ⟨Nat.zero_le _, Nat.zero_le _⟩ (cL_size l E (fun j => ad (1 + j)) q0_letters.1 q0_letters.2.1 q0_letters.2.2.1 q0_letters.2.2.2.1 q0_letters.2.2.2.2.1 q0_letters.2.2.2.2.2 _ rfl) rfl rfl (ss_letters hH.1) rfl rfl hl.1 rfl (Nat.le_of_ble_eq_true rfl) rfl dX8_areSizesAlike_4 (fun hz4 => ?_)
  refine lv_istore_n (lv' := [(1, .int (fL_size q0_letters.2.1)), (0, .ref (ad 0))]) hx hb dX8_areSizesAlike_7 rfl hl (by decide) rfl (fun ls hl => ?_)
  refine lv_aload_n hx hb dX8_areSizesAlike_8 rfl (lv_at hl 1 rfl) ?_
  refine gX8_53 hC hH.1 0 rfl (v := .ref (ad 41)) rfl dX8_areSizesAlike_9 ?_
  refine lv_aload_n hx hb dX8_areSizesAlike_12 rfl (lv_at hl 1 rfl) ?_
  refine gX8_10 hC hH.1 0 rfl (v := .ref (ad 1)) rfl dX8_areSizesAlike_13 ?_
  refine lv_iconst (v := 0) hx hb dX8_areSizesAlike_16 (by decide) ?_
  refine lv_iload_n hx hb dX8_areSizesAlike_17 rfl (lv_at hl 0 rfl) ?_
  obtain ⟨t1, ht1, hf⟩ := ob hf
  refine k_WVpv hC LX8_164 ⟨Nat.le_of_ble_eq_true rfl, Nat.le_of_ble_eq_true rfl⟩ ⟨Nat.zero_le _, Nat.zero_le _⟩ (cZ_fill l E (fun j => ad (41 + j)) q0_sizes.1 q0_sizes.2 (fun j => ad (1 + j)) q0_letters.1 q0_letters.2.1 q0_letters.2.2.1 q0_letters.2.2.2.1 q0_letters.2.2.2.2.1 q0_letters.2.2.2.2.2 (0 : Int32) (fL_size q0_letters.2.1) t1 ht1) rfl rfl hH (W1 := wS E ad q0_letters q0_trial q0_snapshot q0_isSaved q0_past q0_rows q0_bags q0_tally (t1.1, t1.2) q0_text q0_line q0_latestReason q0_latestDetail) (sp_sizes_letters E ad q0_letters q0_trial q0_snapshot q0_isSaved q0_past q0_rows q0_bags q0_tally q0_sizes q0_text q0_line q0_latestReason q0_latestDetail) (sq_sizes_letters E ad q0_letters q0_trial q0_snapshot q0_isSaved q0_past q0_rows q0_bags q0_tally q0_sizes q0_text q0_line q0_latestReason q0_latestDetail t1.1 t1.2 q0_letters.1 q0_letters.2.1 q0_letters.2.2.1 q0_letters.2.2.2.1 q0_letters.2.2.2.2.1 q0_letters.2.2.2.2.2) rfl rfl rfl hl.1 rfl (Nat.le_of_ble_eq_true rfl) rfl dX8_areSizesAlike_18 (fun H locs hz18 hH => ?_)
  refine lv_iconst (v := 0) hx hb dX8_areSizesAlike_21 (by decide) ?_
  refine lv_istore_n (lv' := [(2, .int (0 : Int32)), (1, .int (fL_size q0_letters.2.1)), (0, .ref (ad 0))]) hx hb dX8_areSizesAlike_22 rfl hl (by decide) rfl (fun ls hl => ?_)
  exact L23 FU (t1.1, t1.2) (fL_size q0_letters.2.1) (0 : Int32) ls (lv_sub hl [2, 1, 0] rfl) _ _ hH hf
abbrev rmS_lettersOfBags : Room := { frames := 2, cells := 0, slots := 0, locals := 42 }
set_option maxHeartbeats 4000000 in
set_option maxRecDepth 100000 in
theorem cS_lettersOfBags (l : Launch) (E : eE) (ad : Nat → Nat) (q0_letters : TL) (q0_trial : TL) (q0_snapshot : TL) (q0_isSaved : Int32) (q0_past : TP) (q0_rows : TR) (q0_bags : TB) (q0_tally : TY) (q0_sizes : TZ) (q0_text : TT) (q0_line : TN) (q0_latestReason : Int32) (q0_latestDetail : Int32) (r : Int32) (hf : fS_lettersOfBags q0_bags = some r) : cP l E yX8_lettersOfBags cX8_lettersOfBags 3 (some .int) rmS_lettersOfBags [.ref (ad 0)] (wS E ad q0_letters q0_trial q0_snapshot q0_isSaved q0_past q0_rows q0_bags q0_tally q0_sizes q0_text q0_line q0_latestReason q0_latestDetail) (some (.int r)) := by
  refine Met.ofW (cc := cX8_lettersOfBags) (maxL := 3) (ret := (some .int)) (by decide) rfl ?_
  intro p e s m args below meth c s₁ B hml hv
  obtain ⟨hargs, hP, hK⟩ := hv
  have hx := B.exec
  have hb := B.bytes
  have hr := B.returns
  have hts := atoms_spec (ws := ws_ yX8_lettersOfBags cX8_lettersOfBags 3 (some .int)) B.pre
  have hta : ∀ w ∈ lw_all, w.before args s = true := fun w h => hts w (List.mem_cons_of_mem _ h)
  have hown : s.vm.findClass RX8 = some m.cls := findClass_of_methodNamed B.named
  have hlocks := B.notSynchronized
  have hC : Cx p s m args c cX8_lettersOfBags 3 RX8 E := ⟨hx, hb, hml, hown, hta, hK⟩
  obtain ⟨ls, he, hl⟩ := entry_ (m := m) (n := 3) hargs (Nat.le_of_ble_eq_true rfl)
  rw [he]
  have hl : lv_has ls 3 [(0, .ref (ad 0))] := hl
  show W p l e rmS_lettersOfBags s m args below meth c s.heap [] 0 0 (MQ below (qP (some .int) (some (.int r))) args s 0 0 (fun _ => False)) (F0 m 0 ls [])
  have L4 : ∀ (n : Nat) (a1 : Int32) (a2 : Int32) (ls : Array Slot), lv_has ls 3 [(0, .ref (ad 0)), (1, .int a1), (2, .int a2)] → fS_lettersOfBags_4 n q0_bags a1 a2 = some r → W p l e rmS_lettersOfBags s m args below meth c s.heap [] 0 0 (MQ below (qP (some .int) (some (.int r))) args s 0 0 (fun _ => False)) (F0 m 4 ls []) := by
    intro n
    induction n with
    | zero => intro a1 a2 ls hl hf; cases hf
    | succ n ih =>
      intro a1 a2 ls hl hf
      rw [fS_lettersOfBags_4] at hf
      refine lv_iload_n hx hb dX8_lettersOfBags_4 rfl (lv_at hl 2 rfl) ?_
      refine lv_aload_n hx hb dX8_lettersOfBags_5 rfl (lv_at hl 0 rfl) ?_
      refine gX8_39 hC hP 0 rfl (v := .ref (ad 36)) rfl dX8_lettersOfBags_6 ?_
      refine k_PVi hC LX8_185 ⟨Nat.le_of_ble_eq_true rfl, Nat.le_of_ble_eq_true rfl⟩ ⟨Nat.zero_le _, Nat.zero_le _⟩ (cB_number l E (fun j => ad (36 + j)) q0_bags.1 q0_bags.2.1 q0_bags.2.2.1 q0_bags.2.2.2 _ rfl) rfl rfl (ss_bags hP) rfl rfl hl.1 rfl (Nat.le_of_ble_eq_true rfl) rfl dX8_lettersOfBags_9 (fun hz9 => ?_)
      refine lv_icmp_ge (tgt := 41) hx hb dX8_lettersOfBags_12 (by decide) (fun c1 => ?_) (fun c1 => ?_)
      · have hf := ite_t hf c1
        refine lv_iload_n hx hb dX8_lettersOfBags_41 rfl (lv_at hl 1 rfl) ?_
        have hf := Option.some.inj hf
        exact e_Pi hC hr hlocks hf dX8_lettersOfBags_42
      · have hf := ite_f hf c1
        refine lv_iload_n hx hb dX8_lettersOfBags_15 rfl (lv_at hl 1 rfl) ?_
        refine lv_aload_n hx hb dX8_lettersOfBags_16 rfl (lv_at hl 0 rfl) ?_
        refine gX8_39 hC hP 0 rfl (v := .ref (ad 36)) rfl dX8_lettersOfBags_17 ?_
        refine lv_iload_n hx hb dX8_lettersOfBags_20 rfl (lv_at hl 2 rfl) ?_
        obtain ⟨t2, ht2, hf⟩ := ob hf
        refine k_PVi hC LX8_191 ⟨Nat.le_of_ble_eq_true rfl, Nat.le_of_ble_eq_true rfl⟩ ⟨Nat.zero_le _, Nat.zero_le _⟩ (cB_endOf l E (fun j => ad (36 + j)) q0_bags.1 q0_bags.2.1 q0_bags.2.2.1 q0_bags.2.2.2 a2 t2 ht2) rfl rfl (ss_bags hP) rfl rfl hl.1 rfl (Nat.le_of_ble_eq_true rfl) rfl dX8_lettersOfBags_21 (fun hz21 => ?_)
        refine lv_aload_n hx hb dX8_lettersOfBags_24 rfl (lv_at hl 0 rfl) ?_
        refine gX8_39 hC hP 0 rfl (v := .ref (ad 36)) rfl dX8_lettersOfBags_25 ?_
        refine lv_iload_n hx hb dX8_lettersOfBags_28 rfl (lv_at hl 2 rfl) ?_
        obtain ⟨t3, ht3, hf⟩ := ob hf
        refine k_PVi hC LX8_188 ⟨Nat.le_of_ble_eq_true rfl, Nat.le_of_ble_eq_true rfl⟩ ⟨Nat.zero_le _, Nat.zero_le _⟩ (cB_beginOf l E (fun j => ad (36 + j)) q0_bags.1 q0_bags.2.1 q0_bags.2.2.1 q0_bags.2.2.2 a2 t3 ht3) rfl rfl (ss_bags hP) rfl rfl hl.1 rfl (Nat.le_of_ble_eq_true rfl) rfl dX8_lettersOfBags_29 (fun hz29 => ?_)
        refine lv_isub hx hb dX8_lettersOfBags_32 ?_
        refine lv_iadd hx hb dX8_lettersOfBags_33 ?_
        refine lv_istore_n (lv' := [(1, .int (a1 + (t2 - t3))), (0, .ref (ad 0)), (2, .int a2)]) hx hb dX8_lettersOfBags_34 rfl hl (by decide) rfl (fun ls hl => ?_)
        refine lv_iinc (v := (a2 + (1 : Int32))) (lv' := [(2, .int (a2 + (1 : Int32))), (1, .int (a1 + (t2 - t3))), (0, .ref (ad 0))]) hx hb dX8_lettersOfBags_35 hl (k := 2) rfl rfl (by decide) rfl (fun ls hl => ?_)
        refine lv_goto (tgt := 4) hx hb dX8_lettersOfBags_38 (by decide) ?_
        exact ih (a1 + (t2 - t3)) (a2 + (1 : Int32)) ls (lv_sub hl [2, 1, 0] rfl) hf
  rw [fS_lettersOfBags] at hf
  refine lv_iconst (v := 0) hx hb dX8_lettersOfBags_0 (by decide) ?_
  refine lv_istore_n (lv' := [(1, .int (0 : Int32)), (0, .ref (ad 0))]) hx hb dX8_lettersOfBags_1 rfl hl (by decide) rfl (fun ls hl => ?_)
  refine lv_iconst (v := 0) hx hb dX8_lettersOfBags_2 (by decide) ?_
  refine lv_istore_n (lv' := [(2, .int (0 : Int32)), (1, .int (0 : Int32)), (0, .ref (ad 0))]) hx hb dX8_lettersOfBags_3 rfl hl (by decide) rfl (fun ls hl => ?_)
  exact L4 FU (0 : Int32) (0 : Int32) ls (lv_sub hl [2, 1, 0] rfl) hf
