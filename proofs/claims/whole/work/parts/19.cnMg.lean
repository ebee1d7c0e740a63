abbrev rmM_isAhead : Room := { frames := 5, cells := 0, slots := 0, locals := 108 }
set_option maxHeartbeats 4000000 in
set_option maxRecDepth 100000 in
theorem cM_isAhead (l : Launch) (E : eE) (ad : Nat → Nat) (q0_why : Int32) (q0_detail : Int32) (q0_reasonNow : Int32) (q0_detailNow : Int32) (q0_w : (Nat → Int32)) (q0_undos : (Nat → Int32)) (q0_savedRow : (Nat → Int32)) (q0_mind : (Nat → Int32)) (q0_changes : Int32) (q0_firstChange : Int32) (q0_isSaved : Int32) (q0_at : (Nat → Int32)) (q0_line : (Nat → Int32)) (q0_lineLength : Int32) (q0_text : (Nat → Int32)) (q0_length : Int32) (q0_next : Int32) (q0_numbers : (Nat → Int32)) (q0_sort : Int32) (q0_done : Int32) (a1 : Int32) (a2 : Int32) (r : Int32) (hf : fM_isAhead q0_w a1 a2 = some r) : cP l E yX9_isAhead cX9_isAhead 3 (some .boolean) rmM_isAhead [.ref (ad 0), .int a1, .int a2] (wM E ad q0_why q0_detail q0_reasonNow q0_detailNow q0_w q0_undos q0_savedRow q0_mind q0_changes q0_firstChange q0_isSaved q0_at q0_line q0_lineLength q0_text q0_length q0_next q0_numbers q0_sort q0_done) (some (.int r)) := by
  refine Met.ofW (cc := cX9_isAhead) (maxL := 3) (ret := (some .boolean)) (by decide) rfl ?_
  intro p e s m args below meth c s₁ B hml hv
  obtain ⟨hargs, hP, hK⟩ := hv
  have hx := B.exec
  have hb := B.bytes
  have hr := B.returns
  have hts := atoms_spec (ws := ws_ yX9_isAhead cX9_isAhead 3 (some .boolean)) B.pre
  have hta : ∀ w ∈ lw_all, w.before args s = true := fun w h => hts w (List.mem_cons_of_mem _ h)
  have hown : s.vm.findClass RX9 = some m.cls := findClass_of_methodNamed B.named
  have hlocks := B.notSynchronized
  have hC : Cx p s m args c cX9_isAhead 3 RX9 E := ⟨hx, hb, hml, hown, hta, hK⟩
  obtain ⟨ls, he, hl⟩ := entry_ (m := m) (n := 3) hargs (Nat.le_of_ble_eq_true rfl)
  rw [he]
  have hl : lv_has ls 3 [(0, .ref (ad 0)), (1, .int a1), (2, .int a2)] := hl
  show W p l e rmM_isAhead s m args below meth c s.heap [] 0 0 (MQ below (qP (some .boolean) (some (.int r))) args s 0 0 (fun _ => False)) (F0 m 0 ls [])
  rw [fM_isAhead] at hf
  refine lv_aload_n hx hb dX9_isAhead_0 rfl (lv_at hl 0 rfl) ?_
  refine lv_iload_n hx hb dX9_isAhead_1 rfl (lv_at hl 1 rfl) ?_
  obtain ⟨t1, ht1, hf⟩ := ob hf
  refine k_PVi hC LX9_179 ⟨Nat.le_of_ble_eq_true rfl, Nat.le_of_ble_eq_true rfl⟩ ⟨Nat.zero_le _, Nat.zero_le _⟩ (cM_sumOf l E ad q0_why q0_detail q0_reasonNow q0_detailNow q0_w q0_undos q0_savedRow q0_mind q0_changes q0_firstChange q0_isSaved q0_at q0_line q0_lineLength q0_text q0_length q0_next q0_numbers q0_sort q0_done a1 t1 ht1) rfl rfl hP rfl rfl hl.1 rfl (Nat.le_of_ble_eq_true rfl) rfl dX9_isAhead_2 (fun hz2 => ?_)
  refine lv_aload_n hx hb dX9_isAhead_5 rfl (lv_at hl 0 rfl) ?_
  refine lv_iload_n hx hb dX9_isAhead_6 rfl (lv_at hl 2 rfl) ?_
  obtain ⟨t2, ht2, hf⟩ := ob hf
  refine k_PVi hC LX9_179 ⟨Nat.le_of_ble_eq_true rfl, Nat.le_of_ble_eq_true rfl⟩ ⟨Nat.zero_le _, Nat.zero_le _⟩ (cM_sumOf l E ad q0_why q0_detail q0_reasonNow q0_detailNow q0_w q0_undos q0_savedRow q0_mind q0_changes q0_firstChange q0_isSaved q0_at q0_line q0_lineLength q0_text q0_length q0_next q0_numbers q0_sort q0_done a2 t2 ht2) rfl rfl hP rfl rfl hl.1 rfl (Nat.le_of_ble_eq_true rfl) rfl dX9_isAhead_7 (fun hz7 => ?_)
  refine lv_icmp_eq (tgt := 32) hx hb dX9_isAhead_10 (by decide) (fun c3 => ?_) (fun c3 => ?_)
  · have hf := ite_t hf c3
    refine lv_aload_n hx hb dX9_isAhead_32 rfl (lv_at hl 0 rfl) ?_
    refine lv_iload_n hx hb dX9_isAhead_33 rfl (lv_at hl 1 rfl) ?_
    obtain ⟨t4, ht4, hf⟩ := ob hf
    refine k_PVi hC LX9_182 ⟨Nat.le_of_ble_eq_true rfl, Nat.le_of_ble_eq_true rfl⟩ ⟨Nat.zero_le _, Nat.zero_le _⟩ (cM_sizeOf l E ad q0_why q0_detail q0_reasonNow q0_detailNow q0_w q0_undos q0_savedRow q0_mind q0_changes q0_firstChange q0_isSaved q0_at q0_line q0_lineLength q0_text q0_length q0_next q0_numbers q0_sort q0_done a1 t4 ht4) rfl rfl hP rfl rfl hl.1 rfl (Nat.le_of_ble_eq_true rfl) rfl dX9_isAhead_34 (fun hz34 => ?_)
    refine lv_aload_n hx hb dX9_isAhead_37 rfl (lv_at hl 0 rfl) ?_
    refine lv_iload_n hx hb dX9_isAhead_38 rfl (lv_at hl 2 rfl) ?_
    obtain ⟨t5, ht5, hf⟩ := ob hf
    refine k_PVi hC LX9_182 ⟨Nat.le_of_ble_eq_true rfl, Nat.le_of_ble_eq_true rfl⟩ ⟨Nat.zero_le _, Nat.zero_le _⟩ (cM_sizeOf l E ad q0_why q0_detail q0_reasonNow q0_detailNow q0_w q0_undos q0_savedRow q0_mind q0_changes q0_firstChange q0_isSaved q0_at q0_line q0_lineLength q0_text q0_length q0_next q0_numbers q0_sort q0_done a2 t5 ht5) rfl rfl hP rfl rfl hl.1 rfl (Nat.le_of_ble_eq_true rfl) rfl dX9_isAhead_39 (fun hz39 => ?_)
    refine lv_icmp_eq (tgt := 66) hx hb dX9_isAhead_42 (by decide) (fun c6 => ?_) (fun c6 => ?_)
    · have hf := ite_t hf c6
      refine lv_iload_n hx hb dX9_isAhead_66 rfl (lv_at hl 1 rfl) ?_
      refine lv_iload_n hx hb dX9_isAhead_67 rfl (lv_at hl 2 rfl) ?_
      refine lv_icmp_ge (tgt := 75) hx hb dX9_isAhead_68 (by decide) (fun c7 => ?_) (fun c7 => ?_)
      · have hf := ite_t hf c7
        refine lv_iconst (v := 0) hx hb dX9_isAhead_75 (by decide) ?_
        have hf := Option.some.inj hf
        exact e_Pz hC hr hlocks hf rfl dX9_isAhead_76
      · have hf := ite_f hf c7
        refine lv_iconst (v := 1) hx hb dX9_isAhead_71 (by decide) ?_
        refine lv_goto (tgt := 76) hx hb dX9_isAhead_72 (by decide) ?_
        have hf := Option.some.inj hf
        exact e_Pz hC hr hlocks hf rfl dX9_isAhead_76
    · have hf := ite_f hf c6
      refine lv_aload_n hx hb dX9_isAhead_45 rfl (lv_at hl 0 rfl) ?_
      refine lv_iload_n hx hb dX9_isAhead_46 rfl (lv_at hl 1 rfl) ?_
      obtain ⟨t8, ht8, hf⟩ := ob hf
      refine k_PVi hC LX9_182 ⟨Nat.le_of_ble_eq_true rfl, Nat.le_of_ble_eq_true rfl⟩ ⟨Nat.zero_le _, Nat.zero_le _⟩ (cM_sizeOf l E ad q0_why q0_detail q0_reasonNow q0_detailNow q0_w q0_undos q0_savedRow q0_mind q0_changes q0_firstChange q0_isSaved q0_at q0_line q0_lineLength q0_text q0_length q0_next q0_numbers q0_sort q0_done a1 t8 ht8) rfl rfl hP rfl rfl hl.1 rfl (Nat.le_of_ble_eq_true rfl) rfl dX9_isAhead_47 (fun hz47 => ?_)
      refine lv_aload_n hx hb dX9_isAhead_50 rfl (lv_at hl 0 rfl) ?_
      refine lv_iload_n hx hb dX9_isAhead_51 rfl (lv_at hl 2 rfl) ?_
      obtain ⟨t9, ht9, hf⟩ := ob hf
      refine k_PVi hC LX9_182 ⟨Nat.le_of_ble_eq_true rfl, Nat.le_of_ble_eq_true rfl⟩ ⟨Nat.zero_le _, Nat.zero_le _⟩ (cM_sizeOf l E ad q0_why q0_detail q0_reasonNow q0_detailNow q0_w q0_undos q0_savedRow q0_mind q0_changes q0_firstChange q0_isSaved q0_at q0_line q0_lineLength q0_text q0_length q0_next q0_numbers q0_sort q0_done a2 t9 ht9) rfl rfl hP rfl rfl hl.1 rfl (Nat.le_of_ble_eq_true rfl) rfl dX9_isAhead_52 (fun hz52 => ?_)
      refine lv_icmp_ge (tgt := 62) hx hb dX9_isAhead_55 (by decide) (fun c10 => ?_) (fun c10 => ?_)
      · have hf := ite_t hf c10
        refine lv_iconst (v := 0) hx hb dX9_isAhead_62 (by decide) ?_
        refine lv_goto (tgt := 76) hx hb dX9_isAhead_63 (by decide) ?_
        have hf := Option.some.inj hf
        exact e_Pz hC hr hlocks hf rfl dX9_isAhead_76
      · have hf := ite_f hf c10
        refine lv_iconst (v := 1) hx hb dX9_isAhead_58 (by decide) ?_
        refine lv_goto (tgt := 76) hx hb dX9_isAhead_59 (by decide) ?_
        have hf := Option.some.inj hf
        exact e_Pz hC hr hlocks hf rfl dX9_isAhead_76
  · have hf := ite_f hf c3
    refine lv_aload_n hx hb dX9_isAhead_13 rfl (lv_at hl 0 rfl) ?_
    refine lv_iload_n hx hb dX9_isAhead_14 rfl (lv_at hl 1 rfl) ?_
    obtain ⟨t11, ht11, hf⟩ := ob hf
    refine k_PVi hC LX9_179 ⟨Nat.le_of_ble_eq_true rfl, Nat.le_of_ble_eq_true rfl⟩ ⟨Nat.zero_le _, Nat.zero_le _⟩ (cM_sumOf l E ad q0_why q0_detail q0_reasonNow q0_detailNow q0_w q0_undos q0_savedRow q0_mind q0_changes q0_firstChange q0_isSaved q0_at q0_line q0_lineLength q0_text q0_length q0_next q0_numbers q0_sort q0_done a1 t11 ht11) rfl rfl hP rfl rfl hl.1 rfl (Nat.le_of_ble_eq_true rfl) rfl dX9_isAhead_15 (fun hz15 => ?_)
    refine lv_aload_n hx hb dX9_isAhead_18 rfl (lv_at hl 0 rfl) ?_
    refine lv_iload_n hx hb dX9_isAhead_19 rfl (lv_at hl 2 rfl) ?_
    obtain ⟨t12, ht12, hf⟩ := ob hf
    refine k_PVi hC LX9_179 ⟨Nat.le_of_ble_eq_true rfl, Nat.le_of_ble_eq_true rfl⟩ ⟨Nat.zero_le _, Nat.zero_le _⟩ (cM_sumOf l E ad q0_why q0_detail q0_reasonNow q0_detailNow q0_w q0_undos q0_savedRow q0_mind q0_changes q0_firstChange q0_isSaved q0_at q0_line q0_lineLength q0_text q0_length q0_next q0_numbers q0_sort q0_done a2 t12 ht12) rfl rfl hP rfl rfl hl.1 rfl (Nat.le_of_ble_eq_true rfl) rfl dX9_isAhead_20 (fun hz20 => ?_)
    refine lv_icmp_le (tgt := 30) hx hb dX9_isAhead_23 (by decide) (fun c13 => ?_) (fun c13 => ?_)
    · have hf := ite_t hf c13
      refine lv_iconst (v := 0) hx hb dX9_isAhead_30 (by decide) ?_
      have hf := Option.some.inj hf
      exact e_Pz hC hr hlocks hf rfl dX9_isAhead_31
    · have hf := ite_f hf c13
      refine lv_iconst (v := 1) hx hb dX9_isAhead_26 (by decide) ?_
      refine lv_goto (tgt := 31) hx hb dX9_isAhead_27 (by decide) ?_
      have hf := Option.some.inj hf
      exact e_Pz hC hr hlocks hf rfl dX9_isAhead_31
abbrev rmM_ranked : Room := { frames := 6, cells := 0, slots := 0, locals := 130 }
set_option maxHeartbeats 4000000 in
set_option maxRecDepth 100000 in
theorem cM_ranked (l : Launch) (E : eE) (ad : Nat → Nat) (q0_why : Int32) (q0_detail : Int32) (q0_reasonNow : Int32) (q0_detailNow : Int32) (q0_w : (Nat → Int32)) (q0_undos : (Nat → Int32)) (q0_savedRow : (Nat → Int32)) (q0_mind : (Nat → Int32)) (q0_changes : Int32) (q0_firstChange : Int32) (q0_isSaved : Int32) (q0_at : (Nat → Int32)) (q0_line : (Nat → Int32)) (q0_lineLength : Int32) (q0_text : (Nat → Int32)) (q0_length : Int32) (q0_next : Int32) (q0_numbers : (Nat → Int32)) (q0_sort : Int32) (q0_done : Int32) (a1 : Int32) (r : Int32) (hf : fM_ranked q0_w a1 = some r) : cP l E yX9_ranked cX9_ranked 6 (some .int) rmM_ranked [.ref (ad 0), .int a1] (wM E ad q0_why q0_detail q0_reasonNow q0_detailNow q0_w q0_undos q0_savedRow q0_mind q0_changes q0_firstChange q0_isSaved q0_at q0_line q0_lineLength q0_text q0_length q0_next q0_numbers q0_sort q0_done) (some (.int r)) := by
  refine Met.ofW (cc := cX9_ranked) (maxL := 6) (ret := (some .int)) (by decide) rfl ?_
  intro p e s m args below meth c s₁ B hml hv
  obtain ⟨hargs, hP, hK⟩ := hv
  have hx := B.exec
  have hb := B.bytes
  have hr := B.returns
  have hts := atoms_spec (ws := ws_ yX9_ranked cX9_ranked 6 (some .int)) B.pre
  have hta : ∀ w ∈ lw_all, w.before args s = true := fun w h => hts w (List.mem_cons_of_mem _ h)
  have hown : s.vm.findClass RX9 = some m.cls := findClass_of_methodNamed B.named
  have hlocks := B.notSynchronized
  have hC : Cx p s m args c cX9_ranked 6 RX9 E := ⟨hx, hb, hml, hown, hta, hK⟩
  obtain ⟨ls, he, hl⟩ := entry_ (m := m) (n := 6) hargs (Nat.le_of_ble_eq_true rfl)
  rw [he]
  have hl : lv_has ls 6 [(0, .ref (ad 0)), (1, .int a1)] := hl
  show W p l e rmM_ranked s m args below meth c s.heap [] 0 0 (MQ below (qP (some .int) (some (.int r))) args s 0 0 (fun _ => False)) (F0 m 0 ls [])
  have L18 : ∀ (n : Nat) (a1 : Int32) (a2 : Int32) (a3 : Int32) (a4 : Int32) (a5 : Int32) (ls : Array Slot), lv_has ls 6 [(0, .ref (ad 0)), (1, .int a1), (2, .int a2), (3, .int a3), (4, .int a4), (5, .int a5)] → ∀ (o : Int32), fM_ranked_18 n q0_w a1 a2 a3 a4 a5 = some o → (∀ (ls : Array Slot), lv_has ls 6 [(0, .ref (ad 0)), (1, .int a1), (2, .int a2), (3, .int a3), (4, .int o)] → W p l e rmM_ranked s m args below meth c s.heap [] 0 0 (MQ below (qP (some .int) (some (.int r))) args s 0 0 (fun _ => False)) (F0 m 50 ls [])) → W p l e rmM_ranked s m args below meth c s.heap [] 0 0 (MQ below (qP (some .int) (some (.int r))) args s 0 0 (fun _ => False)) (F0 m 18 ls []) := by
    intro n
    induction n with
    | zero => intro a1 a2 a3 a4 a5 ls hl o hf hk; cases hf
    | succ n ih =>
      intro a1 a2 a3 a4 a5 ls hl o hf hk
      rw [fM_ranked_18] at hf
      refine lv_iload hx hb dX9_ranked_18 (lv_at hl 5 rfl) ?_
      refine lv_iload_n hx hb dX9_ranked_20 rfl (lv_at hl 2 rfl) ?_
      refine lv_icmp_ge (tgt := 50) hx hb dX9_ranked_21 (by decide) (fun c3 => ?_) (fun c3 => ?_)
      · have hf := ite_t hf c3
        cases hf
        exact hk ls (lv_sub hl [0, 1, 2, 3, 4] rfl)
      · have hf := ite_f hf c3
        refine lv_iload hx hb dX9_ranked_24 (lv_at hl 4 rfl) ?_
        refine lv_aload_n hx hb dX9_ranked_26 rfl (lv_at hl 0 rfl) ?_
        refine lv_iload hx hb dX9_ranked_27 (lv_at hl 5 rfl) ?_
        refine lv_iload_n hx hb dX9_ranked_29 rfl (lv_at hl 3 rfl) ?_
        obtain ⟨t4, ht4, hf⟩ := ob hf
        refine k_PVi hC LX9_185 ⟨Nat.le_of_ble_eq_true rfl, Nat.le_of_ble_eq_true rfl⟩ ⟨Nat.zero_le _, Nat.zero_le _⟩ (cM_isAhead l E ad q0_why q0_detail q0_reasonNow q0_detailNow q0_w q0_undos q0_savedRow q0_mind q0_changes q0_firstChange q0_isSaved q0_at q0_line q0_lineLength q0_text q0_length q0_next q0_numbers q0_sort q0_done a5 a3 t4 ht4) rfl rfl hP rfl rfl hl.1 rfl (Nat.le_of_ble_eq_true rfl) rfl dX9_ranked_30 (fun hz30 => ?_)
        refine lv_if_eq (tgt := 40) hx hb dX9_ranked_33 (by decide) (fun c5 => ?_) (fun c5 => ?_)
        · have hf := ite_t hf c5
          refine lv_iconst (v := 0) hx hb dX9_ranked_40 (by decide) ?_
          refine lv_iadd hx hb dX9_ranked_41 ?_
          refine lv_istore (lv' := [(4, .int (a4 + (0 : Int32))), (0, .ref (ad 0)), (1, .int a1), (2, .int a2), (3, .int a3), (5, .int a5)]) hx hb dX9_ranked_42 hl (by decide) rfl (fun ls hl => ?_)
          refine lv_iinc (v := (a5 + (1 : Int32))) (lv' := [(5, .int (a5 + (1 : Int32))), (4, .int (a4 + (0 : Int32))), (0, .ref (ad 0)), (1, .int a1), (2, .int a2), (3, .int a3)]) hx hb dX9_ranked_44 hl (k := 5) rfl rfl (by decide) rfl (fun ls hl => ?_)
          refine lv_goto (tgt := 18) hx hb dX9_ranked_47 (by decide) ?_
          exact ih a1 a2 a3 (a4 + (0 : Int32)) (a5 + (1 : Int32)) ls (lv_sub hl [2, 3, 4, 5, 1, 0] rfl) _ hf hk
        · have hf := ite_f hf c5
          refine lv_iconst (v := 1) hx hb dX9_ranked_36 (by decide) ?_
          refine lv_goto (tgt := 41) hx hb dX9_ranked_37 (by decide) ?_
          refine lv_iadd hx hb dX9_ranked_41 ?_
          refine lv_istore (lv' := [(4, .int (a4 + (1 : Int32))), (0, .ref (ad 0)), (1, .int a1), (2, .int a2), (3, .int a3), (5, .int a5)]) hx hb dX9_ranked_42 hl (by decide) rfl (fun ls hl => ?_)
          refine lv_iinc (v := (a5 + (1 : Int32))) (lv' := [(5, .int (a5 + (1 : Int32))), (4, .int (a4 + (1 : Int32))), (0, .ref (ad 0)), (1, .int a1), (2, .int a2), (3, .int a3)]) hx hb dX9_ranked_44 hl (k := 5) rfl rfl (by decide) rfl (fun ls hl => ?_)
          refine lv_goto (tgt := 18) hx hb dX9_ranked_47 (by decide) ?_
          exact ih a1 a2 a3 (a4 + (1 : Int32)) (a5 + (1 : Int32)) ls (lv_sub hl [2, 3, 4, 5, 1, 0] rfl) _ hf hk
  have L7 : ∀ (n : Nat) (a1 : Int32) (a2 : Int32) (a3 : Int32) (ls : Array Slot), lv_has ls 6 [(0, .ref (ad 0)), (1, .int a1), (2, .int a2), (3, .int a3)] → fM_ranked_7 n q0_w a1 a2 a3 = some r → W p l e rmM_ranked s m args below meth c s.heap [] 0 0 (MQ below (qP (some .int) (some (.int r))) args s 0 0 (fun _ => False)) (F0 m 7 ls []) := by
    intro n
    induction n with
    | zero => intro a1 a2 a3 ls hl hf; cases hf
    | succ n ih =>
      intro a1 a2 a3 ls hl hf
      rw [fM_ranked_7] at hf
      refine lv_iload_n hx hb dX9_ranked_7 rfl (lv_at hl 3 rfl) ?_
      refine lv_iload_n hx hb dX9_ranked_8 rfl (lv_at hl 2 rfl) ?_
      refine lv_icmp_ge (tgt := 64) hx hb dX9_ranked_9 (by decide) (fun c2 => ?_) (fun c2 => ?_)
      · have hf := ite_t hf c2
        refine lv_bipush (v := (-11)) hx hb dX9_ranked_64 (by decide) ?_
        have hf := Option.some.inj hf
        exact e_Pi hC hr hlocks hf dX9_ranked_66
      · have hf := ite_f hf c2
        refine lv_iconst (v := 0) hx hb dX9_ranked_12 (by decide) ?_
        refine lv_istore (lv' := [(4, .int (0 : Int32)), (0, .ref (ad 0)), (1, .int a1), (2, .int a2), (3, .int a3)]) hx hb dX9_ranked_13 hl (by decide) rfl (fun ls hl => ?_)
        refine lv_iconst (v := 0) hx hb dX9_ranked_15 (by decide) ?_
        refine lv_istore (lv' := [(5, .int (0 : Int32)), (4, .int (0 : Int32)), (0, .ref (ad 0)), (1, .int a1), (2, .int a2), (3, .int a3)]) hx hb dX9_ranked_16 hl (by decide) rfl (fun ls hl => ?_)
        obtain ⟨o6, ho6, hf⟩ := ob hf
        refine L18 FU a1 a2 a3 (0 : Int32) (0 : Int32) ls (lv_sub hl [2, 3, 4, 5, 1, 0] rfl) o6 ho6 (fun ls hl => ?_)
        refine lv_iload hx hb dX9_ranked_50 (lv_at hl 4 rfl) ?_
        refine lv_iload_n hx hb dX9_ranked_52 rfl (lv_at hl 1 rfl) ?_
        refine lv_icmp_ne (tgt := 58) hx hb dX9_ranked_53 (by decide) (fun c7 => ?_) (fun c7 => ?_)
        · have hf := ite_f hf c7
          refine lv_iinc (v := (a3 + (1 : Int32))) (lv' := [(3, .int (a3 + (1 : Int32))), (0, .ref (ad 0)), (1, .int a1), (2, .int a2), (4, .int o6)]) hx hb dX9_ranked_58 hl (k := 3) rfl rfl (by decide) rfl (fun ls hl => ?_)
          refine lv_goto (tgt := 7) hx hb dX9_ranked_61 (by decide) ?_
          exact ih a1 a2 (a3 + (1 : Int32)) ls (lv_sub hl [1, 2, 3, 0] rfl) hf
        · have hf := ite_t hf c7
          refine lv_iload_n hx hb dX9_ranked_56 rfl (lv_at hl 3 rfl) ?_
          have hf := Option.some.inj hf
          exact e_Pi hC hr hlocks hf dX9_ranked_57
  rw [fM_ranked] at hf
  refine lv_aload_n hx hb dX9_ranked_0 rfl (lv_at hl 0 rfl) ?_
  obtain ⟨t1, ht1, hf⟩ := ob hf
  refine k_PVi hC LX9_164 ⟨Nat.le_of_ble_eq_true rfl, Nat.le_of_ble_eq_true rfl⟩ ⟨Nat.zero_le _, Nat.zero_le _⟩ (cM_bags l E ad q0_why q0_detail q0_reasonNow q0_detailNow q0_w q0_undos q0_savedRow q0_mind q0_changes q0_firstChange q0_isSaved q0_at q0_line q0_lineLength q0_text q0_length q0_next q0_numbers q0_sort q0_done t1 ht1) rfl rfl hP rfl rfl hl.1 rfl (Nat.le_of_ble_eq_true rfl) rfl dX9_ranked_1 (fun hz1 => ?_)
  refine lv_istore_n (lv' := [(2, .int t1), (0, .ref (ad 0)), (1, .int a1)]) hx hb dX9_ranked_4 rfl hl (by decide) rfl (fun ls hl => ?_)
  refine lv_iconst (v := 0) hx hb dX9_ranked_5 (by decide) ?_
  refine lv_istore_n (lv' := [(3, .int (0 : Int32)), (2, .int t1), (0, .ref (ad 0)), (1, .int a1)]) hx hb dX9_ranked_6 rfl hl (by decide) rfl (fun ls hl => ?_)
  exact L7 FU a1 t1 (0 : Int32) ls (lv_sub hl [2, 3, 1, 0] rfl) hf
abbrev rmM_writes : Room := { frames := 0, cells := 0, slots := 0, locals := 0 }
set_option maxHeartbeats 4000000 in
set_option maxRecDepth 100000 in
theorem cM_writes (l : Launch) (E : eE) (ad : Nat → Nat) (q0_why : Int32) (q0_detail : Int32) (q0_reasonNow : Int32) (q0_detailNow : Int32) (q0_w : (Nat → Int32)) (q0_undos : (Nat → Int32)) (q0_savedRow : (Nat → Int32)) (q0_mind : (Nat → Int32)) (q0_changes : Int32) (q0_firstChange : Int32) (q0_isSaved : Int32) (q0_at : (Nat → Int32)) (q0_line : (Nat → Int32)) (q0_lineLength : Int32) (q0_text : (Nat → Int32)) (q0_length : Int32) (q0_next : Int32) (q0_numbers : (Nat → Int32)) (q0_sort : Int32) (q0_done : Int32) (a1 : Int32) (t : (Nat → Int32) × Int32) (hf : fM_writes q0_line q0_lineLength a1 = some t) : cW l E yX9_writes cX9_writes 2 none rmM_writes [.ref (ad 0), .int a1] (wM E ad q0_why q0_detail q0_reasonNow q0_detailNow q0_w q0_undos q0_savedRow q0_mind q0_changes q0_firstChange q0_isSaved q0_at q0_line q0_lineLength q0_text q0_length q0_next q0_numbers q0_sort q0_done) none (wM E ad q0_why q0_detail q0_reasonNow q0_detailNow q0_w q0_undos q0_savedRow q0_mind q0_changes q0_firstChange q0_isSaved q0_at t.1 t.2 q0_text q0_length q0_next q0_numbers q0_sort q0_done) := by
  refine Met.ofW (cc := cX9_writes) (maxL := 2) (ret := none) (by decide) rfl ?_
  intro p e s m args below meth c s₁ B hml hv
  obtain ⟨hargs, hP, hK, hD0⟩ := hv
  have hx := B.exec
  have hb := B.bytes
  have hr := B.returns
  have hts := atoms_spec (ws := ws_ yX9_writes cX9_writes 2 none) B.pre
  have hta : ∀ w ∈ lw_all, w.before args s = true := fun w h => hts w (List.mem_cons_of_mem _ h)
  have hown : s.vm.findClass RX9 = some m.cls := findClass_of_methodNamed B.named
  have hlocks := B.notSynchronized
  have hC : Cx p s m args c cX9_writes 2 RX9 E := ⟨hx, hb, hml, hown, hta, hK⟩
  have hH : Hp E (adr (wM E ad q0_why q0_detail q0_reasonNow q0_detailNow q0_w q0_undos q0_savedRow q0_mind q0_changes q0_firstChange q0_isSaved q0_at q0_line q0_lineLength q0_text q0_length q0_next q0_numbers q0_sort q0_done)) (wM E ad q0_why q0_detail q0_reasonNow q0_detailNow q0_w q0_undos q0_savedRow q0_mind q0_changes q0_firstChange q0_isSaved q0_at q0_line q0_lineLength q0_text q0_length q0_next q0_numbers q0_sort q0_done) s.heap s.heap [] := Hp.start hP hD0
  obtain ⟨ls, he, hl⟩ := entry_ (m := m) (n := 2) hargs (Nat.le_of_ble_eq_true rfl)
  rw [he]
  have hl : lv_has ls 2 [(0, .ref (ad 0)), (1, .int a1)] := hl
  show W p l e rmM_writes s m args below meth c s.heap [] 0 0 (MQ below (qW E none none (wM E ad q0_why q0_detail q0_reasonNow q0_detailNow q0_w q0_undos q0_savedRow q0_mind q0_changes q0_firstChange q0_isSaved q0_at q0_line q0_lineLength q0_text q0_length q0_next q0_numbers q0_sort q0_done) (wM E ad q0_why q0_detail q0_reasonNow q0_detailNow q0_w q0_undos q0_savedRow q0_mind q0_changes q0_firstChange q0_isSaved q0_at t.1 t.2 q0_text q0_length q0_next q0_numbers q0_sort q0_done)) args s 0 0 (adr (wM E ad q0_why q0_detail q0_reasonNow q0_detailNow q0_w q0_undos q0_savedRow q0_mind q0_changes q0_firstChange q0_isSaved q0_at q0_line q0_lineLength q0_text q0_length q0_next q0_numbers q0_sort q0_done))) (F0 m 0 ls [])
  suffices hmain : ∀ (H : Heap) (locs : List Loc), Hp E (adr (wM E ad q0_why q0_detail q0_reasonNow q0_detailNow q0_w q0_undos q0_savedRow q0_mind q0_changes q0_firstChange q0_isSaved q0_at q0_line q0_lineLength q0_text q0_length q0_next q0_numbers q0_sort q0_done)) (wM E ad q0_why q0_detail q0_reasonNow q0_detailNow q0_w q0_undos q0_savedRow q0_mind q0_changes q0_firstChange q0_isSaved q0_at q0_line q0_lineLength q0_text q0_length q0_next q0_numbers q0_sort q0_done) s.heap H locs → W p l e rmM_writes s m args below meth c H locs 0 0 (MQ below (qW E none none (wM E ad q0_why q0_detail q0_reasonNow q0_detailNow q0_w q0_undos q0_savedRow q0_mind q0_changes q0_firstChange q0_isSaved q0_at q0_line q0_lineLength q0_text q0_length q0_next q0_numbers q0_sort q0_done) (wM E ad q0_why q0_detail q0_reasonNow q0_detailNow q0_w q0_undos q0_savedRow q0_mind q0_changes q0_firstChange q0_isSaved q0_at t.1 t.2 q0_text q0_length q0_next q0_numbers q0_sort q0_done)) args s 0 0 (adr (wM E ad q0_why q0_detail q0_reasonNow q0_detailNow q0_w q0_undos q0_savedRow q0_mind q0_changes q0_firstChange q0_isSaved q0_at q0_line q0_lineLength q0_text q0_length q0_next q0_numbers q0_sort q0_done))) (F0 m 0 ls []) from hmain _ _ hH
  clear hH
  intro H locs hH
  rw [fM_writes] at hf
  refine lv_aload_n hx hb dX9_writes_0 rfl (lv_at hl 0 rfl) ?_
  refine gX9_25 hC hH.1 0 rfl (v := .ref (ad 6)) rfl dX9_writes_1 ?_
  refine lv_aload_n hx hb dX9_writes_4 rfl (lv_at hl 0 rfl) ?_
  refine gX9_188 hC hH.1 0 rfl (v := .int q0_lineLength) rfl dX9_writes_5 ?_
  refine lv_iload_n hx hb dX9_writes_8 rfl (lv_at hl 1 rfl) ?_
  refine lv_i2c hx hb dX9_writes_9 rfl ?_
  obtain ⟨g1, hg1, hf⟩ := ob hf
  obtain ⟨hg1a, hg1b⟩ := stA_ok hg1
  refine a_cst hC hH 6 rfl hg1a hg1b (W1 := wM E ad q0_why q0_detail q0_reasonNow q0_detailNow q0_w q0_undos q0_savedRow q0_mind q0_changes q0_firstChange q0_isSaved q0_at g1 q0_lineLength q0_text q0_length q0_next q0_numbers q0_sort q0_done) rfl dX9_writes_10 (pk_vc _) (fun H locs hH => ?_)
  refine lv_aload_n hx hb dX9_writes_11 rfl (lv_at hl 0 rfl) ?_
  refine lv_dup hx hb dX9_writes_12 rfl ?_
  refine gX9_188 hC hH.1 0 rfl (v := .int q0_lineLength) rfl dX9_writes_13 ?_
  refine lv_iconst (v := 1) hx hb dX9_writes_16 (by decide) ?_
  refine lv_iadd hx hb dX9_writes_17 ?_
  refine pX9_188 hC hH 0 rfl (v := .int (q0_lineLength + (1 : Int32))) rfl rfl (Nat.le_of_ble_eq_true rfl) (W1 := wM E ad q0_why q0_detail q0_reasonNow q0_detailNow q0_w q0_undos q0_savedRow q0_mind q0_changes q0_firstChange q0_isSaved q0_at g1 (q0_lineLength + (1 : Int32)) q0_text q0_length q0_next q0_numbers q0_sort q0_done) rfl dX9_writes_18 (fun H locs hH => ?_)
  have hf := Option.some.inj hf
  subst hf
  exact e_Wv hC hH hr hlocks rfl dX9_writes_21
abbrev rmM_tell : Room := { frames := 2, cells := 0, slots := 0, locals := 42 }
set_option maxHeartbeats 4000000 in
set_option maxRecDepth 100000 in
theorem cM_tell (l : Launch) (E : eE) (ad : Nat → Nat) (q0_why : Int32) (q0_detail : Int32) (q0_reasonNow : Int32) (q0_detailNow : Int32) (q0_w : (Nat → Int32)) (q0_undos : (Nat → Int32)) (q0_savedRow : (Nat → Int32)) (q0_mind : (Nat → Int32)) (q0_changes : Int32) (q0_firstChange : Int32) (q0_isSaved : Int32) (q0_at : (Nat → Int32)) (q0_line : (Nat → Int32)) (q0_lineLength : Int32) (q0_text : (Nat → Int32)) (q0_length : Int32) (q0_next : Int32) (q0_numbers : (Nat → Int32)) (q0_sort : Int32) (q0_done : Int32) (t : Int32 × (Nat → Int32) × Int32) (hf : fM_tell q0_w q0_line q0_lineLength = some t) : cW l E yX9_tell cX9_tell 2 (some .int) rmM_tell [.ref (ad 0)] (wM E ad q0_why q0_detail q0_reasonNow q0_detailNow q0_w q0_undos q0_savedRow q0_mind q0_changes q0_firstChange q0_isSaved q0_at q0_line q0_lineLength q0_text q0_length q0_next q0_numbers q0_sort q0_done) (some (.int t.1)) (wM E ad q0_why q0_detail q0_reasonNow q0_detailNow q0_w q0_undos q0_savedRow q0_mind q0_changes q0_firstChange q0_isSaved q0_at t.2.1 t.2.2 q0_text q0_length q0_next q0_numbers q0_sort q0_done) := by
  refine Met.ofW (cc := cX9_tell) (maxL := 2) (ret := (some .int)) (by decide) rfl ?_
  intro p e s m args below meth c s₁ B hml hv
  obtain ⟨hargs, hP, hK, hD0⟩ := hv
  have hx := B.exec
  have hb := B.bytes
  have hr := B.returns
  have hts := atoms_spec (ws := ws_ yX9_tell cX9_tell 2 (some .int)) B.pre
  have hta : ∀ w ∈ lw_all, w.before args s = true := fun w h => hts w (List.mem_cons_of_mem _ h)
  have hown : s.vm.findClass RX9 = some m.cls := findClass_of_methodNamed B.named
  have hlocks := B.notSynchronized
  have hC : Cx p s m args c cX9_tell 2 RX9 E := ⟨hx, hb, hml, hown, hta, hK⟩
  have hH : Hp E (adr (wM E ad q0_why q0_detail q0_reasonNow q0_detailNow q0_w q0_undos q0_savedRow q0_mind q0_changes q0_firstChange q0_isSaved q0_at q0_line q0_lineLength q0_text q0_length q0_next q0_numbers q0_sort q0_done)) (wM E ad q0_why q0_detail q0_reasonNow q0_detailNow q0_w q0_undos q0_savedRow q0_mind q0_changes q0_firstChange q0_isSaved q0_at q0_line q0_lineLength q0_text q0_length q0_next q0_numbers q0_sort q0_done) s.heap s.heap [] := Hp.start hP hD0
  obtain ⟨ls, he, hl⟩ := entry_ (m := m) (n := 2) hargs (Nat.le_of_ble_eq_true rfl)
  rw [he]
  have hl : lv_has ls 2 [(0, .ref (ad 0))] := hl
  show W p l e rmM_tell s m args below meth c s.heap [] 0 0 (MQ below (qW E (some .int) (some (.int t.1)) (wM E ad q0_why q0_detail q0_reasonNow q0_detailNow q0_w q0_undos q0_savedRow q0_mind q0_changes q0_firstChange q0_isSaved q0_at q0_line q0_lineLength q0_text q0_length q0_next q0_numbers q0_sort q0_done) (wM E ad q0_why q0_detail q0_reasonNow q0_detailNow q0_w q0_undos q0_savedRow q0_mind q0_changes q0_firstChange q0_isSaved q0_at t.2.1 t.2.2 q0_text q0_length q0_next q0_numbers q0_sort q0_done)) args s 0 0 (adr (wM E ad q0_why q0_detail q0_reasonNow q0_detailNow q0_w q0_undos q0_savedRow q0_mind q0_changes q0_firstChange q0_isSaved q0_at q0_line q0_lineLength q0_text q0_length q0_next q0_numbers q0_sort q0_done))) (F0 m 0 ls [])
  suffices hmain : ∀ (H : Heap) (locs : List Loc), Hp E (adr (wM E ad q0_why q0_detail q0_reasonNow q0_detailNow q0_w q0_undos q0_savedRow q0_mind q0_changes q0_firstChange q0_isSaved q0_at q0_line q0_lineLength q0_text q0_length q0_next q0_numbers q0_sort q0_done)) (wM E ad q0_why q0_detail q0_reasonNow q0_detailNow q0_w q0_undos q0_savedRow q0_mind q0_changes q0_firstChange q0_isSaved q0_at q0_line q0_lineLength q0_text q0_length q0_next q0_numbers q0_sort q0_done) s.heap H locs → W p l e rmM_tell s m args below meth c H locs 0 0 (MQ below (qW E (some .int) (some (.int t.1)) (wM E ad q0_why q0_detail q0_reasonNow q0_detailNow q0_w q0_undos q0_savedRow q0_mind q0_changes q0_firstChange q0_isSaved q0_at q0_line q0_lineLength q0_text q0_length q0_next q0_numbers q0_sort q0_done) (wM E ad q0_why q0_detail q0_reasonNow q0_detailNow q0_w q0_undos q0_savedRow q0_mind q0_changes q0_firstChange q0_isSaved q0_at t.2.1 t.2.2 q0_text q0_length q0_next q0_numbers q0_sort q0_done)) args s 0 0 (adr (wM E ad q0_why q0_detail q0_reasonNow q0_detailNow q0_w q0_undos q0_savedRow q0_mind q0_changes q0_firstChange q0_isSaved q0_at q0_line q0_lineLength q0_text q0_length q0_next q0_numbers q0_sort q0_done))) (F0 m 0 ls []) from hmain _ _ hH
  clear hH
  have L7 : ∀ (n : Nat) (y0_12 : (Nat → Int32)) (y0_13 : Int32) (a1 : Int32) (ls : Array Slot), lv_has ls 2 [(0, .ref (ad 0)), (1, .int a1)] → ∀ (H : Heap) (locs : List Loc), Hp E (adr (wM E ad q0_why q0_detail q0_reasonNow q0_detailNow q0_w q0_undos q0_savedRow q0_mind q0_changes q0_firstChange q0_isSaved q0_at q0_line q0_lineLength q0_text q0_length q0_next q0_numbers q0_sort q0_done)) (wM E ad q0_why q0_detail q0_reasonNow q0_detailNow q0_w q0_undos q0_savedRow q0_mind q0_changes q0_firstChange q0_isSaved q0_at y0_12 y0_13 q0_text q0_length q0_next q0_numbers q0_sort q0_done) s.heap H locs → fM_tell_7 n q0_w y0_12 y0_13 a1 = some t → W p l e rmM_tell s m args below meth c H locs 0 0 (MQ below (qW E (some .int) (some (.int t.1)) (wM E ad q0_why q0_detail q0_reasonNow q0_detailNow q0_w q0_undos q0_savedRow q0_mind q0_changes q0_firstChange q0_isSaved q0_at q0_line q0_lineLength q0_text q0_length q0_next q0_numbers q0_sort q0_done) (wM E ad q0_why q0_detail q0_reasonNow q0_detailNow q0_w q0_undos q0_savedRow q0_mind q0_changes q0_firstChange q0_isSaved q0_at t.2.1 t.2.2 q0_text q0_length q0_next q0_numbers q0_sort q0_done)) args s 0 0 (adr (wM E ad q0_why q0_detail q0_reasonNow q0_detailNow q0_w q0_undos q0_savedRow q0_mind q0_changes q0_firstChange q0_isSaved q0_at q0_line q0_lineLength q0_text q0_length q0_next q0_numbers q0_sort q0_done))) (F0 m 7 ls []) := by
    intro n
    induction n with
    | zero => intro y0_12 y0_13 a1 ls hl H locs hH hf; cases hf
    | succ n ih =>
      intro y0_12 y0_13 a1 ls hl H locs hH hf
      rw [fM_tell_7] at hf
      refine lv_iload_n hx hb dX9_tell_7 rfl (lv_at hl 1 rfl) ?_
      refine lv_aload_n hx hb dX9_tell_8 rfl (lv_at hl 0 rfl) ?_
      refine gX9_7 hC hH.1 0 rfl (v := .ref (ad 1)) rfl dX9_tell_9 ?_
      refine lv_iconst (v := 0) hx hb dX9_tell_12 (by decide) ?_
      obtain ⟨v1, hv1, hf⟩ := ob hf
      obtain ⟨hv1a, hv1b⟩ := ldA_ok hv1
      refine a_ild hC hH.1 1 rfl hv1a hv1b dX9_tell_13 ?_
      refine lv_icmp_ge (tgt := 77) hx hb dX9_tell_14 (by decide) (fun c2 => ?_) (fun c2 => ?_)
      · have hf := ite_t hf c2
        refine lv_aload_n hx hb dX9_tell_77 rfl (lv_at hl 0 rfl) ?_
        refine gX9_188 hC hH.1 0 rfl (v := .int y0_13) rfl dX9_tell_78 ?_
        have hf := Option.some.inj hf
        subst hf
        exact e_Wi hC hH hr hlocks rfl rfl dX9_tell_81
      · have hf := ite_f hf c2
        refine lv_iload_n hx hb dX9_tell_17 rfl (lv_at hl 1 rfl) ?_
        refine lv_if_le (tgt := 35) hx hb dX9_tell_18 (by decide) (fun c3 => ?_) (fun c3 => ?_)
        · have hf := ite_t hf c3
          refine lv_aload_n hx hb dX9_tell_35 rfl (lv_at hl 0 rfl) ?_
          refine lv_aload_n hx hb dX9_tell_36 rfl (lv_at hl 0 rfl) ?_
          refine lv_iload_n hx hb dX9_tell_37 rfl (lv_at hl 1 rfl) ?_
          obtain ⟨t4, ht4, hf⟩ := ob hf
          refine k_PVi hC LX9_86 ⟨Nat.le_of_ble_eq_true rfl, Nat.le_of_ble_eq_true rfl⟩ ⟨Nat.zero_le _, Nat.zero_le _⟩ (cM_is l E ad q0_why q0_detail q0_reasonNow q0_detailNow q0_w q0_undos q0_savedRow q0_mind q0_changes q0_firstChange q0_isSaved q0_at y0_12 y0_13 q0_text q0_length q0_next q0_numbers q0_sort q0_done a1 t4 ht4) rfl rfl hH.1 rfl rfl hl.1 rfl (Nat.le_of_ble_eq_true rfl) rfl dX9_tell_38 (fun hz38 => ?_)
          refine lv_bipush (v := 10) hx hb dX9_tell_41 (by decide) ?_
          refine lv_icmp_ge (tgt := 57) hx hb dX9_tell_43 (by decide) (fun c5 => ?_) (fun c5 => ?_)
          · have hf := ite_t hf c5
            refine lv_bipush (v := 97) hx hb dX9_tell_57 (by decide) ?_
            refine lv_aload_n hx hb dX9_tell_59 rfl (lv_at hl 0 rfl) ?_
            refine lv_iload_n hx hb dX9_tell_60 rfl (lv_at hl 1 rfl) ?_
            obtain ⟨t6, ht6, hf⟩ := ob hf
            refine k_PVi hC LX9_86 ⟨Nat.le_of_ble_eq_true rfl, Nat.le_of_ble_eq_true rfl⟩ ⟨Nat.zero_le _, Nat.zero_le _⟩ (cM_is l E ad q0_why q0_detail q0_reasonNow q0_detailNow q0_w q0_undos q0_savedRow q0_mind q0_changes q0_firstChange q0_isSaved q0_at y0_12 y0_13 q0_text q0_length q0_next q0_numbers q0_sort q0_done a1 t6 ht6) rfl rfl hH.1 rfl rfl hl.1 rfl (Nat.le_of_ble_eq_true rfl) rfl dX9_tell_61 (fun hz61 => ?_)
            refine lv_iadd hx hb dX9_tell_64 ?_
            refine lv_bipush (v := 10) hx hb dX9_tell_65 (by decide) ?_
            refine lv_isub hx hb dX9_tell_67 ?_
            obtain ⟨t7, ht7, hf⟩ := ob hf
            refine k_WVsv hC LX9_191 ⟨Nat.le_of_ble_eq_true rfl, Nat.le_of_ble_eq_true rfl⟩ ⟨Nat.zero_le _, Nat.zero_le _⟩ (cM_writes l E ad q0_why q0_detail q0_reasonNow q0_detailNow q0_w q0_undos q0_savedRow q0_mind q0_changes q0_firstChange q0_isSaved q0_at y0_12 y0_13 q0_text q0_length q0_next q0_numbers q0_sort q0_done (((97 : Int32) + t6) - (10 : Int32)) t7 ht7) rfl rfl hH rfl rfl rfl hl.1 rfl (Nat.le_of_ble_eq_true rfl) rfl dX9_tell_68 (fun H locs hz68 hH => ?_)
            have hH : Hp E (adr (wM E ad q0_why q0_detail q0_reasonNow q0_detailNow q0_w q0_undos q0_savedRow q0_mind q0_changes q0_firstChange q0_isSaved q0_at q0_line q0_lineLength q0_text q0_length q0_next q0_numbers q0_sort q0_done)) (wM E ad q0_why q0_detail q0_reasonNow q0_detailNow q0_w q0_undos q0_savedRow q0_mind q0_changes q0_firstChange q0_isSaved q0_at t7.1 t7.2 q0_text q0_length q0_next q0_numbers q0_sort q0_done) s.heap H locs := hH
            refine lv_iinc (v := (a1 + (1 : Int32))) (lv' := [(1, .int (a1 + (1 : Int32))), (0, .ref (ad 0))]) hx hb dX9_tell_71 hl (k := 1) rfl rfl (by decide) rfl (fun ls hl => ?_)
            refine lv_goto (tgt := 7) hx hb dX9_tell_74 (by decide) ?_
            exact ih t7.1 t7.2 (a1 + (1 : Int32)) ls (lv_sub hl [1, 0] rfl) _ _ hH hf
          · have hf := ite_f hf c5
            refine lv_bipush (v := 48) hx hb dX9_tell_46 (by decide) ?_
            refine lv_aload_n hx hb dX9_tell_48 rfl (lv_at hl 0 rfl) ?_
            refine lv_iload_n hx hb dX9_tell_49 rfl (lv_at hl 1 rfl) ?_
            obtain ⟨t8, ht8, hf⟩ := ob hf
            refine k_PVi hC LX9_86 ⟨Nat.le_of_ble_eq_true rfl, Nat.le_of_ble_eq_true rfl⟩ ⟨Nat.zero_le _, Nat.zero_le _⟩ (cM_is l E ad q0_why q0_detail q0_reasonNow q0_detailNow q0_w q0_undos q0_savedRow q0_mind q0_changes q0_firstChange q0_isSaved q0_at y0_12 y0_13 q0_text q0_length q0_next q0_numbers q0_sort q0_done a1 t8 ht8) rfl rfl hH.1 rfl rfl hl.1 rfl (Nat.le_of_ble_eq_true rfl) rfl dX9_tell_50 (fun hz50 => ?_)
            refine lv_iadd hx hb dX9_tell_53 ?_
            refine lv_goto (tgt := 68) hx hb dX9_tell_54 (by decide) ?_
            obtain ⟨t9, ht9, hf⟩ := ob hf
            refine k_WVsv hC LX9_191 ⟨Nat.le_of_ble_eq_true rfl, Nat.le_of_ble_eq_true rfl⟩ ⟨Nat.zero_le _, Nat.zero_le _⟩ (cM_writes l E ad q0_why q0_detail q0_reasonNow q0_detailNow q0_w q0_undos q0_savedRow q0_mind q0_changes q0_firstChange q0_isSaved q0_at y0_12 y0_13 q0_text q0_length q0_next q0_numbers q0_sort q0_done ((48 : Int32) + t8) t9 ht9) rfl rfl hH rfl rfl rfl hl.1 rfl (Nat.le_of_ble_eq_true rfl) rfl dX9_tell_68 (fun H locs hz68 hH => ?_)
            have hH : Hp E (adr (wM E ad q0_why q0_detail q0_reasonNow q0_detailNow q0_w q0_undos q0_savedRow q0_mind q0_changes q0_firstChange q0_isSaved q0_at q0_line q0_lineLength q0_text q0_length q0_next q0_numbers q0_sort q0_done)) (wM E ad q0_why q0_detail q0_reasonNow q0_detailNow q0_w q0_undos q0_savedRow q0_mind q0_changes q0_firstChange q0_isSaved q0_at t9.1 t9.2 q0_text q0_length q0_next q0_numbers q0_sort q0_done) s.heap H locs := hH
            refine lv_iinc (v := (a1 + (1 : Int32))) (lv' := [(1, .int (a1 + (1 : Int32))), (0, .ref (ad 0))]) hx hb dX9_tell_71 hl (k := 1) rfl rfl (by decide) rfl (fun ls hl => ?_)
            refine lv_goto (tgt := 7) hx hb dX9_tell_74 (by decide) ?_
            exact ih t9.1 t9.2 (a1 + (1 : Int32)) ls (lv_sub hl [1, 0] rfl) _ _ hH hf
        · have hf := ite_f hf c3
          refine lv_aload_n hx hb dX9_tell_21 rfl (lv_at hl 0 rfl) ?_
          refine lv_iload_n hx hb dX9_tell_22 rfl (lv_at hl 1 rfl) ?_
          obtain ⟨t10, ht10, hf⟩ := ob hf
          refine k_PVi hC LX9_115 ⟨Nat.le_of_ble_eq_true rfl, Nat.le_of_ble_eq_true rfl⟩ ⟨Nat.zero_le _, Nat.zero_le _⟩ (cM_begins l E ad q0_why q0_detail q0_reasonNow q0_detailNow q0_w q0_undos q0_savedRow q0_mind q0_changes q0_firstChange q0_isSaved q0_at y0_12 y0_13 q0_text q0_length q0_next q0_numbers q0_sort q0_done a1 t10 ht10) rfl rfl hH.1 rfl rfl hl.1 rfl (Nat.le_of_ble_eq_true rfl) rfl dX9_tell_23 (fun hz23 => ?_)
          refine lv_if_eq (tgt := 35) hx hb dX9_tell_26 (by decide) (fun c11 => ?_) (fun c11 => ?_)
          · have hf := ite_t hf c11
            refine lv_aload_n hx hb dX9_tell_35 rfl (lv_at hl 0 rfl) ?_
            refine lv_aload_n hx hb dX9_tell_36 rfl (lv_at hl 0 rfl) ?_
            refine lv_iload_n hx hb dX9_tell_37 rfl (lv_at hl 1 rfl) ?_
            obtain ⟨t12, ht12, hf⟩ := ob hf
            refine k_PVi hC LX9_86 ⟨Nat.le_of_ble_eq_true rfl, Nat.le_of_ble_eq_true rfl⟩ ⟨Nat.zero_le _, Nat.zero_le _⟩ (cM_is l E ad q0_why q0_detail q0_reasonNow q0_detailNow q0_w q0_undos q0_savedRow q0_mind q0_changes q0_firstChange q0_isSaved q0_at y0_12 y0_13 q0_text q0_length q0_next q0_numbers q0_sort q0_done a1 t12 ht12) rfl rfl hH.1 rfl rfl hl.1 rfl (Nat.le_of_ble_eq_true rfl) rfl dX9_tell_38 (fun hz38 => ?_)
            refine lv_bipush (v := 10) hx hb dX9_tell_41 (by decide) ?_
            refine lv_icmp_ge (tgt := 57) hx hb dX9_tell_43 (by decide) (fun c13 => ?_) (fun c13 => ?_)
            · have hf := ite_t hf c13
              refine lv_bipush (v := 97) hx hb dX9_tell_57 (by decide) ?_
              refine lv_aload_n hx hb dX9_tell_59 rfl (lv_at hl 0 rfl) ?_
              refine lv_iload_n hx hb dX9_tell_60 rfl (lv_at hl 1 rfl) ?_
              obtain ⟨t14, ht14, hf⟩ := ob hf
              refine k_PVi hC LX9_86 ⟨Nat.le_of_ble_eq_true rfl, Nat.le_of_ble_eq_true rfl⟩ ⟨Nat.zero_le _, Nat.zero_le _⟩ (cM_is l E ad q0_why q0_detail q0_reasonNow q0_detailNow q0_w q0_undos q0_savedRow q0_mind q0_changes q0_firstChange q0_isSaved q0_at y0_12 y0_13 q0_text q0_length q0_next q0_numbers q0_sort q0_done a1 t14 ht14) rfl rfl hH.1 rfl rfl hl.1 rfl (Nat.le_of_ble_eq_true rfl) rfl dX9_tell_61 (fun hz61 => ?_)
              refine lv_iadd hx hb dX9_tell_64 ?_
              refine lv_bipush (v := 10) hx hb dX9_tell_65 (by decide) ?_
              refine lv_isub hx hb dX9_tell_67 ?_
              obtain ⟨t15, ht15, hf⟩ := ob hf
              refine k_WVsv hC LX9_191 ⟨Nat.le_of_ble_eq_true rfl, Nat.le_of_ble_eq_true rfl⟩ ⟨Nat.zero_le _, Nat.zero_le _⟩ (cM_writes l E ad q0_why q0_detail q0_reasonNow q0_detailNow q0_w q0_undos q0_savedRow q0_mind q0_changes q0_firstChange q0_isSaved q0_at y0_12 y0_13 q0_text q0_length q0_next q0_numbers q0_sort q0_done (((97 : Int32) + t14) - (10 : Int32)) t15 ht15) rfl rfl hH rfl rfl rfl hl.1 rfl (Nat.le_of_ble_eq_true rfl) rfl dX9_tell_68 (fun H locs hz68 hH => ?_)
              have hH : Hp E (adr (wM E ad q0_why q0_detail q0_reasonNow q0_detailNow q0_w q0_undos q0_savedRow q0_mind q0_changes q0_firstChange q0_isSaved q0_at q0_line q0_lineLength q0_text q0_length q0_next q0_numbers q0_sort q0_done)) (wM E ad q0_why q0_detail q0_reasonNow q0_detailNow q0_w q0_undos q0_savedRow q0_mind q0_changes q0_firstChange q0_isSaved q0_at t15.1 t15.2 q0_text q0_length q0_next q0_numbers q0_sort q0_done) s.heap H locs := hH
              refine lv_iinc (v := (a1 + (1 : Int32))) (lv' := [(1, .int (a1 + (1 : Int32))), (0, .ref (ad 0))]) hx hb dX9_tell_71 hl (k := 1) rfl rfl (by decide) rfl (fun ls hl => ?_)
              refine lv_goto (tgt := 7) hx hb dX9_tell_74 (by decide) ?_
              exact ih t15.1 t15.2 (a1 + (1 : Int32)) ls (lv_sub hl [1, 0] rfl) _ _ hH hf
            · have hf := ite_f hf c13
              refine lv_bipush (v := 48) hx hb dX9_tell_46 (by decide) ?_
              refine lv_aload_n hx hb dX9_tell_48 rfl (lv_at hl 0 rfl) ?_
              refine lv_iload_n hx hb dX9_tell_49 rfl (lv_at hl 1 rfl) ?_
              obtain ⟨t16, ht16, hf⟩ := ob hf
              refine k_PVi hC LX9_86 ⟨Nat.le_of_ble_eq_true rfl, Nat.le_of_ble_eq_true rfl⟩ ⟨Nat.zero_le _, Nat.zero_le _⟩ (cM_is l E ad q0_why q0_detail q0_reasonNow q0_detailNow q0_w q0_undos q0_savedRow q0_mind q0_changes q0_firstChange q0_isSaved q0_at y0_12 y0_13 q0_text q0_length q0_next q0_numbers q0_sort q0_done a1 t16 ht16) rfl rfl hH.1 rfl rfl hl.1 rfl (Nat.le_of_ble_eq_true rfl) rfl dX9_tell_50 (fun hz50 => ?_)
              refine lv_iadd hx hb dX9_tell_53 ?_
              refine lv_goto (tgt := 68) hx hb dX9_tell_54 (by decide) ?_
              obtain ⟨t17, ht17, hf⟩ := ob hf
              refine k_WVsv hC LX9_191 ⟨Nat.le_of_ble_eq_true rfl, Nat.le_of_ble_eq_true rfl⟩ ⟨Nat.zero_le _, Nat.zero_le _⟩ (cM_writes l E ad q0_why q0_detail q0_reasonNow q0_detailNow q0_w q0_undos q0_savedRow q0_mind q0_changes q0_firstChange q0_isSaved q0_at y0_12 y0_13 q0_text q0_length q0_next q0_numbers q0_sort q0_done ((48 : Int32) + t16) t17 ht17) rfl rfl hH rfl rfl rfl hl.1 rfl (Nat.le_of_ble_eq_true rfl) rfl dX9_tell_68 (fun H locs hz68 hH => ?_)
              have hH : Hp E (adr (wM E ad q0_why q0_detail q0_reasonNow q0_detailNow q0_w q0_undos q0_savedRow q0_mind q0_changes q0_firstChange q0_isSaved q0_at q0_line q0_lineLength q0_text q0_length q0_next q0_numbers q0_sort q0_done)) (wM E ad q0_why q0_detail q0_reasonNow q0_detailNow q0_w q0_undos q0_savedRow q0_mind q0_changes q0_firstChange q0_isSaved q0_at t17.1 t17.2 q0_text q0_length q0_next q0_numbers q0_sort q0_done) s.heap H locs := hH
              refine lv_iinc (v := (a1 + (1 : Int32))) (lv' := [(1, .int (a1 + (1 : Int32))), (0, .ref (ad 0))]) hx hb dX9_tell_71 hl (k := 1) rfl rfl (by decide) rfl (fun ls hl => ?_)
              refine lv_goto (tgt := 7) hx hb dX9_tell_74 (by decide) ?_
              exact ih t17.1 t17.2 (a1 + (1 : Int32)) ls (lv_sub hl [1, 0] rfl) _ _ hH hf
          · have hf := ite_f hf c11
            refine lv_aload_n hx hb dX9_tell_29 rfl (lv_at hl 0 rfl) ?_
            refine lv_bipush (v := 124) hx hb dX9_tell_30 (by decide) ?_
            obtain ⟨t18, ht18, hf⟩ := ob hf
            refine k_WVsv hC LX9_191 ⟨Nat.le_of_ble_eq_true rfl, Nat.le_of_ble_eq_true rfl⟩ ⟨Nat.zero_le _, Nat.zero_le _⟩ (cM_writes l E ad q0_why q0_detail q0_reasonNow q0_detailNow q0_w q0_undos q0_savedRow q0_mind q0_changes q0_firstChange q0_isSaved q0_at y0_12 y0_13 q0_text q0_length q0_next q0_numbers q0_sort q0_done (124 : Int32) t18 ht18) rfl rfl hH rfl rfl rfl hl.1 rfl (Nat.le_of_ble_eq_true rfl) rfl dX9_tell_32 (fun H locs hz32 hH => ?_)
            have hH : Hp E (adr (wM E ad q0_why q0_detail q0_reasonNow q0_detailNow q0_w q0_undos q0_savedRow q0_mind q0_changes q0_firstChange q0_isSaved q0_at q0_line q0_lineLength q0_text q0_length q0_next q0_numbers q0_sort q0_done)) (wM E ad q0_why q0_detail q0_reasonNow q0_detailNow q0_w q0_undos q0_savedRow q0_mind q0_changes q0_firstChange q0_isSaved q0_at t18.1 t18.2 q0_text q0_length q0_next q0_numbers q0_sort q0_done) s.heap H locs := hH
            refine lv_aload_n hx hb dX9_tell_35 rfl (lv_at hl 0 rfl) ?_
            refine lv_aload_n hx hb dX9_tell_36 rfl (lv_at hl 0 rfl) ?_
            refine lv_iload_n hx hb dX9_tell_37 rfl (lv_at hl 1 rfl) ?_
            obtain ⟨t19, ht19, hf⟩ := ob hf
            refine k_PVi hC LX9_86 ⟨Nat.le_of_ble_eq_true rfl, Nat.le_of_ble_eq_true rfl⟩ ⟨Nat.zero_le _, Nat.zero_le _⟩ (cM_is l E ad q0_why q0_detail q0_reasonNow q0_detailNow q0_w q0_undos q0_savedRow q0_mind q0_changes q0_firstChange q0_isSaved q0_at t18.1 t18.2 q0_text q0_length q0_next q0_numbers q0_sort q0_done a1 t19 ht19) rfl rfl hH.1 rfl rfl hl.1 rfl (Nat.le_of_ble_eq_true rfl) rfl dX9_tell_38 (fun hz38 => ?_)
            refine lv_bipush (v := 10) hx hb dX9_tell_41 (by decide) ?_
            refine lv_icmp_ge (tgt := 57) hx hb dX9_tell_43 (by decide) (fun c20 => ?_) (fun c20 => ?_)
            · have hf := ite_t hf c20
              refine lv_bipush (v := 97) hx hb dX9_tell_57 (by decide) ?_
              refine lv_aload_n hx hb dX9_tell_59 rfl (lv_at hl 0 rfl) ?_
              refine lv_iload_n hx hb dX9_tell_60 rfl (lv_at hl 1 rfl) ?_
              obtain ⟨t21, ht21, hf⟩ := ob hf
              refine k_PVi hC LX9_86 ⟨Nat.le_of_ble_eq_true rfl, Nat.le_of_ble_eq_true rfl⟩ ⟨Nat.zero_le _, Nat.zero_le _⟩ (cM_is l E ad q0_why q0_detail q0_reasonNow q0_detailNow q0_w q0_undos q0_savedRow q0_mind q0_changes q0_firstChange q0_isSaved q0_at t18.1 t18.2 q0_text q0_length q0_next q0_numbers q0_sort q0_done a1 t21 ht21) rfl rfl hH.1 rfl rfl hl.1 rfl (Nat.le_of_ble_eq_true rfl) rfl dX9_tell_61 (fun hz61 => ?_)
              refine lv_iadd hx hb dX9_tell_64 ?_
              refine lv_bipush (v := 10) hx hb dX9_tell_65 (by decide) ?_
              refine lv_isub hx hb dX9_tell_67 ?_
              obtain ⟨t22, ht22, hf⟩ := ob hf
              refine k_WVsv hC LX9_191 ⟨Nat.le_of_ble_eq_true rfl, Nat.le_of_ble_eq_true rfl⟩ ⟨Nat.zero_le _, Nat.zero_le _⟩ (cM_writes l E ad q0_why q0_detail q0_reasonNow q0_detailNow q0_w q0_undos q0_savedRow q0_mind q0_changes q0_firstChange q0_isSaved q0_at t18.1 t18.2 q0_text q0_length q0_next q0_numbers q0_sort q0_done (((97 : Int32) + t21) - (10 : Int32)) t22 ht22) rfl rfl hH rfl rfl rfl hl.1 rfl (Nat.le_of_ble_eq_true rfl) rfl dX9_tell_68 (fun H locs hz68 hH => ?_)
              have hH : Hp E (adr (wM E ad q0_why q0_detail q0_reasonNow q0_detailNow q0_w q0_undos q0_savedRow q0_mind q0_changes q0_firstChange q0_isSaved q0_at q0_line q0_lineLength q0_text q0_length q0_next q0_numbers q0_sort q0_done)) (wM E ad q0_why q0_detail q0_reasonNow q0_detailNow q0_w q0_undos q0_savedRow q0_mind q0_changes q0_firstChange q0_isSaved q0_at t22.1 t22.2 q0_text q0_length q0_next q0_numbers q0_sort q0_done) s.heap H locs := hH
              refine lv_iinc (v := (a1 + (1 : Int32))) (lv' := [(1, .int (a1 + (1 : Int32))), (0, .ref (ad 0))]) hx hb dX9_tell_71 hl (k := 1) rfl rfl (by decide) rfl (fun ls hl => ?_)
              refine lv_goto (tgt := 7) hx hb dX9_tell_74 (by decide) ?_
              exact ih t22.1 t22.2 (a1 + (1 : Int32)) ls (lv_sub hl [1, 0] rfl) _ _ hH hf
            · have hf := ite_f hf c20
              refine lv_bipush (v := 48) hx hb dX9_tell_46 (by decide) ?_
              refine lv_aload_n hx hb dX9_tell_48 rfl (lv_at hl 0 rfl) ?_
              refine lv_iload_n hx hb dX9_tell_49 rfl (lv_at hl 1 rfl) ?_
              obtain ⟨t23, ht23, hf⟩ := ob hf
              refine k_PVi hC LX9_86 ⟨Nat.le_of_ble_eq_true rfl, Nat.le_of_ble_eq_true rfl⟩ ⟨Nat.zero_le _, Nat.zero_le _⟩ (cM_is l E ad q0_why q0_detail q0_reasonNow q0_detailNow q0_w q0_undos q0_savedRow q0_mind q0_changes q0_firstChange q0_isSaved q0_at t18.1 t18.2 q0_text q0_length q0_next q0_numbers q0_sort q0_done a1 t23 ht23) rfl rfl hH.1 rfl rfl hl.1 rfl (Nat.le_of_ble_eq_true rfl) rfl dX9_tell_50 (fun hz50 => ?_)
              refine lv_iadd hx hb dX9_tell_53 ?_
              refine lv_goto (tgt := 68) hx hb dX9_tell_54 (by decide) ?_
              obtain ⟨t24, ht24, hf⟩ := ob hf
              refine k_WVsv hC LX9_191 ⟨Nat.le_of_ble_eq_true rfl, Nat.le_of_ble_eq_true rfl⟩ ⟨Nat.zero_le _, Nat.zero_le _⟩ (cM_writes l E ad q0_why q0_detail q0_reasonNow q0_detailNow q0_w q0_undos q0_savedRow q0_mind q0_changes q0_firstChange q0_isSaved q0_at t18.1 t18.2 q0_text q0_length q0_next q0_numbers q0_sort q0_done ((48 : Int32) + t23) t24 ht24) rfl rfl hH rfl rfl rfl hl.1 rfl (Nat.le_of_ble_eq_true rfl) rfl dX9_tell_68 (fun H locs hz68 hH => ?_)
              have hH : Hp E (adr (wM E ad q0_why q0_detail q0_reasonNow q0_detailNow q0_w q0_undos q0_savedRow q0_mind q0_changes q0_firstChange q0_isSaved q0_at q0_line q0_lineLength q0_text q0_length q0_next q0_numbers q0_sort q0_done)) (wM E ad q0_why q0_detail q0_reasonNow q0_detailNow q0_w q0_undos q0_savedRow q0_mind q0_changes q0_firstChange q0_isSaved q0_at t24.1 t24.2 q0_text q0_length q0_next q0_numbers q0_sort q0_done) s.heap H locs := hH
              refine lv_iinc (v := (a1 + (1 : Int32))) (lv' := [(1, .int (a1 + (1 : Int32))), (0, .ref (ad 0))]) hx hb dX9_tell_71 hl (k := 1) rfl rfl (by decide) rfl (fun ls hl => ?_)
              refine lv_goto (tgt := 7) hx hb dX9_tell_74 (by decide) ?_
              exact ih t24.1 t24.2 (a1 + (1 : Int32)) ls (lv_sub hl [1, 0] rfl) _ _ hH hf
  intro H locs hH
  rw [fM_tell] at hf
  refine lv_aload_n hx hb dX9_tell_0 rfl (lv_at hl 0 rfl) ?_
  refine lv_iconst (v := 0) hx hb dX9_tell_1 (by decide) ?_
  refine pX9_188 hC hH 0 rfl (v := .int (0 : Int32)) rfl rfl (Nat.le_of_ble_eq_true rfl) (W1 := wM E ad q0_why q0_detail q0_reasonNow q0_detailNow q0_w q0_undos q0_savedRow q0_mind q0_changes q0_firstChange q0_isSaved q0_at q0_line (0 : Int32) q0_text q0_length q0_next q0_numbers q0_sort q0_done) rfl dX9_tell_2 (fun H locs hH => ?_)
  refine lv_iconst (v := 0) hx hb dX9_tell_5 (by decide) ?_
  refine lv_istore_n (lv' := [(1, .int (0 : Int32)), (0, .ref (ad 0))]) hx hb dX9_tell_6 rfl hl (by decide) rfl (fun ls hl => ?_)
  exact L7 FU q0_line (0 : Int32) (0 : Int32) ls (lv_sub hl [1, 0] rfl) _ _ hH hf
abbrev rmM_tellRow : Room := { frames := 2, cells := 0, slots := 0, locals := 47 }
set_option maxHeartbeats 4000000 in
set_option maxRecDepth 100000 in
theorem cM_tellRow (l : Launch) (E : eE) (ad : Nat → Nat) (q0_why : Int32) (q0_detail : Int32) (q0_reasonNow : Int32) (q0_detailNow : Int32) (q0_w : (Nat → Int32)) (q0_undos : (Nat → Int32)) (q0_savedRow : (Nat → Int32)) (q0_mind : (Nat → Int32)) (q0_changes : Int32) (q0_firstChange : Int32) (q0_isSaved : Int32) (q0_at : (Nat → Int32)) (q0_line : (Nat → Int32)) (q0_lineLength : Int32) (q0_text : (Nat → Int32)) (q0_length : Int32) (q0_next : Int32) (q0_numbers : (Nat → Int32)) (q0_sort : Int32) (q0_done : Int32) (a1 : Int32) (t : Int32 × (Nat → Int32) × (Nat → Int32) × Int32) (hf : fM_tellRow q0_w q0_at q0_line q0_lineLength a1 = some t) : cW l E yX9_tellRow cX9_tellRow 3 (some .int) rmM_tellRow [.ref (ad 0), .int a1] (wM E ad q0_why q0_detail q0_reasonNow q0_detailNow q0_w q0_undos q0_savedRow q0_mind q0_changes q0_firstChange q0_isSaved q0_at q0_line q0_lineLength q0_text q0_length q0_next q0_numbers q0_sort q0_done) (some (.int t.1)) (wM E ad q0_why q0_detail q0_reasonNow q0_detailNow q0_w q0_undos q0_savedRow q0_mind q0_changes q0_firstChange q0_isSaved t.2.1 t.2.2.1 t.2.2.2 q0_text q0_length q0_next q0_numbers q0_sort q0_done) := by
  refine Met.ofW (cc := cX9_tellRow) (maxL := 3) (ret := (some .int)) (by decide) rfl ?_
  intro p e s m args below meth c s₁ B hml hv
  obtain ⟨hargs, hP, hK, hD0⟩ := hv
  have hx := B.exec
  have hb := B.bytes
  have hr := B.returns
  have hts := atoms_spec (ws := ws_ yX9_tellRow cX9_tellRow 3 (some .int)) B.pre
  have hta : ∀ w ∈ lw_all, w.before args s = true := fun w h => hts w (List.mem_cons_of_mem _ h)
  have hown : s.vm.findClass RX9 = some m.cls := findClass_of_methodNamed B.named
  have hlocks := B.notSynchronized
  have hC : Cx p s m args c cX9_tellRow 3 RX9 E := ⟨hx, hb, hml, hown, hta, hK⟩
  have hH : Hp E (adr (wM E ad q0_why q0_detail q0_reasonNow q0_detailNow q0_w q0_undos q0_savedRow q0_mind q0_changes q0_firstChange q0_isSaved q0_at q0_line q0_lineLength q0_text q0_length q0_next q0_numbers q0_sort q0_done)) (wM E ad q0_why q0_detail q0_reasonNow q0_detailNow q0_w q0_undos q0_savedRow q0_mind q0_changes q0_firstChange q0_isSaved q0_at q0_line q0_lineLength q0_text q0_length q0_next q0_numbers q0_sort q0_done) s.heap s.heap [] := Hp.start hP hD0
  obtain ⟨ls, he, hl⟩ := entry_ (m := m) (n := 3) hargs (Nat.le_of_ble_eq_true rfl)
  rw [he]
  have hl : lv_has ls 3 [(0, .ref (ad 0)), (1, .int a1)] := hl
  show W p l e rmM_tellRow s m args below meth c s.heap [] 0 0 (MQ below (qW E (some .int) (some (.int t.1)) (wM E ad q0_why q0_detail q0_reasonNow q0_detailNow q0_w q0_undos q0_savedRow q0_mind q0_changes q0_firstChange q0_isSaved q0_at q0_line q0_lineLength q0_text q0_length q0_next q0_numbers q0_sort q0_done) (wM E ad q0_why q0_detail q0_reasonNow q0_detailNow q0_w q0_undos q0_savedRow q0_mind q0_changes q0_firstChange q0_isSaved t.2.1 t.2.2.1 t.2.2.2 q0_text q0_length q0_next q0_numbers q0_sort q0_done)) args s 0 0 (adr (wM E ad q0_why q0_detail q0_reasonNow q0_detailNow q0_w q0_undos q0_savedRow q0_mind q0_changes q0_firstChange q0_isSaved q0_at q0_line q0_lineLength q0_text q0_length q0_next q0_numbers q0_sort q0_done))) (F0 m 0 ls [])
  suffices hmain : ∀ (H : Heap) (locs : List Loc), Hp E (adr (wM E ad q0_why q0_detail q0_reasonNow q0_detailNow q0_w q0_undos q0_savedRow q0_mind q0_changes q0_firstChange q0_isSaved q0_at q0_line q0_lineLength q0_text q0_length q0_next q0_numbers q0_sort q0_done)) (wM E ad q0_why q0_detail q0_reasonNow q0_detailNow q0_w q0_undos q0_savedRow q0_mind q0_changes q0_firstChange q0_isSaved q0_at q0_line q0_lineLength q0_text q0_length q0_next q0_numbers q0_sort q0_done) s.heap H locs → W p l e rmM_tellRow s m args below meth c H locs 0 0 (MQ below (qW E (some .int) (some (.int t.1)) (wM E ad q0_why q0_detail q0_reasonNow q0_detailNow q0_w q0_undos q0_savedRow q0_mind q0_changes q0_firstChange q0_isSaved q0_at q0_line q0_lineLength q0_text q0_length q0_next q0_numbers q0_sort q0_done) (wM E ad q0_why q0_detail q0_reasonNow q0_detailNow q0_w q0_undos q0_savedRow q0_mind q0_changes q0_firstChange q0_isSaved t.2.1 t.2.2.1 t.2.2.2 q0_text q0_length q0_next q0_numbers q0_sort q0_done)) args s 0 0 (adr (wM E ad q0_why q0_detail q0_reasonNow q0_detailNow q0_w q0_undos q0_savedRow q0_mind q0_changes q0_firstChange q0_isSaved q0_at q0_line q0_lineLength q0_text q0_length q0_next q0_numbers q0_sort q0_done))) (F0 m 0 ls []) from hmain _ _ hH
  clear hH
  have L21 : ∀ (n : Nat) (y0_11 : (Nat → Int32)) (y0_12 : (Nat → Int32)) (y0_13 : Int32) (a1 : Int32) (a2 : Int32) (ls : Array Slot), lv_has ls 3 [(0, .ref (ad 0)), (1, .int a1), (2, .int a2)] → ∀ (H : Heap) (locs : List Loc), Hp E (adr (wM E ad q0_why q0_detail q0_reasonNow q0_detailNow q0_w q0_undos q0_savedRow q0_mind q0_changes q0_firstChange q0_isSaved q0_at q0_line q0_lineLength q0_text q0_length q0_next q0_numbers q0_sort q0_done)) (wM E ad q0_why q0_detail q0_reasonNow q0_detailNow q0_w q0_undos q0_savedRow q0_mind q0_changes q0_firstChange q0_isSaved y0_11 y0_12 y0_13 q0_text q0_length q0_next q0_numbers q0_sort q0_done) s.heap H locs → fM_tellRow_21 n q0_w y0_11 y0_12 y0_13 a1 a2 = some t → W p l e rmM_tellRow s m args below meth c H locs 0 0 (MQ below (qW E (some .int) (some (.int t.1)) (wM E ad q0_why q0_detail q0_reasonNow q0_detailNow q0_w q0_undos q0_savedRow q0_mind q0_changes q0_firstChange q0_isSaved q0_at q0_line q0_lineLength q0_text q0_length q0_next q0_numbers q0_sort q0_done) (wM E ad q0_why q0_detail q0_reasonNow q0_detailNow q0_w q0_undos q0_savedRow q0_mind q0_changes q0_firstChange q0_isSaved t.2.1 t.2.2.1 t.2.2.2 q0_text q0_length q0_next q0_numbers q0_sort q0_done)) args s 0 0 (adr (wM E ad q0_why q0_detail q0_reasonNow q0_detailNow q0_w q0_undos q0_savedRow q0_mind q0_changes q0_firstChange q0_isSaved q0_at q0_line q0_lineLength q0_text q0_length q0_next q0_numbers q0_sort q0_done))) (F0 m 21 ls []) := by
    intro n
    induction n with
    | zero => intro y0_11 y0_12 y0_13 a1 a2 ls hl H locs hH hf; cases hf
    | succ n ih =>
      intro y0_11 y0_12 y0_13 a1 a2 ls hl H locs hH hf
      rw [fM_tellRow_21] at hf
      refine lv_iload_n hx hb dX9_tellRow_21 rfl (lv_at hl 2 rfl) ?_
      refine lv_aload_n hx hb dX9_tellRow_22 rfl (lv_at hl 0 rfl) ?_
      refine gX9_7 hC hH.1 0 rfl (v := .ref (ad 1)) rfl dX9_tellRow_23 ?_
      refine lv_iconst (v := 0) hx hb dX9_tellRow_26 (by decide) ?_
      obtain ⟨v3, hv3, hf⟩ := ob hf
      obtain ⟨hv3a, hv3b⟩ := ldA_ok hv3
      refine a_ild hC hH.1 1 rfl hv3a hv3b dX9_tellRow_27 ?_
      refine lv_icmp_ge (tgt := 67) hx hb dX9_tellRow_28 (by decide) (fun c4 => ?_) (fun c4 => ?_)
      · have hf := ite_t hf c4
        refine lv_aload_n hx hb dX9_tellRow_67 rfl (lv_at hl 0 rfl) ?_
        refine gX9_188 hC hH.1 0 rfl (v := .int y0_13) rfl dX9_tellRow_68 ?_
        have hf := Option.some.inj hf
        subst hf
        exact e_Wi hC hH hr hlocks rfl rfl dX9_tellRow_71
      · have hf := ite_f hf c4
        refine lv_iload_n hx hb dX9_tellRow_31 rfl (lv_at hl 2 rfl) ?_
        refine lv_if_le (tgt := 48) hx hb dX9_tellRow_32 (by decide) (fun c5 => ?_) (fun c5 => ?_)
        · have hf := ite_t hf c5
          refine lv_aload_n hx hb dX9_tellRow_48 rfl (lv_at hl 0 rfl) ?_
          refine lv_bipush (v := 48) hx hb dX9_tellRow_49 (by decide) ?_
          refine lv_aload_n hx hb dX9_tellRow_51 rfl (lv_at hl 0 rfl) ?_
          refine lv_iload_n hx hb dX9_tellRow_52 rfl (lv_at hl 1 rfl) ?_
          refine lv_iload_n hx hb dX9_tellRow_53 rfl (lv_at hl 2 rfl) ?_
          obtain ⟨t6, ht6, hf⟩ := ob hf
          refine k_PVi hC LX9_130 ⟨Nat.le_of_ble_eq_true rfl, Nat.le_of_ble_eq_true rfl⟩ ⟨Nat.zero_le _, Nat.zero_le _⟩ (cM_bitAt l E ad q0_why q0_detail q0_reasonNow q0_detailNow q0_w q0_undos q0_savedRow q0_mind q0_changes q0_firstChange q0_isSaved y0_11 y0_12 y0_13 q0_text q0_length q0_next q0_numbers q0_sort q0_done a1 a2 t6 ht6) rfl rfl hH.1 rfl rfl hl.1 rfl (Nat.le_of_ble_eq_true rfl) rfl dX9_tellRow_54 (fun hz54 => ?_)
          refine lv_iadd hx hb dX9_tellRow_57 ?_
          obtain ⟨t7, ht7, hf⟩ := ob hf
          refine k_WVsv hC LX9_191 ⟨Nat.le_of_ble_eq_true rfl, Nat.le_of_ble_eq_true rfl⟩ ⟨Nat.zero_le _, Nat.zero_le _⟩ (cM_writes l E ad q0_why q0_detail q0_reasonNow q0_detailNow q0_w q0_undos q0_savedRow q0_mind q0_changes q0_firstChange q0_isSaved y0_11 y0_12 y0_13 q0_text q0_length q0_next q0_numbers q0_sort q0_done ((48 : Int32) + t6) t7 ht7) rfl rfl hH rfl rfl rfl hl.1 rfl (Nat.le_of_ble_eq_true rfl) rfl dX9_tellRow_58 (fun H locs hz58 hH => ?_)
          have hH : Hp E (adr (wM E ad q0_why q0_detail q0_reasonNow q0_detailNow q0_w q0_undos q0_savedRow q0_mind q0_changes q0_firstChange q0_isSaved q0_at q0_line q0_lineLength q0_text q0_length q0_next q0_numbers q0_sort q0_done)) (wM E ad q0_why q0_detail q0_reasonNow q0_detailNow q0_w q0_undos q0_savedRow q0_mind q0_changes q0_firstChange q0_isSaved y0_11 t7.1 t7.2 q0_text q0_length q0_next q0_numbers q0_sort q0_done) s.heap H locs := hH
          refine lv_iinc (v := (a2 + (1 : Int32))) (lv' := [(2, .int (a2 + (1 : Int32))), (0, .ref (ad 0)), (1, .int a1)]) hx hb dX9_tellRow_61 hl (k := 2) rfl rfl (by decide) rfl (fun ls hl => ?_)
          refine lv_goto (tgt := 21) hx hb dX9_tellRow_64 (by decide) ?_
          exact ih y0_11 t7.1 t7.2 a1 (a2 + (1 : Int32)) ls (lv_sub hl [1, 2, 0] rfl) _ _ hH hf
        · have hf := ite_f hf c5
          refine lv_iload_n hx hb dX9_tellRow_35 rfl (lv_at hl 2 rfl) ?_
          refine lv_bipush (v := 8) hx hb dX9_tellRow_36 (by decide) ?_
          refine lv_irem hx hb dX9_tellRow_38 (by decide) ?_
          refine lv_if_ne (tgt := 48) hx hb dX9_tellRow_39 (by decide) (fun c8 => ?_) (fun c8 => ?_)
          · have hf := ite_f hf c8
            refine lv_aload_n hx hb dX9_tellRow_48 rfl (lv_at hl 0 rfl) ?_
            refine lv_bipush (v := 48) hx hb dX9_tellRow_49 (by decide) ?_
            refine lv_aload_n hx hb dX9_tellRow_51 rfl (lv_at hl 0 rfl) ?_
            refine lv_iload_n hx hb dX9_tellRow_52 rfl (lv_at hl 1 rfl) ?_
            refine lv_iload_n hx hb dX9_tellRow_53 rfl (lv_at hl 2 rfl) ?_
            obtain ⟨t9, ht9, hf⟩ := ob hf
            refine k_PVi hC LX9_130 ⟨Nat.le_of_ble_eq_true rfl, Nat.le_of_ble_eq_true rfl⟩ ⟨Nat.zero_le _, Nat.zero_le _⟩ (cM_bitAt l E ad q0_why q0_detail q0_reasonNow q0_detailNow q0_w q0_undos q0_savedRow q0_mind q0_changes q0_firstChange q0_isSaved y0_11 y0_12 y0_13 q0_text q0_length q0_next q0_numbers q0_sort q0_done a1 a2 t9 ht9) rfl rfl hH.1 rfl rfl hl.1 rfl (Nat.le_of_ble_eq_true rfl) rfl dX9_tellRow_54 (fun hz54 => ?_)
            refine lv_iadd hx hb dX9_tellRow_57 ?_
            obtain ⟨t10, ht10, hf⟩ := ob hf
            refine k_WVsv hC LX9_191 ⟨Nat.le_of_ble_eq_true rfl, Nat.le_of_ble_eq_true rfl⟩ ⟨Nat.zero_le _, Nat.zero_le _⟩ (cM_writes l E ad q0_why q0_detail q0_reasonNow q0_detailNow q0_w q0_undos q0_savedRow q0_mind q0_changes q0_firstChange q0_isSaved y0_11 y0_12 y0_13 q0_text q0_length q0_next q0_numbers q0_sort q0_done ((48 : Int32) + t9) t10 ht10) rfl rfl hH rfl rfl rfl hl.1 rfl (Nat.le_of_ble_eq_true rfl) rfl dX9_tellRow_58 (fun H locs hz58 hH => ?_)
            have hH : Hp E (adr (wM E ad q0_why q0_detail q0_reasonNow q0_detailNow q0_w q0_undos q0_savedRow q0_mind q0_changes q0_firstChange q0_isSaved q0_at q0_line q0_lineLength q0_text q0_length q0_next q0_numbers q0_sort q0_done)) (wM E ad q0_why q0_detail q0_reasonNow q0_detailNow q0_w q0_undos q0_savedRow q0_mind q0_changes q0_firstChange q0_isSaved y0_11 t10.1 t10.2 q0_text q0_length q0_next q0_numbers q0_sort q0_done) s.heap H locs := hH
            refine lv_iinc (v := (a2 + (1 : Int32))) (lv' := [(2, .int (a2 + (1 : Int32))), (0, .ref (ad 0)), (1, .int a1)]) hx hb dX9_tellRow_61 hl (k := 2) rfl rfl (by decide) rfl (fun ls hl => ?_)
            refine lv_goto (tgt := 21) hx hb dX9_tellRow_64 (by decide) ?_
            exact ih y0_11 t10.1 t10.2 a1 (a2 + (1 : Int32)) ls (lv_sub hl [1, 2, 0] rfl) _ _ hH hf
          · have hf := ite_t hf c8
            refine lv_aload_n hx hb dX9_tellRow_42 rfl (lv_at hl 0 rfl) ?_
            refine lv_bipush (v := 32) hx hb dX9_tellRow_43 (by decide) ?_
            obtain ⟨t11, ht11, hf⟩ := ob hf
            refine k_WVsv hC LX9_191 ⟨Nat.le_of_ble_eq_true rfl, Nat.le_of_ble_eq_true rfl⟩ ⟨Nat.zero_le _, Nat.zero_le _⟩ (cM_writes l E ad q0_why q0_detail q0_reasonNow q0_detailNow q0_w q0_undos q0_savedRow q0_mind q0_changes q0_firstChange q0_isSaved y0_11 y0_12 y0_13 q0_text q0_length q0_next q0_numbers q0_sort q0_done (32 : Int32) t11 ht11) rfl rfl hH rfl rfl rfl hl.1 rfl (Nat.le_of_ble_eq_true rfl) rfl dX9_tellRow_45 (fun H locs hz45 hH => ?_)
            have hH : Hp E (adr (wM E ad q0_why q0_detail q0_reasonNow q0_detailNow q0_w q0_undos q0_savedRow q0_mind q0_changes q0_firstChange q0_isSaved q0_at q0_line q0_lineLength q0_text q0_length q0_next q0_numbers q0_sort q0_done)) (wM E ad q0_why q0_detail q0_reasonNow q0_detailNow q0_w q0_undos q0_savedRow q0_mind q0_changes q0_firstChange q0_isSaved y0_11 t11.1 t11.2 q0_text q0_length q0_next q0_numbers q0_sort q0_done) s.heap H locs := hH
            refine lv_aload_n hx hb dX9_tellRow_48 rfl (lv_at hl 0 rfl) ?_
            refine lv_bipush (v := 48) hx hb dX9_tellRow_49 (by decide) ?_
            refine lv_aload_n hx hb dX9_tellRow_51 rfl (lv_at hl 0 rfl) ?_
            refine lv_iload_n hx hb dX9_tellRow_52 rfl (lv_at hl 1 rfl) ?_
            refine lv_iload_n hx hb dX9_tellRow_53 rfl (lv_at hl 2 rfl) ?_
            obtain ⟨t12, ht12, hf⟩ := ob hf
            refine k_PVi hC LX9_130 ⟨Nat.le_of_ble_eq_true rfl, Nat.le_of_ble_eq_true rfl⟩ ⟨Nat.zero_le _, Nat.zero_le _⟩ (cM_bitAt l E ad q0_why q0_detail q0_reasonNow q0_detailNow q0_w q0_undos q0_savedRow q0_mind q0_changes q0_firstChange q0_isSaved y0_11 t11.1 t11.2 q0_text q0_length q0_next q0_numbers q0_sort q0_done a1 a2 t12 ht12) rfl rfl hH.1 rfl rfl hl.1 rfl (Nat.le_of_ble_eq_true rfl) rfl dX9_tellRow_54 (fun hz54 => ?_)
            refine lv_iadd hx hb dX9_tellRow_57 ?_
            obtain ⟨t13, ht13, hf⟩ := ob hf
            refine k_WVsv hC LX9_191 ⟨Nat.le_of_ble_eq_true rfl, Nat.le_of_ble_eq_true rfl⟩ ⟨Nat.zero_le _, Nat.zero_le _⟩ (cM_writes l E ad q0_why q0_detail q0_reasonNow q0_detailNow q0_w q0_undos q0_savedRow q0_mind q0_changes q0_firstChange q0_isSaved y0_11 t11.1 t11.2 q0_text q0_length q0_next q0_numbers q0_sort q0_done ((48 : Int32) + t12) t13 ht13) rfl rfl hH rfl rfl rfl hl.1 rfl (Nat.le_of_ble_eq_true rfl) rfl dX9_tellRow_58 (fun H locs hz58 hH => ?_)
            have hH : Hp E (adr (wM E ad q0_why q0_detail q0_reasonNow q0_detailNow q0_w q0_undos q0_savedRow q0_mind q0_changes q0_firstChange q0_isSaved q0_at q0_line q0_lineLength q0_text q0_length q0_next q0_numbers q0_sort q0_done)) (wM E ad q0_why q0_detail q0_reasonNow q0_detailNow q0_w q0_undos q0_savedRow q0_mind q0_changes q0_firstChange q0_isSaved y0_11 t13.1 t13.2 q0_text q0_length q0_next q0_numbers q0_sort q0_done) s.heap H locs := hH
            refine lv_iinc (v := (a2 + (1 : Int32))) (lv' := [(2, .int (a2 + (1 : Int32))), (0, .ref (ad 0)), (1, .int a1)]) hx hb dX9_tellRow_61 hl (k := 2) rfl rfl (by decide) rfl (fun ls hl => ?_)
            refine lv_goto (tgt := 21) hx hb dX9_tellRow_64 (by decide) ?_
            exact ih y0_11 t13.1 t13.2 a1 (a2 + (1 : Int32)) ls (lv_sub hl [1, 2, 0] rfl) _ _ hH hf
  intro H locs hH
  rw [fM_tellRow] at hf
  refine lv_iload_n hx hb dX9_tellRow_0 rfl (lv_at hl 1 rfl) ?_
  refine k_PSi hC LX9_124 ⟨Nat.le_of_ble_eq_true rfl, Nat.le_of_ble_eq_true rfl⟩ ⟨Nat.zero_le _, Nat.zero_le _⟩ (cM_isRow l E a1 _ rfl) rfl rfl (vP_nil) hl.1 rfl (Nat.le_of_ble_eq_true rfl) rfl dX9_tellRow_1 (fun hz1 => ?_)
  refine lv_if_ne (tgt := 10) hx hb dX9_tellRow_4 (by decide) (fun c1 => ?_) (fun c1 => ?_)
  · have hf := ite_f hf c1
    refine lv_aload_n hx hb dX9_tellRow_10 rfl (lv_at hl 0 rfl) ?_
    obtain ⟨t2, ht2, hf⟩ := ob hf
    refine k_WVsv hC LX9_127 ⟨Nat.le_of_ble_eq_true rfl, Nat.le_of_ble_eq_true rfl⟩ ⟨Nat.zero_le _, Nat.zero_le _⟩ (cM_findsRows l E ad q0_why q0_detail q0_reasonNow q0_detailNow q0_w q0_undos q0_savedRow q0_mind q0_changes q0_firstChange q0_isSaved q0_at q0_line q0_lineLength q0_text q0_length q0_next q0_numbers q0_sort q0_done t2 ht2) rfl rfl hH rfl rfl rfl hl.1 rfl (Nat.le_of_ble_eq_true rfl) rfl dX9_tellRow_11 (fun H locs hz11 hH => ?_)
    have hH : Hp E (adr (wM E ad q0_why q0_detail q0_reasonNow q0_detailNow q0_w q0_undos q0_savedRow q0_mind q0_changes q0_firstChange q0_isSaved q0_at q0_line q0_lineLength q0_text q0_length q0_next q0_numbers q0_sort q0_done)) (wM E ad q0_why q0_detail q0_reasonNow q0_detailNow q0_w q0_undos q0_savedRow q0_mind q0_changes q0_firstChange q0_isSaved t2 q0_line q0_lineLength q0_text q0_length q0_next q0_numbers q0_sort q0_done) s.heap H locs := hH
    refine lv_aload_n hx hb dX9_tellRow_14 rfl (lv_at hl 0 rfl) ?_
    refine lv_iconst (v := 0) hx hb dX9_tellRow_15 (by decide) ?_
    refine pX9_188 hC hH 0 rfl (v := .int (0 : Int32)) rfl rfl (Nat.le_of_ble_eq_true rfl) (W1 := wM E ad q0_why q0_detail q0_reasonNow q0_detailNow q0_w q0_undos q0_savedRow q0_mind q0_changes q0_firstChange q0_isSaved t2 q0_line (0 : Int32) q0_text q0_length q0_next q0_numbers q0_sort q0_done) rfl dX9_tellRow_16 (fun H locs hH => ?_)
    refine lv_iconst (v := 0) hx hb dX9_tellRow_19 (by decide) ?_
    refine lv_istore_n (lv' := [(2, .int (0 : Int32)), (0, .ref (ad 0)), (1, .int a1)]) hx hb dX9_tellRow_20 rfl hl (by decide) rfl (fun ls hl => ?_)
    exact L21 FU t2 q0_line (0 : Int32) a1 (0 : Int32) ls (lv_sub hl [1, 2, 0] rfl) _ _ hH hf
  · have hf := ite_t hf c1
    refine lv_bipush (v := (-11)) hx hb dX9_tellRow_7 (by decide) ?_
    have hf := Option.some.inj hf
    subst hf
    exact e_Wi hC hH hr hlocks rfl rfl dX9_tellRow_9
abbrev rmM_character : Room := { frames := 1, cells := 0, slots := 0, locals := 22 }
set_option maxHeartbeats 4000000 in
set_option maxRecDepth 100000 in
theorem cM_character (l : Launch) (E : eE) (ad : Nat → Nat) (q0_why : Int32) (q0_detail : Int32) (q0_reasonNow : Int32) (q0_detailNow : Int32) (q0_w : (Nat → Int32)) (q0_undos : (Nat → Int32)) (q0_savedRow : (Nat → Int32)) (q0_mind : (Nat → Int32)) (q0_changes : Int32) (q0_firstChange : Int32) (q0_isSaved : Int32) (q0_at : (Nat → Int32)) (q0_line : (Nat → Int32)) (q0_lineLength : Int32) (q0_text : (Nat → Int32)) (q0_length : Int32) (q0_next : Int32) (q0_numbers : (Nat → Int32)) (q0_sort : Int32) (q0_done : Int32) (a1 : Int32) (r : Int32) (hf : fM_character q0_line q0_lineLength a1 = some r) : cP l E yX9_character cX9_character 2 (some .int) rmM_character [.ref (ad 0), .int a1] (wM E ad q0_why q0_detail q0_reasonNow q0_detailNow q0_w q0_undos q0_savedRow q0_mind q0_changes q0_firstChange q0_isSaved q0_at q0_line q0_lineLength q0_text q0_length q0_next q0_numbers q0_sort q0_done) (some (.int r)) := by
  refine Met.ofW (cc := cX9_character) (maxL := 2) (ret := (some .int)) (by decide) rfl ?_
  intro p e s m args below meth c s₁ B hml hv
  obtain ⟨hargs, hP, hK⟩ := hv
  have hx := B.exec
  have hb := B.bytes
  have hr := B.returns
  have hts := atoms_spec (ws := ws_ yX9_character cX9_character 2 (some .int)) B.pre
  have hta : ∀ w ∈ lw_all, w.before args s = true := fun w h => hts w (List.mem_cons_of_mem _ h)
  have hown : s.vm.findClass RX9 = some m.cls := findClass_of_methodNamed B.named
  have hlocks := B.notSynchronized
  have hC : Cx p s m args c cX9_character 2 RX9 E := ⟨hx, hb, hml, hown, hta, hK⟩
  obtain ⟨ls, he, hl⟩ := entry_ (m := m) (n := 2) hargs (Nat.le_of_ble_eq_true rfl)
  rw [he]
  have hl : lv_has ls 2 [(0, .ref (ad 0)), (1, .int a1)] := hl
  show W p l e rmM_character s m args below meth c s.heap [] 0 0 (MQ below (qP (some .int) (some (.int r))) args s 0 0 (fun _ => False)) (F0 m 0 ls [])
  rw [fM_character] at hf
  refine lv_iload_n hx hb dX9_character_0 rfl (lv_at hl 1 rfl) ?_
  refine lv_iconst (v := 0) hx hb dX9_character_1 (by decide) ?_
  refine lv_aload_n hx hb dX9_character_2 rfl (lv_at hl 0 rfl) ?_
  refine gX9_188 hC hP 0 rfl (v := .int q0_lineLength) rfl dX9_character_3 ?_
  refine lv_iconst (v := 1) hx hb dX9_character_6 (by decide) ?_
  refine lv_isub hx hb dX9_character_7 ?_
  refine k_PSi hC LX9_60 ⟨Nat.le_of_ble_eq_true rfl, Nat.le_of_ble_eq_true rfl⟩ ⟨Nat.zero_le _, Nat.zero_le _⟩ (cM_isBetween l E a1 (0 : Int32) (q0_lineLength - (1 : Int32)) _ rfl) rfl rfl (vP_nil) hl.1 rfl (Nat.le_of_ble_eq_true rfl) rfl dX9_character_8 (fun hz8 => ?_)
  refine lv_if_eq (tgt := 23) hx hb dX9_character_11 (by decide) (fun c1 => ?_) (fun c1 => ?_)
  · have hf := ite_t hf c1
    refine lv_bipush (v := (-11)) hx hb dX9_character_23 (by decide) ?_
    have hf := Option.some.inj hf
    exact e_Pi hC hr hlocks hf dX9_character_25
  · have hf := ite_f hf c1
    refine lv_aload_n hx hb dX9_character_14 rfl (lv_at hl 0 rfl) ?_
    refine gX9_25 hC hP 0 rfl (v := .ref (ad 6)) rfl dX9_character_15 ?_
    refine lv_iload_n hx hb dX9_character_18 rfl (lv_at hl 1 rfl) ?_
    obtain ⟨v2, hv2, hf⟩ := ob hf
    obtain ⟨hv2a, hv2b⟩ := ldA_ok hv2
    refine a_cld hC hP 6 rfl hv2a hv2b dX9_character_19 ?_
    refine lv_goto (tgt := 25) hx hb dX9_character_20 (by decide) ?_
    have hf := Option.some.inj hf
    exact e_Pi hC hr hlocks hf dX9_character_25
abbrev rmM_ones : Room := { frames := 3, cells := 0, slots := 0, locals := 68 }
set_option maxHeartbeats 4000000 in
set_option maxRecDepth 100000 in
theorem cM_ones (l : Launch) (E : eE) (ad : Nat → Nat) (q0_why : Int32) (q0_detail : Int32) (q0_reasonNow : Int32) (q0_detailNow : Int32) (q0_w : (Nat → Int32)) (q0_undos : (Nat → Int32)) (q0_savedRow : (Nat → Int32)) (q0_mind : (Nat → Int32)) (q0_changes : Int32) (q0_firstChange : Int32) (q0_isSaved : Int32) (q0_at : (Nat → Int32)) (q0_line : (Nat → Int32)) (q0_lineLength : Int32) (q0_text : (Nat → Int32)) (q0_length : Int32) (q0_next : Int32) (q0_numbers : (Nat → Int32)) (q0_sort : Int32) (q0_done : Int32) (t : Int32 × (Nat → Int32)) (hf : fM_ones q0_w q0_at = some t) : cW l E yX9_ones cX9_ones 3 (some .int) rmM_ones [.ref (ad 0)] (wM E ad q0_why q0_detail q0_reasonNow q0_detailNow q0_w q0_undos q0_savedRow q0_mind q0_changes q0_firstChange q0_isSaved q0_at q0_line q0_lineLength q0_text q0_length q0_next q0_numbers q0_sort q0_done) (some (.int t.1)) (wM E ad q0_why q0_detail q0_reasonNow q0_detailNow q0_w q0_undos q0_savedRow q0_mind q0_changes q0_firstChange q0_isSaved t.2 q0_line q0_lineLength q0_text q0_length q0_next q0_numbers q0_sort q0_done) := by
  refine Met.ofW (cc := cX9_ones) (maxL := 3) (ret := (some .int)) (by decide) rfl ?_
  intro p e s m args below meth c s₁ B hml hv
  obtain ⟨hargs, hP, hK, hD0⟩ := hv
  have hx := B.exec
  have hb := B.bytes
  have hr := B.returns
  have hts := atoms_spec (ws := ws_ yX9_ones cX9_ones 3 (some .int)) B.pre
  have hta : ∀ w ∈ lw_all, w.before args s = true := fun w h => hts w (List.mem_cons_of_mem _ h)
  have hown : s.vm.findClass RX9 = some m.cls := findClass_of_methodNamed B.named
  have hlocks := B.notSynchronized
  have hC : Cx p s m args c cX9_ones 3 RX9 E := ⟨hx, hb, hml, hown, hta, hK⟩
  have hH : Hp E (adr (wM E ad q0_why q0_detail q0_reasonNow q0_detailNow q0_w q0_undos q0_savedRow q0_mind q0_changes q0_firstChange q0_isSaved q0_at q0_line q0_lineLength q0_text q0_length q0_next q0_numbers q0_sort q0_done)) (wM E ad q0_why q0_detail q0_reasonNow q0_detailNow q0_w q0_undos q0_savedRow q0_mind q0_changes q0_firstChange q0_isSaved q0_at q0_line q0_lineLength q0_text q0_length q0_next q0_numbers q0_sort q0_done) s.heap s.heap [] := Hp.start hP hD0
  obtain ⟨ls, he, hl⟩ := entry_ (m := m) (n := 3) hargs (Nat.le_of_ble_eq_true rfl)
  rw [he]
  have hl : lv_has ls 3 [(0, .ref (ad 0))] := hl
  show W p l e rmM_ones s m args below meth c s.heap [] 0 0 (MQ below (qW E (some .int) (some (.int t.1)) (wM E ad q0_why q0_detail q0_reasonNow q0_detailNow q0_w q0_undos q0_savedRow q0_mind q0_changes q0_firstChange q0_isSaved q0_at q0_line q0_lineLength q0_text q0_length q0_next q0_numbers q0_sort q0_done) (wM E ad q0_why q0_detail q0_reasonNow q0_detailNow q0_w q0_undos q0_savedRow q0_mind q0_changes q0_firstChange q0_isSaved t.2 q0_line q0_lineLength q0_text q0_length q0_next q0_numbers q0_sort q0_done)) args s 0 0 (adr (wM E ad q0_why q0_detail q0_reasonNow q0_detailNow q0_w q0_undos q0_savedRow q0_mind q0_changes q0_firstChange q0_isSaved q0_at q0_line q0_lineLength q0_text q0_length q0_next q0_numbers q0_sort q0_done))) (F0 m 0 ls [])
  suffices hmain : ∀ (H : Heap) (locs : List Loc), Hp E (adr (wM E ad q0_why q0_detail q0_reasonNow q0_detailNow q0_w q0_undos q0_savedRow q0_mind q0_changes q0_firstChange q0_isSaved q0_at q0_line q0_lineLength q0_text q0_length q0_next q0_numbers q0_sort q0_done)) (wM E ad q0_why q0_detail q0_reasonNow q0_detailNow q0_w q0_undos q0_savedRow q0_mind q0_changes q0_firstChange q0_isSaved q0_at q0_line q0_lineLength q0_text q0_length q0_next q0_numbers q0_sort q0_done) s.heap H locs → W p l e rmM_ones s m args below meth c H locs 0 0 (MQ below (qW E (some .int) (some (.int t.1)) (wM E ad q0_why q0_detail q0_reasonNow q0_detailNow q0_w q0_undos q0_savedRow q0_mind q0_changes q0_firstChange q0_isSaved q0_at q0_line q0_lineLength q0_text q0_length q0_next q0_numbers q0_sort q0_done) (wM E ad q0_why q0_detail q0_reasonNow q0_detailNow q0_w q0_undos q0_savedRow q0_mind q0_changes q0_firstChange q0_isSaved t.2 q0_line q0_lineLength q0_text q0_length q0_next q0_numbers q0_sort q0_done)) args s 0 0 (adr (wM E ad q0_why q0_detail q0_reasonNow q0_detailNow q0_w q0_undos q0_savedRow q0_mind q0_changes q0_firstChange q0_isSaved q0_at q0_line q0_lineLength q0_text q0_length q0_next q0_numbers q0_sort q0_done))) (F0 m 0 ls []) from hmain _ _ hH
  clear hH
  have L8 : ∀ (n : Nat) (y0_11 : (Nat → Int32)) (a1 : Int32) (a2 : Int32) (ls : Array Slot), lv_has ls 3 [(0, .ref (ad 0)), (1, .int a1), (2, .int a2)] → ∀ (H : Heap) (locs : List Loc), Hp E (adr (wM E ad q0_why q0_detail q0_reasonNow q0_detailNow q0_w q0_undos q0_savedRow q0_mind q0_changes q0_firstChange q0_isSaved q0_at q0_line q0_lineLength q0_text q0_length q0_next q0_numbers q0_sort q0_done)) (wM E ad q0_why q0_detail q0_reasonNow q0_detailNow q0_w q0_undos q0_savedRow q0_mind q0_changes q0_firstChange q0_isSaved y0_11 q0_line q0_lineLength q0_text q0_length q0_next q0_numbers q0_sort q0_done) s.heap H locs → fM_ones_8 n q0_w y0_11 a1 a2 = some t → W p l e rmM_ones s m args below meth c H locs 0 0 (MQ below (qW E (some .int) (some (.int t.1)) (wM E ad q0_why q0_detail q0_reasonNow q0_detailNow q0_w q0_undos q0_savedRow q0_mind q0_changes q0_firstChange q0_isSaved q0_at q0_line q0_lineLength q0_text q0_length q0_next q0_numbers q0_sort q0_done) (wM E ad q0_why q0_detail q0_reasonNow q0_detailNow q0_w q0_undos q0_savedRow q0_mind q0_changes q0_firstChange q0_isSaved t.2 q0_line q0_lineLength q0_text q0_length q0_next q0_numbers q0_sort q0_done)) args s 0 0 (adr (wM E ad q0_why q0_detail q0_reasonNow q0_detailNow q0_w q0_undos q0_savedRow q0_mind q0_changes q0_firstChange q0_isSaved q0_at q0_line q0_lineLength q0_text q0_length q0_next q0_numbers q0_sort q0_done))) (F0 m 8 ls []) := by
    intro n
    induction n with
    | zero => intro y0_11 a1 a2 ls hl H locs hH hf; cases hf
    | succ n ih =>
      intro y0_11 a1 a2 ls hl H locs hH hf
      rw [fM_ones_8] at hf
      refine lv_iload_n hx hb dX9_ones_8 rfl (lv_at hl 2 rfl) ?_
      refine lv_iconst (v := 5) hx hb dX9_ones_9 (by decide) ?_
      refine lv_icmp_ge (tgt := 34) hx hb dX9_ones_10 (by decide) (fun c2 => ?_) (fun c2 => ?_)
      · have hf := ite_t hf c2
        refine lv_iload_n hx hb dX9_ones_34 rfl (lv_at hl 1 rfl) ?_
        have hf := Option.some.inj hf
        subst hf
        exact e_Wi hC hH hr hlocks rfl rfl dX9_ones_35
      · have hf := ite_f hf c2
        refine lv_iload_n hx hb dX9_ones_13 rfl (lv_at hl 1 rfl) ?_
        refine lv_aload_n hx hb dX9_ones_14 rfl (lv_at hl 0 rfl) ?_
        refine lv_iload_n hx hb dX9_ones_15 rfl (lv_at hl 2 rfl) ?_
        refine lv_iconst (v := 1) hx hb dX9_ones_16 (by decide) ?_
        refine lv_aload_n hx hb dX9_ones_17 rfl (lv_at hl 0 rfl) ?_
        refine gX9_7 hC hH.1 0 rfl (v := .ref (ad 1)) rfl dX9_ones_18 ?_
        refine lv_iconst (v := 0) hx hb dX9_ones_21 (by decide) ?_
        obtain ⟨v3, hv3, hf⟩ := ob hf
        obtain ⟨hv3a, hv3b⟩ := ldA_ok hv3
        refine a_ild hC hH.1 1 rfl hv3a hv3b dX9_ones_22 ?_
        obtain ⟨t4, ht4, hf⟩ := ob hf
        refine k_PVi hC LX9_135 ⟨Nat.le_of_ble_eq_true rfl, Nat.le_of_ble_eq_true rfl⟩ ⟨Nat.zero_le _, Nat.zero_le _⟩ (cM_counted l E ad q0_why q0_detail q0_reasonNow q0_detailNow q0_w q0_undos q0_savedRow q0_mind q0_changes q0_firstChange q0_isSaved y0_11 q0_line q0_lineLength q0_text q0_length q0_next q0_numbers q0_sort q0_done a2 (1 : Int32) v3 t4 ht4) rfl rfl hH.1 rfl rfl hl.1 rfl (Nat.le_of_ble_eq_true rfl) rfl dX9_ones_23 (fun hz23 => ?_)
        refine lv_iadd hx hb dX9_ones_26 ?_
        refine lv_istore_n (lv' := [(1, .int (a1 + t4)), (0, .ref (ad 0)), (2, .int a2)]) hx hb dX9_ones_27 rfl hl (by decide) rfl (fun ls hl => ?_)
        refine lv_iinc (v := (a2 + (1 : Int32))) (lv' := [(2, .int (a2 + (1 : Int32))), (1, .int (a1 + t4)), (0, .ref (ad 0))]) hx hb dX9_ones_28 hl (k := 2) rfl rfl (by decide) rfl (fun ls hl => ?_)
        refine lv_goto (tgt := 8) hx hb dX9_ones_31 (by decide) ?_
        exact ih y0_11 (a1 + t4) (a2 + (1 : Int32)) ls (lv_sub hl [2, 1, 0] rfl) _ _ hH hf
  intro H locs hH
  rw [fM_ones] at hf
  refine lv_aload_n hx hb dX9_ones_0 rfl (lv_at hl 0 rfl) ?_
  obtain ⟨t1, ht1, hf⟩ := ob hf
  refine k_WVsv hC LX9_127 ⟨Nat.le_of_ble_eq_true rfl, Nat.le_of_ble_eq_true rfl⟩ ⟨Nat.zero_le _, Nat.zero_le _⟩ (cM_findsRows l E ad q0_why q0_detail q0_reasonNow q0_detailNow q0_w q0_undos q0_savedRow q0_mind q0_changes q0_firstChange q0_isSaved q0_at q0_line q0_lineLength q0_text q0_length q0_next q0_numbers q0_sort q0_done t1 ht1) rfl rfl hH rfl rfl rfl hl.1 rfl (Nat.le_of_ble_eq_true rfl) rfl dX9_ones_1 (fun H locs hz1 hH => ?_)
  have hH : Hp E (adr (wM E ad q0_why q0_detail q0_reasonNow q0_detailNow q0_w q0_undos q0_savedRow q0_mind q0_changes q0_firstChange q0_isSaved q0_at q0_line q0_lineLength q0_text q0_length q0_next q0_numbers q0_sort q0_done)) (wM E ad q0_why q0_detail q0_reasonNow q0_detailNow q0_w q0_undos q0_savedRow q0_mind q0_changes q0_firstChange q0_isSaved t1 q0_line q0_lineLength q0_text q0_length q0_next q0_numbers q0_sort q0_done) s.heap H locs := hH
  refine lv_iconst (v := 0) hx hb dX9_ones_4 (by decide) ?_
  refine lv_istore_n (lv' := [(1, .int (0 : Int32)), (0, .ref (ad 0))]) hx hb dX9_ones_5 rfl hl (by decide) rfl (fun ls hl => ?_)
  refine lv_iconst (v := 0) hx hb dX9_ones_6 (by decide) ?_
  refine lv_istore_n (lv' := [(2, .int (0 : Int32)), (1, .int (0 : Int32)), (0, .ref (ad 0))]) hx hb dX9_ones_7 rfl hl (by decide) rfl (fun ls hl => ?_)
  exact L8 FU t1 (0 : Int32) (0 : Int32) ls (lv_sub hl [2, 1, 0] rfl) _ _ hH hf
abbrev rmM_account : Room := { frames := 4, cells := 0, slots := 0, locals := 90 }
set_option maxHeartbeats 4000000 in
set_option maxRecDepth 100000 in
theorem cM_account (l : Launch) (E : eE) (ad : Nat → Nat) (q0_why : Int32) (q0_detail : Int32) (q0_reasonNow : Int32) (q0_detailNow : Int32) (q0_w : (Nat → Int32)) (q0_undos : (Nat → Int32)) (q0_savedRow : (Nat → Int32)) (q0_mind : (Nat → Int32)) (q0_changes : Int32) (q0_firstChange : Int32) (q0_isSaved : Int32) (q0_at : (Nat → Int32)) (q0_line : (Nat → Int32)) (q0_lineLength : Int32) (q0_text : (Nat → Int32)) (q0_length : Int32) (q0_next : Int32) (q0_numbers : (Nat → Int32)) (q0_sort : Int32) (q0_done : Int32) (a1 : Int32) (t : Int32 × (Nat → Int32)) (hf : fM_account q0_w q0_changes q0_at q0_length a1 = some t) : cW l E yX9_account cX9_account 2 (some .int) rmM_account [.ref (ad 0), .int a1] (wM E ad q0_why q0_detail q0_reasonNow q0_detailNow q0_w q0_undos q0_savedRow q0_mind q0_changes q0_firstChange q0_isSaved q0_at q0_line q0_lineLength q0_text q0_length q0_next q0_numbers q0_sort q0_done) (some (.int t.1)) (wM E ad q0_why q0_detail q0_reasonNow q0_detailNow q0_w q0_undos q0_savedRow q0_mind q0_changes q0_firstChange q0_isSaved t.2 q0_line q0_lineLength q0_text q0_length q0_next q0_numbers q0_sort q0_done) := by
  refine Met.ofW (cc := cX9_account) (maxL := 2) (ret := (some .int)) (by decide) rfl ?_
  intro p e s m args below meth c s₁ B hml hv
  obtain ⟨hargs, hP, hK, hD0⟩ := hv
  have hx := B.exec
  have hb := B.bytes
  have hr := B.returns
  have hts := atoms_spec (ws := ws_ yX9_account cX9_account 2 (some .int)) B.pre
  have hta : ∀ w ∈ lw_all, w.before args s = true := fun w h => hts w (List.mem_cons_of_mem _ h)
  have hown : s.vm.findClass RX9 = some m.cls := findClass_of_methodNamed B.named
  have hlocks := B.notSynchronized
  have hC : Cx p s m args c cX9_account 2 RX9 E := ⟨hx, hb, hml, hown, hta, hK⟩
  have hH : Hp E (adr (wM E ad q0_why q0_detail q0_reasonNow q0_detailNow q0_w q0_undos q0_savedRow q0_mind q0_changes q0_firstChange q0_isSaved q0_at q0_line q0_lineLength q0_text q0_length q0_next q0_numbers q0_sort q0_done)) (wM E ad q0_why q0_detail q0_reasonNow q0_detailNow q0_w q0_undos q0_savedRow q0_mind q0_changes q0_firstChange q0_isSaved q0_at q0_line q0_lineLength q0_text q0_length q0_next q0_numbers q0_sort q0_done) s.heap s.heap [] := Hp.start hP hD0
  obtain ⟨ls, he, hl⟩ := entry_ (m := m) (n := 2) hargs (Nat.le_of_ble_eq_true rfl)
  rw [he]
  have hl : lv_has ls 2 [(0, .ref (ad 0)), (1, .int a1)] := hl
  show W p l e rmM_account s m args below meth c s.heap [] 0 0 (MQ below (qW E (some .int) (some (.int t.1)) (wM E ad q0_why q0_detail q0_reasonNow q0_detailNow q0_w q0_undos q0_savedRow q0_mind q0_changes q0_firstChange q0_isSaved q0_at q0_line q0_lineLength q0_text q0_length q0_next q0_numbers q0_sort q0_done) (wM E ad q0_why q0_detail q0_reasonNow q0_detailNow q0_w q0_undos q0_savedRow q0_mind q0_changes q0_firstChange q0_isSaved t.2 q0_line q0_lineLength q0_text q0_length q0_next q0_numbers q0_sort q0_done)) args s 0 0 (adr (wM E ad q0_why q0_detail q0_reasonNow q0_detailNow q0_w q0_undos q0_savedRow q0_mind q0_changes q0_firstChange q0_isSaved q0_at q0_line q0_lineLength q0_text q0_length q0_next q0_numbers q0_sort q0_done))) (F0 m 0 ls [])
  suffices hmain : ∀ (H : Heap) (locs : List Loc), Hp E (adr (wM E ad q0_why q0_detail q0_reasonNow q0_detailNow q0_w q0_undos q0_savedRow q0_mind q0_changes q0_firstChange q0_isSaved q0_at q0_line q0_lineLength q0_text q0_length q0_next q0_numbers q0_sort q0_done)) (wM E ad q0_why q0_detail q0_reasonNow q0_detailNow q0_w q0_undos q0_savedRow q0_mind q0_changes q0_firstChange q0_isSaved q0_at q0_line q0_lineLength q0_text q0_length q0_next q0_numbers q0_sort q0_done) s.heap H locs → W p l e rmM_account s m args below meth c H locs 0 0 (MQ below (qW E (some .int) (some (.int t.1)) (wM E ad q0_why q0_detail q0_reasonNow q0_detailNow q0_w q0_undos q0_savedRow q0_mind q0_changes q0_firstChange q0_isSaved q0_at q0_line q0_lineLength q0_text q0_length q0_next q0_numbers q0_sort q0_done) (wM E ad q0_why q0_detail q0_reasonNow q0_detailNow q0_w q0_undos q0_savedRow q0_mind q0_changes q0_firstChange q0_isSaved t.2 q0_line q0_lineLength q0_text q0_length q0_next q0_numbers q0_sort q0_done)) args s 0 0 (adr (wM E ad q0_why q0_detail q0_reasonNow q0_detailNow q0_w q0_undos q0_savedRow q0_mind q0_changes q0_firstChange q0_isSaved q0_at q0_line q0_lineLength q0_text q0_length q0_next q0_numbers q0_sort q0_done))) (F0 m 0 ls []) from hmain _ _ hH
  clear hH
  intro H locs hH
  rw [fM_account] at hf
  refine lv_iload_n hx hb dX9_account_0 rfl (lv_at hl 1 rfl) ?_
  by_cases c1_0 : a1 = (0 : Int32)
  · have hf := ite_t hf c1_0
    have e9 : (a1).toInt = 0 := by rw [c1_0]; decide
    refine lv_tableIn (tgt := 60) hx hb dX9_account_1 (by omega) (by omega) (by rw [e9]; rfl) (by decide) ?_
    refine lv_aload_n hx hb dX9_account_60 rfl (lv_at hl 0 rfl) ?_
    refine gX9_7 hC hH.1 0 rfl (v := .ref (ad 1)) rfl dX9_account_61 ?_
    refine lv_iconst (v := 0) hx hb dX9_account_64 (by decide) ?_
    obtain ⟨v1, hv1, hf⟩ := ob hf
    obtain ⟨hv1a, hv1b⟩ := ldA_ok hv1
    refine a_ild hC hH.1 1 rfl hv1a hv1b dX9_account_65 ?_
    have hf := Option.some.inj hf
    subst hf
    exact e_Wi hC hH hr hlocks rfl rfl dX9_account_66
  · have hf := ite_f hf c1_0
    by_cases c1_1 : a1 = (1 : Int32)
    · have hf := ite_t hf c1_1
      have e9 : (a1).toInt = 1 := by rw [c1_1]; decide
      refine lv_tableIn (tgt := 67) hx hb dX9_account_1 (by omega) (by omega) (by rw [e9]; rfl) (by decide) ?_
      refine lv_aload_n hx hb dX9_account_67 rfl (lv_at hl 0 rfl) ?_
      refine lv_iconst (v := 0) hx hb dX9_account_68 (by decide) ?_
      refine lv_aload_n hx hb dX9_account_69 rfl (lv_at hl 0 rfl) ?_
      refine gX9_7 hC hH.1 0 rfl (v := .ref (ad 1)) rfl dX9_account_70 ?_
      refine lv_iconst (v := 0) hx hb dX9_account_73 (by decide) ?_
      obtain ⟨v2, hv2, hf⟩ := ob hf
      obtain ⟨hv2a, hv2b⟩ := ldA_ok hv2
      refine a_ild hC hH.1 1 rfl hv2a hv2b dX9_account_74 ?_
      obtain ⟨t3, ht3, hf⟩ := ob hf
      refine k_PVi hC LX9_170 ⟨Nat.le_of_ble_eq_true rfl, Nat.le_of_ble_eq_true rfl⟩ ⟨Nat.zero_le _, Nat.zero_le _⟩ (cM_sum l E ad q0_why q0_detail q0_reasonNow q0_detailNow q0_w q0_undos q0_savedRow q0_mind q0_changes q0_firstChange q0_isSaved q0_at q0_line q0_lineLength q0_text q0_length q0_next q0_numbers q0_sort q0_done (0 : Int32) v2 t3 ht3) rfl rfl hH.1 rfl rfl hl.1 rfl (Nat.le_of_ble_eq_true rfl) rfl dX9_account_75 (fun hz75 => ?_)
      have hf := Option.some.inj hf
      subst hf
      exact e_Wi hC hH hr hlocks rfl rfl dX9_account_78
    · have hf := ite_f hf c1_1
      by_cases c1_2 : a1 = (2 : Int32)
      · have hf := ite_t hf c1_2
        have e9 : (a1).toInt = 2 := by rw [c1_2]; decide
        refine lv_tableIn (tgt := 79) hx hb dX9_account_1 (by omega) (by omega) (by rw [e9]; rfl) (by decide) ?_
        refine lv_aload_n hx hb dX9_account_79 rfl (lv_at hl 0 rfl) ?_
        refine gX9_7 hC hH.1 0 rfl (v := .ref (ad 1)) rfl dX9_account_80 ?_
        refine lv_iconst (v := 1) hx hb dX9_account_83 (by decide) ?_
        obtain ⟨v4, hv4, hf⟩ := ob hf
        obtain ⟨hv4a, hv4b⟩ := ldA_ok hv4
        refine a_ild hC hH.1 1 rfl hv4a hv4b dX9_account_84 ?_
        have hf := Option.some.inj hf
        subst hf
        exact e_Wi hC hH hr hlocks rfl rfl dX9_account_85
      · have hf := ite_f hf c1_2
        by_cases c1_3 : a1 = (3 : Int32)
        · have hf := ite_t hf c1_3
          have e9 : (a1).toInt = 3 := by rw [c1_3]; decide
          refine lv_tableIn (tgt := 86) hx hb dX9_account_1 (by omega) (by omega) (by rw [e9]; rfl) (by decide) ?_
          refine lv_aload_n hx hb dX9_account_86 rfl (lv_at hl 0 rfl) ?_
          refine gX9_7 hC hH.1 0 rfl (v := .ref (ad 1)) rfl dX9_account_87 ?_
          refine lv_iconst (v := 2) hx hb dX9_account_90 (by decide) ?_
          obtain ⟨v5, hv5, hf⟩ := ob hf
          obtain ⟨hv5a, hv5b⟩ := ldA_ok hv5
          refine a_ild hC hH.1 1 rfl hv5a hv5b dX9_account_91 ?_
          have hf := Option.some.inj hf
          subst hf
          exact e_Wi hC hH hr hlocks rfl rfl dX9_account_92
        · have hf := ite_f hf c1_3
          by_cases c1_4 : a1 = (4 : Int32)
          · have hf := ite_t hf c1_4
            have e9 : (a1).toInt = 4 := by rw [c1_4]; decide
            refine lv_tableIn (tgt := 93) hx hb dX9_account_1 (by omega) (by omega) (by rw [e9]; rfl) (by decide) ?_
            refine lv_aload_n hx hb dX9_account_93 rfl (lv_at hl 0 rfl) ?_
            obtain ⟨t6, ht6, hf⟩ := ob hf
            refine k_PVi hC LX9_164 ⟨Nat.le_of_ble_eq_true rfl, Nat.le_of_ble_eq_true rfl⟩ ⟨Nat.zero_le _, Nat.zero_le _⟩ (cM_bags l E ad q0_why q0_detail q0_reasonNow q0_detailNow q0_w q0_undos q0_savedRow q0_mind q0_changes q0_firstChange q0_isSaved q0_at q0_line q0_lineLength q0_text q0_length q0_next q0_numbers q0_sort q0_done t6 ht6) rfl rfl hH.1 rfl rfl hl.1 rfl (Nat.le_of_ble_eq_true rfl) rfl dX9_account_94 (fun hz94 => ?_)
            have hf := Option.some.inj hf
            subst hf
            exact e_Wi hC hH hr hlocks rfl rfl dX9_account_97
          · have hf := ite_f hf c1_4
            by_cases c1_5 : a1 = (5 : Int32)
            · have hf := ite_t hf c1_5
              have e9 : (a1).toInt = 5 := by rw [c1_5]; decide
              refine lv_tableIn (tgt := 98) hx hb dX9_account_1 (by omega) (by omega) (by rw [e9]; rfl) (by decide) ?_
              refine lv_aload_n hx hb dX9_account_98 rfl (lv_at hl 0 rfl) ?_
              obtain ⟨t7, ht7, hf⟩ := ob hf
              refine k_PVi hC LX9_104 ⟨Nat.le_of_ble_eq_true rfl, Nat.le_of_ble_eq_true rfl⟩ ⟨Nat.zero_le _, Nat.zero_le _⟩ (cM_marked l E ad q0_why q0_detail q0_reasonNow q0_detailNow q0_w q0_undos q0_savedRow q0_mind q0_changes q0_firstChange q0_isSaved q0_at q0_line q0_lineLength q0_text q0_length q0_next q0_numbers q0_sort q0_done t7 ht7) rfl rfl hH.1 rfl rfl hl.1 rfl (Nat.le_of_ble_eq_true rfl) rfl dX9_account_99 (fun hz99 => ?_)
              have hf := Option.some.inj hf
              subst hf
              exact e_Wi hC hH hr hlocks rfl rfl dX9_account_102
            · have hf := ite_f hf c1_5
              by_cases c1_6 : a1 = (6 : Int32)
              · have hf := ite_t hf c1_6
                have e9 : (a1).toInt = 6 := by rw [c1_6]; decide
                refine lv_tableIn (tgt := 103) hx hb dX9_account_1 (by omega) (by omega) (by rw [e9]; rfl) (by decide) ?_
                refine lv_aload_n hx hb dX9_account_103 rfl (lv_at hl 0 rfl) ?_
                refine lv_iconst (v := 0) hx hb dX9_account_104 (by decide) ?_
                refine lv_aload_n hx hb dX9_account_105 rfl (lv_at hl 0 rfl) ?_
                refine gX9_7 hC hH.1 0 rfl (v := .ref (ad 1)) rfl dX9_account_106 ?_
                refine lv_iconst (v := 0) hx hb dX9_account_109 (by decide) ?_
                obtain ⟨v8, hv8, hf⟩ := ob hf
                obtain ⟨hv8a, hv8b⟩ := ldA_ok hv8
                refine a_ild hC hH.1 1 rfl hv8a hv8b dX9_account_110 ?_
                obtain ⟨t9, ht9, hf⟩ := ob hf
                refine k_PVi hC LX9_176 ⟨Nat.le_of_ble_eq_true rfl, Nat.le_of_ble_eq_true rfl⟩ ⟨Nat.zero_le _, Nat.zero_le _⟩ (cM_unlike l E ad q0_why q0_detail q0_reasonNow q0_detailNow q0_w q0_undos q0_savedRow q0_mind q0_changes q0_firstChange q0_isSaved q0_at q0_line q0_lineLength q0_text q0_length q0_next q0_numbers q0_sort q0_done (0 : Int32) v8 t9 ht9) rfl rfl hH.1 rfl rfl hl.1 rfl (Nat.le_of_ble_eq_true rfl) rfl dX9_account_111 (fun hz111 => ?_)
                have hf := Option.some.inj hf
                subst hf
                exact e_Wi hC hH hr hlocks rfl rfl dX9_account_114
              · have hf := ite_f hf c1_6
                by_cases c1_7 : a1 = (7 : Int32)
                · have hf := ite_t hf c1_7
                  have e9 : (a1).toInt = 7 := by rw [c1_7]; decide
                  refine lv_tableIn (tgt := 115) hx hb dX9_account_1 (by omega) (by omega) (by rw [e9]; rfl) (by decide) ?_
                  refine lv_aload_n hx hb dX9_account_115 rfl (lv_at hl 0 rfl) ?_
                  refine gX9_7 hC hH.1 0 rfl (v := .ref (ad 1)) rfl dX9_account_116 ?_
                  refine lv_iconst (v := 3) hx hb dX9_account_119 (by decide) ?_
                  obtain ⟨v10, hv10, hf⟩ := ob hf
                  obtain ⟨hv10a, hv10b⟩ := ldA_ok hv10
                  refine a_ild hC hH.1 1 rfl hv10a hv10b dX9_account_120 ?_
                  have hf := Option.some.inj hf
                  subst hf
                  exact e_Wi hC hH hr hlocks rfl rfl dX9_account_121
                · have hf := ite_f hf c1_7
                  by_cases c1_8 : a1 = (8 : Int32)
                  · have hf := ite_t hf c1_8
                    have e9 : (a1).toInt = 8 := by rw [c1_8]; decide
                    refine lv_tableIn (tgt := 122) hx hb dX9_account_1 (by omega) (by omega) (by rw [e9]; rfl) (by decide) ?_
                    refine lv_aload_n hx hb dX9_account_122 rfl (lv_at hl 0 rfl) ?_
                    obtain ⟨t11, ht11, hf⟩ := ob hf
                    refine k_WVsi hC LX9_195 ⟨Nat.le_of_ble_eq_true rfl, Nat.le_of_ble_eq_true rfl⟩ ⟨Nat.zero_le _, Nat.zero_le _⟩ (cM_ones l E ad q0_why q0_detail q0_reasonNow q0_detailNow q0_w q0_undos q0_savedRow q0_mind q0_changes q0_firstChange q0_isSaved q0_at q0_line q0_lineLength q0_text q0_length q0_next q0_numbers q0_sort q0_done t11 ht11) rfl rfl hH rfl rfl rfl hl.1 rfl (Nat.le_of_ble_eq_true rfl) rfl dX9_account_123 (fun H locs hz123 hH => ?_)
                    have hH : Hp E (adr (wM E ad q0_why q0_detail q0_reasonNow q0_detailNow q0_w q0_undos q0_savedRow q0_mind q0_changes q0_firstChange q0_isSaved q0_at q0_line q0_lineLength q0_text q0_length q0_next q0_numbers q0_sort q0_done)) (wM E ad q0_why q0_detail q0_reasonNow q0_detailNow q0_w q0_undos q0_savedRow q0_mind q0_changes q0_firstChange q0_isSaved t11.2 q0_line q0_lineLength q0_text q0_length q0_next q0_numbers q0_sort q0_done) s.heap H locs := hH
                    have hf := Option.some.inj hf
                    subst hf
                    exact e_Wi hC hH hr hlocks rfl rfl dX9_account_126
                  · have hf := ite_f hf c1_8
                    by_cases c1_9 : a1 = (9 : Int32)
                    · have hf := ite_t hf c1_9
                      have e9 : (a1).toInt = 9 := by rw [c1_9]; decide
                      refine lv_tableIn (tgt := 127) hx hb dX9_account_1 (by omega) (by omega) (by rw [e9]; rfl) (by decide) ?_
                      refine lv_aload_n hx hb dX9_account_127 rfl (lv_at hl 0 rfl) ?_
                      refine gX9_198 hC hH.1 0 rfl (v := .int q0_length) rfl dX9_account_128 ?_
                      have hf := Option.some.inj hf
                      subst hf
                      exact e_Wi hC hH hr hlocks rfl rfl dX9_account_131
                    · have hf := ite_f hf c1_9
                      by_cases c1_10 : a1 = (10 : Int32)
                      · have hf := ite_t hf c1_10
                        have e9 : (a1).toInt = 10 := by rw [c1_10]; decide
                        refine lv_tableIn (tgt := 132) hx hb dX9_account_1 (by omega) (by omega) (by rw [e9]; rfl) (by decide) ?_
                        refine lv_aload_n hx hb dX9_account_132 rfl (lv_at hl 0 rfl) ?_
                        refine gX9_48 hC hH.1 0 rfl (v := .int q0_changes) rfl dX9_account_133 ?_
                        have hf := Option.some.inj hf
                        subst hf
                        exact e_Wi hC hH hr hlocks rfl rfl dX9_account_136
                      · have hf := ite_f hf c1_10
                        have hd : W p l e rmM_account s m args below meth c H locs 0 0 (MQ below (qW E (some .int) (some (.int t.1)) (wM E ad q0_why q0_detail q0_reasonNow q0_detailNow q0_w q0_undos q0_savedRow q0_mind q0_changes q0_firstChange q0_isSaved q0_at q0_line q0_lineLength q0_text q0_length q0_next q0_numbers q0_sort q0_done) (wM E ad q0_why q0_detail q0_reasonNow q0_detailNow q0_w q0_undos q0_savedRow q0_mind q0_changes q0_firstChange q0_isSaved t.2 q0_line q0_lineLength q0_text q0_length q0_next q0_numbers q0_sort q0_done)) args s 0 0 (adr (wM E ad q0_why q0_detail q0_reasonNow q0_detailNow q0_w q0_undos q0_savedRow q0_mind q0_changes q0_firstChange q0_isSaved q0_at q0_line q0_lineLength q0_text q0_length q0_next q0_numbers q0_sort q0_done))) (F0 m 137 ls []) := by
                          refine lv_bipush (v := (-12)) hx hb dX9_account_137 (by decide) ?_
                          have hf := Option.some.inj hf
                          subst hf
                          exact e_Wi hC hH hr hlocks rfl rfl dX9_account_139
                        refine lv_tableOut (tgt := 137) hx hb dX9_account_1 (by have n0 := lv_neT c1_0 (a := 0) (by decide); have n1 := lv_neT c1_1 (a := 1) (by decide); have n2 := lv_neT c1_2 (a := 2) (by decide); have n3 := lv_neT c1_3 (a := 3) (by decide); have n4 := lv_neT c1_4 (a := 4) (by decide); have n5 := lv_neT c1_5 (a := 5) (by decide); have n6 := lv_neT c1_6 (a := 6) (by decide); have n7 := lv_neT c1_7 (a := 7) (by decide); have n8 := lv_neT c1_8 (a := 8) (by decide); have n9 := lv_neT c1_9 (a := 9) (by decide); have n10 := lv_neT c1_10 (a := 10) (by decide); omega) (by decide) hd
abbrev rmM_isBalanced : Room := { frames := 5, cells := 0, slots := 0, locals := 108 }
set_option maxHeartbeats 4000000 in
set_option maxRecDepth 100000 in
theorem cM_isBalanced (l : Launch) (E : eE) (ad : Nat → Nat) (q0_why : Int32) (q0_detail : Int32) (q0_reasonNow : Int32) (q0_detailNow : Int32) (q0_w : (Nat → Int32)) (q0_undos : (Nat → Int32)) (q0_savedRow : (Nat → Int32)) (q0_mind : (Nat → Int32)) (q0_changes : Int32) (q0_firstChange : Int32) (q0_isSaved : Int32) (q0_at : (Nat → Int32)) (q0_line : (Nat → Int32)) (q0_lineLength : Int32) (q0_text : (Nat → Int32)) (q0_length : Int32) (q0_next : Int32) (q0_numbers : (Nat → Int32)) (q0_sort : Int32) (q0_done : Int32) (t : Int32 × (Nat → Int32)) (hf : fM_isBalanced q0_w q0_at = some t) : cW l E yX9_isBalanced cX9_isBalanced 4 (some .int) rmM_isBalanced [.ref (ad 0)] (wM E ad q0_why q0_detail q0_reasonNow q0_detailNow q0_w q0_undos q0_savedRow q0_mind q0_changes q0_firstChange q0_isSaved q0_at q0_line q0_lineLength q0_text q0_length q0_next q0_numbers q0_sort q0_done) (some (.int t.1)) (wM E ad q0_why q0_detail q0_reasonNow q0_detailNow q0_w q0_undos q0_savedRow q0_mind q0_changes q0_firstChange q0_isSaved t.2 q0_line q0_lineLength q0_text q0_length q0_next q0_numbers q0_sort q0_done) := by
  refine Met.ofW (cc := cX9_isBalanced) (maxL := 4) (ret := (some .int)) (by decide) rfl ?_
  intro p e s m args below meth c s₁ B hml hv
  obtain ⟨hargs, hP, hK, hD0⟩ := hv
  have hx := B.exec
  have hb := B.bytes
  have hr := B.returns
  have hts := atoms_spec (ws := ws_ yX9_isBalanced cX9_isBalanced 4 (some .int)) B.pre
  have hta : ∀ w ∈ lw_all, w.before args s = true := fun w h => hts w (List.mem_cons_of_mem _ h)
  have hown : s.vm.findClass RX9 = some m.cls := findClass_of_methodNamed B.named
  have hlocks := B.notSynchronized
  have hC : Cx p s m args c cX9_isBalanced 4 RX9 E := ⟨hx, hb, hml, hown, hta, hK⟩
  have hH : Hp E (adr (wM E ad q0_why q0_detail q0_reasonNow q0_detailNow q0_w q0_undos q0_savedRow q0_mind q0_changes q0_firstChange q0_isSaved q0_at q0_line q0_lineLength q0_text q0_length q0_next q0_numbers q0_sort q0_done)) (wM E ad q0_why q0_detail q0_reasonNow q0_detailNow q0_w q0_undos q0_savedRow q0_mind q0_changes q0_firstChange q0_isSaved q0_at q0_line q0_lineLength q0_text q0_length q0_next q0_numbers q0_sort q0_done) s.heap s.heap [] := Hp.start hP hD0
  obtain ⟨ls, he, hl⟩ := entry_ (m := m) (n := 4) hargs (Nat.le_of_ble_eq_true rfl)
  rw [he]
  have hl : lv_has ls 4 [(0, .ref (ad 0))] := hl
  show W p l e rmM_isBalanced s m args below meth c s.heap [] 0 0 (MQ below (qW E (some .int) (some (.int t.1)) (wM E ad q0_why q0_detail q0_reasonNow q0_detailNow q0_w q0_undos q0_savedRow q0_mind q0_changes q0_firstChange q0_isSaved q0_at q0_line q0_lineLength q0_text q0_length q0_next q0_numbers q0_sort q0_done) (wM E ad q0_why q0_detail q0_reasonNow q0_detailNow q0_w q0_undos q0_savedRow q0_mind q0_changes q0_firstChange q0_isSaved t.2 q0_line q0_lineLength q0_text q0_length q0_next q0_numbers q0_sort q0_done)) args s 0 0 (adr (wM E ad q0_why q0_detail q0_reasonNow q0_detailNow q0_w q0_undos q0_savedRow q0_mind q0_changes q0_firstChange q0_isSaved q0_at q0_line q0_lineLength q0_text q0_length q0_next q0_numbers q0_sort q0_done))) (F0 m 0 ls [])
  suffices hmain : ∀ (H : Heap) (locs : List Loc), Hp E (adr (wM E ad q0_why q0_detail q0_reasonNow q0_detailNow q0_w q0_undos q0_savedRow q0_mind q0_changes q0_firstChange q0_isSaved q0_at q0_line q0_lineLength q0_text q0_length q0_next q0_numbers q0_sort q0_done)) (wM E ad q0_why q0_detail q0_reasonNow q0_detailNow q0_w q0_undos q0_savedRow q0_mind q0_changes q0_firstChange q0_isSaved q0_at q0_line q0_lineLength q0_text q0_length q0_next q0_numbers q0_sort q0_done) s.heap H locs → W p l e rmM_isBalanced s m args below meth c H locs 0 0 (MQ below (qW E (some .int) (some (.int t.1)) (wM E ad q0_why q0_detail q0_reasonNow q0_detailNow q0_w q0_undos q0_savedRow q0_mind q0_changes q0_firstChange q0_isSaved q0_at q0_line q0_lineLength q0_text q0_length q0_next q0_numbers q0_sort q0_done) (wM E ad q0_why q0_detail q0_reasonNow q0_detailNow q0_w q0_undos q0_savedRow q0_mind q0_changes q0_firstChange q0_isSaved t.2 q0_line q0_lineLength q0_text q0_length q0_next q0_numbers q0_sort q0_done)) args s 0 0 (adr (wM E ad q0_why q0_detail q0_reasonNow q0_detailNow q0_w q0_undos q0_savedRow q0_mind q0_changes q0_firstChange q0_isSaved q0_at q0_line q0_lineLength q0_text q0_length q0_next q0_numbers q0_sort q0_done))) (F0 m 0 ls []) from hmain _ _ hH
  clear hH
  have L104 : ∀ (n : Nat) (y0_11 : (Nat → Int32)) (a1 : Int32) (a2 : Int32) (a3 : Int32) (ls : Array Slot), lv_has ls 4 [(0, .ref (ad 0)), (1, .int a1), (2, .int a2), (3, .int a3)] → ∀ (H : Heap) (locs : List Loc), Hp E (adr (wM E ad q0_why q0_detail q0_reasonNow q0_detailNow q0_w q0_undos q0_savedRow q0_mind q0_changes q0_firstChange q0_isSaved q0_at q0_line q0_lineLength q0_text q0_length q0_next q0_numbers q0_sort q0_done)) (wM E ad q0_why q0_detail q0_reasonNow q0_detailNow q0_w q0_undos q0_savedRow q0_mind q0_changes q0_firstChange q0_isSaved y0_11 q0_line q0_lineLength q0_text q0_length q0_next q0_numbers q0_sort q0_done) s.heap H locs → fM_isBalanced_104 n q0_w y0_11 a1 a2 a3 = some t → W p l e rmM_isBalanced s m args below meth c H locs 0 0 (MQ below (qW E (some .int) (some (.int t.1)) (wM E ad q0_why q0_detail q0_reasonNow q0_detailNow q0_w q0_undos q0_savedRow q0_mind q0_changes q0_firstChange q0_isSaved q0_at q0_line q0_lineLength q0_text q0_length q0_next q0_numbers q0_sort q0_done) (wM E ad q0_why q0_detail q0_reasonNow q0_detailNow q0_w q0_undos q0_savedRow q0_mind q0_changes q0_firstChange q0_isSaved t.2 q0_line q0_lineLength q0_text q0_length q0_next q0_numbers q0_sort q0_done)) args s 0 0 (adr (wM E ad q0_why q0_detail q0_reasonNow q0_detailNow q0_w q0_undos q0_savedRow q0_mind q0_changes q0_firstChange q0_isSaved q0_at q0_line q0_lineLength q0_text q0_length q0_next q0_numbers q0_sort q0_done))) (F0 m 104 ls []) := by
    intro n
    induction n with
    | zero => intro y0_11 a1 a2 a3 ls hl H locs hH hf; cases hf
    | succ n ih =>
      intro y0_11 a1 a2 a3 ls hl H locs hH hf
      rw [fM_isBalanced_104] at hf
      refine lv_iload_n hx hb dX9_isBalanced_104 rfl (lv_at hl 3 rfl) ?_
      refine lv_aload_n hx hb dX9_isBalanced_105 rfl (lv_at hl 0 rfl) ?_
      obtain ⟨t8, ht8, hf⟩ := ob hf
      refine k_PVi hC LX9_164 ⟨Nat.le_of_ble_eq_true rfl, Nat.le_of_ble_eq_true rfl⟩ ⟨Nat.zero_le _, Nat.zero_le _⟩ (cM_bags l E ad q0_why q0_detail q0_reasonNow q0_detailNow q0_w q0_undos q0_savedRow q0_mind q0_changes q0_firstChange q0_isSaved y0_11 q0_line q0_lineLength q0_text q0_length q0_next q0_numbers q0_sort q0_done t8 ht8) rfl rfl hH.1 rfl rfl hl.1 rfl (Nat.le_of_ble_eq_true rfl) rfl dX9_isBalanced_106 (fun hz106 => ?_)
      refine lv_icmp_ge (tgt := 126) hx hb dX9_isBalanced_109 (by decide) (fun c9 => ?_) (fun c9 => ?_)
      · have hf := ite_t hf c9
        refine lv_iload_n hx hb dX9_isBalanced_126 rfl (lv_at hl 1 rfl) ?_
        refine lv_if_eq (tgt := 144) hx hb dX9_isBalanced_127 (by decide) (fun c10 => ?_) (fun c10 => ?_)
        · have hf := ite_t hf c10
          refine lv_iconst (v := 0) hx hb dX9_isBalanced_144 (by decide) ?_
          have hf := Option.some.inj hf
          subst hf
          exact e_Wi hC hH hr hlocks rfl rfl dX9_isBalanced_145
        · have hf := ite_f hf c10
          refine lv_iload_n hx hb dX9_isBalanced_130 rfl (lv_at hl 2 rfl) ?_
          refine lv_aload_n hx hb dX9_isBalanced_131 rfl (lv_at hl 0 rfl) ?_
          refine gX9_7 hC hH.1 0 rfl (v := .ref (ad 1)) rfl dX9_isBalanced_132 ?_
          refine lv_iconst (v := 0) hx hb dX9_isBalanced_135 (by decide) ?_
          obtain ⟨v11, hv11, hf⟩ := ob hf
          obtain ⟨hv11a, hv11b⟩ := ldA_ok hv11
          refine a_ild hC hH.1 1 rfl hv11a hv11b dX9_isBalanced_136 ?_
          refine lv_icmp_ne (tgt := 144) hx hb dX9_isBalanced_137 (by decide) (fun c12 => ?_) (fun c12 => ?_)
          · have hf := ite_f hf c12
            refine lv_iconst (v := 0) hx hb dX9_isBalanced_144 (by decide) ?_
            have hf := Option.some.inj hf
            subst hf
            exact e_Wi hC hH hr hlocks rfl rfl dX9_isBalanced_145
          · have hf := ite_t hf c12
            refine lv_iconst (v := 1) hx hb dX9_isBalanced_140 (by decide) ?_
            refine lv_goto (tgt := 145) hx hb dX9_isBalanced_141 (by decide) ?_
            have hf := Option.some.inj hf
            subst hf
            exact e_Wi hC hH hr hlocks rfl rfl dX9_isBalanced_145
      · have hf := ite_f hf c9
        refine lv_iload_n hx hb dX9_isBalanced_112 rfl (lv_at hl 2 rfl) ?_
        refine lv_aload_n hx hb dX9_isBalanced_113 rfl (lv_at hl 0 rfl) ?_
        refine lv_iload_n hx hb dX9_isBalanced_114 rfl (lv_at hl 3 rfl) ?_
        obtain ⟨t13, ht13, hf⟩ := ob hf
        refine k_PVi hC LX9_182 ⟨Nat.le_of_ble_eq_true rfl, Nat.le_of_ble_eq_true rfl⟩ ⟨Nat.zero_le _, Nat.zero_le _⟩ (cM_sizeOf l E ad q0_why q0_detail q0_reasonNow q0_detailNow q0_w q0_undos q0_savedRow q0_mind q0_changes q0_firstChange q0_isSaved y0_11 q0_line q0_lineLength q0_text q0_length q0_next q0_numbers q0_sort q0_done a3 t13 ht13) rfl rfl hH.1 rfl rfl hl.1 rfl (Nat.le_of_ble_eq_true rfl) rfl dX9_isBalanced_115 (fun hz115 => ?_)
        refine lv_iadd hx hb dX9_isBalanced_118 ?_
        refine lv_istore_n (lv' := [(2, .int (a2 + t13)), (0, .ref (ad 0)), (1, .int a1), (3, .int a3)]) hx hb dX9_isBalanced_119 rfl hl (by decide) rfl (fun ls hl => ?_)
        refine lv_iinc (v := (a3 + (1 : Int32))) (lv' := [(3, .int (a3 + (1 : Int32))), (2, .int (a2 + t13)), (0, .ref (ad 0)), (1, .int a1)]) hx hb dX9_isBalanced_120 hl (k := 3) rfl rfl (by decide) rfl (fun ls hl => ?_)
        refine lv_goto (tgt := 104) hx hb dX9_isBalanced_123 (by decide) ?_
        exact ih y0_11 a1 (a2 + t13) (a3 + (1 : Int32)) ls (lv_sub hl [2, 3, 1, 0] rfl) _ _ hH hf
  have L36 : ∀ (n : Nat) (y0_11 : (Nat → Int32)) (a1 : Int32) (a2 : Int32) (a3 : Int32) (ls : Array Slot), lv_has ls 4 [(0, .ref (ad 0)), (1, .int a1), (2, .int a2), (3, .int a3)] → ∀ (H : Heap) (locs : List Loc), Hp E (adr (wM E ad q0_why q0_detail q0_reasonNow q0_detailNow q0_w q0_undos q0_savedRow q0_mind q0_changes q0_firstChange q0_isSaved q0_at q0_line q0_lineLength q0_text q0_length q0_next q0_numbers q0_sort q0_done)) (wM E ad q0_why q0_detail q0_reasonNow q0_detailNow q0_w q0_undos q0_savedRow q0_mind q0_changes q0_firstChange q0_isSaved y0_11 q0_line q0_lineLength q0_text q0_length q0_next q0_numbers q0_sort q0_done) s.heap H locs → fM_isBalanced_36 n q0_w y0_11 a1 a2 a3 = some t → W p l e rmM_isBalanced s m args below meth c H locs 0 0 (MQ below (qW E (some .int) (some (.int t.1)) (wM E ad q0_why q0_detail q0_reasonNow q0_detailNow q0_w q0_undos q0_savedRow q0_mind q0_changes q0_firstChange q0_isSaved q0_at q0_line q0_lineLength q0_text q0_length q0_next q0_numbers q0_sort q0_done) (wM E ad q0_why q0_detail q0_reasonNow q0_detailNow q0_w q0_undos q0_savedRow q0_mind q0_changes q0_firstChange q0_isSaved t.2 q0_line q0_lineLength q0_text q0_length q0_next q0_numbers q0_sort q0_done)) args s 0 0 (adr (wM E ad q0_why q0_detail q0_reasonNow q0_detailNow q0_w q0_undos q0_savedRow q0_mind q0_changes q0_firstChange q0_isSaved q0_at q0_line q0_lineLength q0_text q0_length q0_next q0_numbers q0_sort q0_done))) (F0 m 36 ls []) := by
    intro n
    induction n with
    | zero => intro y0_11 a1 a2 a3 ls hl H locs hH hf; cases hf
    | succ n ih =>
      intro y0_11 a1 a2 a3 ls hl H locs hH hf
      rw [fM_isBalanced_36] at hf
      refine lv_iload_n hx hb dX9_isBalanced_36 rfl (lv_at hl 3 rfl) ?_
      refine lv_aload_n hx hb dX9_isBalanced_37 rfl (lv_at hl 0 rfl) ?_
      refine gX9_7 hC hH.1 0 rfl (v := .ref (ad 1)) rfl dX9_isBalanced_38 ?_
      refine lv_iconst (v := 0) hx hb dX9_isBalanced_41 (by decide) ?_
      obtain ⟨v6, hv6, hf⟩ := ob hf
      obtain ⟨hv6a, hv6b⟩ := ldA_ok hv6
      refine a_ild hC hH.1 1 rfl hv6a hv6b dX9_isBalanced_42 ?_
      refine lv_icmp_ge (tgt := 102) hx hb dX9_isBalanced_43 (by decide) (fun c7 => ?_) (fun c7 => ?_)
      · have hf := ite_t hf c7
        refine lv_iconst (v := 0) hx hb dX9_isBalanced_102 (by decide) ?_
        refine lv_istore_n (lv' := [(3, .int (0 : Int32)), (0, .ref (ad 0)), (1, .int a1), (2, .int a2)]) hx hb dX9_isBalanced_103 rfl hl (by decide) rfl (fun ls hl => ?_)
        exact L104 FU y0_11 a1 a2 (0 : Int32) ls (lv_sub hl [1, 2, 3, 0] rfl) _ _ hH hf
      · have hf := ite_f hf c7
        refine lv_iload_n hx hb dX9_isBalanced_46 rfl (lv_at hl 1 rfl) ?_
        refine lv_if_eq (tgt := 94) hx hb dX9_isBalanced_47 (by decide) (fun c14 => ?_) (fun c14 => ?_)
        · have hf := ite_t hf c14
          refine lv_iconst (v := 0) hx hb dX9_isBalanced_94 (by decide) ?_
          refine lv_istore_n (lv' := [(1, .int (0 : Int32)), (0, .ref (ad 0)), (2, .int a2), (3, .int a3)]) hx hb dX9_isBalanced_95 rfl hl (by decide) rfl (fun ls hl => ?_)
          refine lv_iinc (v := (a3 + (1 : Int32))) (lv' := [(3, .int (a3 + (1 : Int32))), (1, .int (0 : Int32)), (0, .ref (ad 0)), (2, .int a2)]) hx hb dX9_isBalanced_96 hl (k := 3) rfl rfl (by decide) rfl (fun ls hl => ?_)
          refine lv_goto (tgt := 36) hx hb dX9_isBalanced_99 (by decide) ?_
          exact ih y0_11 (0 : Int32) a2 (a3 + (1 : Int32)) ls (lv_sub hl [2, 1, 3, 0] rfl) _ _ hH hf
        · have hf := ite_f hf c14
          refine lv_aload_n hx hb dX9_isBalanced_50 rfl (lv_at hl 0 rfl) ?_
          refine lv_iload_n hx hb dX9_isBalanced_51 rfl (lv_at hl 3 rfl) ?_
          obtain ⟨t15, ht15, hf⟩ := ob hf
          refine k_PVi hC LX9_142 ⟨Nat.le_of_ble_eq_true rfl, Nat.le_of_ble_eq_true rfl⟩ ⟨Nat.zero_le _, Nat.zero_le _⟩ (cM_byBits l E ad q0_why q0_detail q0_reasonNow q0_detailNow q0_w q0_undos q0_savedRow q0_mind q0_changes q0_firstChange q0_isSaved y0_11 q0_line q0_lineLength q0_text q0_length q0_next q0_numbers q0_sort q0_done a3 t15 ht15) rfl rfl hH.1 rfl rfl hl.1 rfl (Nat.le_of_ble_eq_true rfl) rfl dX9_isBalanced_52 (fun hz52 => ?_)
          refine lv_aload_n hx hb dX9_isBalanced_55 rfl (lv_at hl 0 rfl) ?_
          refine lv_iload_n hx hb dX9_isBalanced_56 rfl (lv_at hl 3 rfl) ?_
          obtain ⟨t16, ht16, hf⟩ := ob hf
          refine k_PVi hC LX9_86 ⟨Nat.le_of_ble_eq_true rfl, Nat.le_of_ble_eq_true rfl⟩ ⟨Nat.zero_le _, Nat.zero_le _⟩ (cM_is l E ad q0_why q0_detail q0_reasonNow q0_detailNow q0_w q0_undos q0_savedRow q0_mind q0_changes q0_firstChange q0_isSaved y0_11 q0_line q0_lineLength q0_text q0_length q0_next q0_numbers q0_sort q0_done a3 t16 ht16) rfl rfl hH.1 rfl rfl hl.1 rfl (Nat.le_of_ble_eq_true rfl) rfl dX9_isBalanced_57 (fun hz57 => ?_)
          refine lv_icmp_ne (tgt := 94) hx hb dX9_isBalanced_60 (by decide) (fun c17 => ?_) (fun c17 => ?_)
          · have hf := ite_f hf c17
            refine lv_iconst (v := 0) hx hb dX9_isBalanced_94 (by decide) ?_
            refine lv_istore_n (lv' := [(1, .int (0 : Int32)), (0, .ref (ad 0)), (2, .int a2), (3, .int a3)]) hx hb dX9_isBalanced_95 rfl hl (by decide) rfl (fun ls hl => ?_)
            refine lv_iinc (v := (a3 + (1 : Int32))) (lv' := [(3, .int (a3 + (1 : Int32))), (1, .int (0 : Int32)), (0, .ref (ad 0)), (2, .int a2)]) hx hb dX9_isBalanced_96 hl (k := 3) rfl rfl (by decide) rfl (fun ls hl => ?_)
            refine lv_goto (tgt := 36) hx hb dX9_isBalanced_99 (by decide) ?_
            exact ih y0_11 (0 : Int32) a2 (a3 + (1 : Int32)) ls (lv_sub hl [2, 1, 3, 0] rfl) _ _ hH hf
          · have hf := ite_t hf c17
            refine lv_aload_n hx hb dX9_isBalanced_63 rfl (lv_at hl 0 rfl) ?_
            refine lv_iconst (v := 0) hx hb dX9_isBalanced_64 (by decide) ?_
            refine lv_aload_n hx hb dX9_isBalanced_65 rfl (lv_at hl 0 rfl) ?_
            refine gX9_7 hC hH.1 0 rfl (v := .ref (ad 1)) rfl dX9_isBalanced_66 ?_
            refine lv_iconst (v := 0) hx hb dX9_isBalanced_69 (by decide) ?_
            obtain ⟨v18, hv18, hf⟩ := ob hf
            obtain ⟨hv18a, hv18b⟩ := ldA_ok hv18
            refine a_ild hC hH.1 1 rfl hv18a hv18b dX9_isBalanced_70 ?_
            refine lv_iload_n hx hb dX9_isBalanced_71 rfl (lv_at hl 3 rfl) ?_
            obtain ⟨t19, ht19, hf⟩ := ob hf
            refine k_PVi hC LX9_155 ⟨Nat.le_of_ble_eq_true rfl, Nat.le_of_ble_eq_true rfl⟩ ⟨Nat.zero_le _, Nat.zero_le _⟩ (cM_bySize l E ad q0_why q0_detail q0_reasonNow q0_detailNow q0_w q0_undos q0_savedRow q0_mind q0_changes q0_firstChange q0_isSaved y0_11 q0_line q0_lineLength q0_text q0_length q0_next q0_numbers q0_sort q0_done (0 : Int32) v18 a3 t19 ht19) rfl rfl hH.1 rfl rfl hl.1 rfl (Nat.le_of_ble_eq_true rfl) rfl dX9_isBalanced_72 (fun hz72 => ?_)
            refine lv_aload_n hx hb dX9_isBalanced_75 rfl (lv_at hl 0 rfl) ?_
            refine lv_iconst (v := 0) hx hb dX9_isBalanced_76 (by decide) ?_
            refine lv_aload_n hx hb dX9_isBalanced_77 rfl (lv_at hl 0 rfl) ?_
            refine gX9_7 hC hH.1 0 rfl (v := .ref (ad 1)) rfl dX9_isBalanced_78 ?_
            refine lv_iconst (v := 0) hx hb dX9_isBalanced_81 (by decide) ?_
            obtain ⟨v20, hv20, hf⟩ := ob hf
            obtain ⟨hv20a, hv20b⟩ := ldA_ok hv20
            refine a_ild hC hH.1 1 rfl hv20a hv20b dX9_isBalanced_82 ?_
            refine lv_iload_n hx hb dX9_isBalanced_83 rfl (lv_at hl 3 rfl) ?_
            obtain ⟨t21, ht21, hf⟩ := ob hf
            refine k_PVi hC LX9_161 ⟨Nat.le_of_ble_eq_true rfl, Nat.le_of_ble_eq_true rfl⟩ ⟨Nat.zero_le _, Nat.zero_le _⟩ (cM_bySizeAgain l E ad q0_why q0_detail q0_reasonNow q0_detailNow q0_w q0_undos q0_savedRow q0_mind q0_changes q0_firstChange q0_isSaved y0_11 q0_line q0_lineLength q0_text q0_length q0_next q0_numbers q0_sort q0_done (0 : Int32) v20 a3 t21 ht21) rfl rfl hH.1 rfl rfl hl.1 rfl (Nat.le_of_ble_eq_true rfl) rfl dX9_isBalanced_84 (fun hz84 => ?_)
            refine lv_icmp_ne (tgt := 94) hx hb dX9_isBalanced_87 (by decide) (fun c22 => ?_) (fun c22 => ?_)
            · have hf := ite_f hf c22
              refine lv_iconst (v := 0) hx hb dX9_isBalanced_94 (by decide) ?_
              refine lv_istore_n (lv' := [(1, .int (0 : Int32)), (0, .ref (ad 0)), (2, .int a2), (3, .int a3)]) hx hb dX9_isBalanced_95 rfl hl (by decide) rfl (fun ls hl => ?_)
              refine lv_iinc (v := (a3 + (1 : Int32))) (lv' := [(3, .int (a3 + (1 : Int32))), (1, .int (0 : Int32)), (0, .ref (ad 0)), (2, .int a2)]) hx hb dX9_isBalanced_96 hl (k := 3) rfl rfl (by decide) rfl (fun ls hl => ?_)
              refine lv_goto (tgt := 36) hx hb dX9_isBalanced_99 (by decide) ?_
              exact ih y0_11 (0 : Int32) a2 (a3 + (1 : Int32)) ls (lv_sub hl [2, 1, 3, 0] rfl) _ _ hH hf
            · have hf := ite_t hf c22
              refine lv_iconst (v := 1) hx hb dX9_isBalanced_90 (by decide) ?_
              refine lv_goto (tgt := 95) hx hb dX9_isBalanced_91 (by decide) ?_
              refine lv_istore_n (lv' := [(1, .int (1 : Int32)), (0, .ref (ad 0)), (2, .int a2), (3, .int a3)]) hx hb dX9_isBalanced_95 rfl hl (by decide) rfl (fun ls hl => ?_)
              refine lv_iinc (v := (a3 + (1 : Int32))) (lv' := [(3, .int (a3 + (1 : Int32))), (1, .int (1 : Int32)), (0, .ref (ad 0)), (2, .int a2)]) hx hb dX9_isBalanced_96 hl (k := 3) rfl rfl (by decide) rfl (fun ls hl => ?_)
              refine lv_goto (tgt := 36) hx hb dX9_isBalanced_99 (by decide) ?_
              exact ih y0_11 (1 : Int32) a2 (a3 + (1 : Int32)) ls (lv_sub hl [2, 1, 3, 0] rfl) _ _ hH hf
  intro H locs hH
  rw [fM_isBalanced] at hf
  refine lv_aload_n hx hb dX9_isBalanced_0 rfl (lv_at hl 0 rfl) ?_
  obtain ⟨t1, ht1, hf⟩ := ob hf
  refine k_WVsv hC LX9_127 ⟨Nat.le_of_ble_eq_true rfl, Nat.le_of_ble_eq_true rfl⟩ ⟨Nat.zero_le _, Nat.zero_le _⟩ (cM_findsRows l E ad q0_why q0_detail q0_reasonNow q0_detailNow q0_w q0_undos q0_savedRow q0_mind q0_changes q0_firstChange q0_isSaved q0_at q0_line q0_lineLength q0_text q0_length q0_next q0_numbers q0_sort q0_done t1 ht1) rfl rfl hH rfl rfl rfl hl.1 rfl (Nat.le_of_ble_eq_true rfl) rfl dX9_isBalanced_1 (fun H locs hz1 hH => ?_)
  have hH : Hp E (adr (wM E ad q0_why q0_detail q0_reasonNow q0_detailNow q0_w q0_undos q0_savedRow q0_mind q0_changes q0_firstChange q0_isSaved q0_at q0_line q0_lineLength q0_text q0_length q0_next q0_numbers q0_sort q0_done)) (wM E ad q0_why q0_detail q0_reasonNow q0_detailNow q0_w q0_undos q0_savedRow q0_mind q0_changes q0_firstChange q0_isSaved t1 q0_line q0_lineLength q0_text q0_length q0_next q0_numbers q0_sort q0_done) s.heap H locs := hH
  refine lv_aload_n hx hb dX9_isBalanced_4 rfl (lv_at hl 0 rfl) ?_
  refine gX9_7 hC hH.1 0 rfl (v := .ref (ad 1)) rfl dX9_isBalanced_5 ?_
  refine lv_iconst (v := 0) hx hb dX9_isBalanced_8 (by decide) ?_
  obtain ⟨v2, hv2, hf⟩ := ob hf
  obtain ⟨hv2a, hv2b⟩ := ldA_ok hv2
  refine a_ild hC hH.1 1 rfl hv2a hv2b dX9_isBalanced_9 ?_
  refine lv_aload_n hx hb dX9_isBalanced_10 rfl (lv_at hl 0 rfl) ?_
  refine gX9_7 hC hH.1 0 rfl (v := .ref (ad 1)) rfl dX9_isBalanced_11 ?_
  refine lv_iconst (v := 1) hx hb dX9_isBalanced_14 (by decide) ?_
  obtain ⟨v3, hv3, hf⟩ := ob hf
  obtain ⟨hv3a, hv3b⟩ := ldA_ok hv3
  refine a_ild hC hH.1 1 rfl hv3a hv3b dX9_isBalanced_15 ?_
  refine lv_aload_n hx hb dX9_isBalanced_16 rfl (lv_at hl 0 rfl) ?_
  refine gX9_7 hC hH.1 0 rfl (v := .ref (ad 1)) rfl dX9_isBalanced_17 ?_
  refine lv_iconst (v := 2) hx hb dX9_isBalanced_20 (by decide) ?_
  obtain ⟨v4, hv4, hf⟩ := ob hf
  obtain ⟨hv4a, hv4b⟩ := ldA_ok hv4
  refine a_ild hC hH.1 1 rfl hv4a hv4b dX9_isBalanced_21 ?_
  refine lv_isub hx hb dX9_isBalanced_22 ?_
  refine lv_icmp_ne (tgt := 30) hx hb dX9_isBalanced_23 (by decide) (fun c5 => ?_) (fun c5 => ?_)
  · have hf := ite_f hf c5
    refine lv_iconst (v := 0) hx hb dX9_isBalanced_30 (by decide) ?_
    refine lv_istore_n (lv' := [(1, .int (0 : Int32)), (0, .ref (ad 0))]) hx hb dX9_isBalanced_31 rfl hl (by decide) rfl (fun ls hl => ?_)
    refine lv_iconst (v := 0) hx hb dX9_isBalanced_32 (by decide) ?_
    refine lv_istore_n (lv' := [(2, .int (0 : Int32)), (1, .int (0 : Int32)), (0, .ref (ad 0))]) hx hb dX9_isBalanced_33 rfl hl (by decide) rfl (fun ls hl => ?_)
    refine lv_iconst (v := 0) hx hb dX9_isBalanced_34 (by decide) ?_
    refine lv_istore_n (lv' := [(3, .int (0 : Int32)), (2, .int (0 : Int32)), (1, .int (0 : Int32)), (0, .ref (ad 0))]) hx hb dX9_isBalanced_35 rfl hl (by decide) rfl (fun ls hl => ?_)
    exact L36 FU t1 (0 : Int32) (0 : Int32) (0 : Int32) ls (lv_sub hl [3, 2, 1, 0] rfl) _ _ hH hf
  · have hf := ite_t hf c5
    refine lv_iconst (v := 1) hx hb dX9_isBalanced_26 (by decide) ?_
    refine lv_goto (tgt := 31) hx hb dX9_isBalanced_27 (by decide) ?_
    refine lv_istore_n (lv' := [(1, .int (1 : Int32)), (0, .ref (ad 0))]) hx hb dX9_isBalanced_31 rfl hl (by decide) rfl (fun ls hl => ?_)
    refine lv_iconst (v := 0) hx hb dX9_isBalanced_32 (by decide) ?_
    refine lv_istore_n (lv' := [(2, .int (0 : Int32)), (1, .int (1 : Int32)), (0, .ref (ad 0))]) hx hb dX9_isBalanced_33 rfl hl (by decide) rfl (fun ls hl => ?_)
    refine lv_iconst (v := 0) hx hb dX9_isBalanced_34 (by decide) ?_
    refine lv_istore_n (lv' := [(3, .int (0 : Int32)), (2, .int (0 : Int32)), (1, .int (1 : Int32)), (0, .ref (ad 0))]) hx hb dX9_isBalanced_35 rfl hl (by decide) rfl (fun ls hl => ?_)
    exact L36 FU t1 (1 : Int32) (0 : Int32) (0 : Int32) ls (lv_sub hl [3, 2, 1, 0] rfl) _ _ hH hf
abbrev rmM_meanWeight : Room := { frames := 2, cells := 0, slots := 0, locals := 45 }
set_option maxHeartbeats 4000000 in
set_option maxRecDepth 100000 in
theorem cM_meanWeight (l : Launch) (E : eE) (ad : Nat → Nat) (q0_why : Int32) (q0_detail : Int32) (q0_reasonNow : Int32) (q0_detailNow : Int32) (q0_w : (Nat → Int32)) (q0_undos : (Nat → Int32)) (q0_savedRow : (Nat → Int32)) (q0_mind : (Nat → Int32)) (q0_changes : Int32) (q0_firstChange : Int32) (q0_isSaved : Int32) (q0_at : (Nat → Int32)) (q0_line : (Nat → Int32)) (q0_lineLength : Int32) (q0_text : (Nat → Int32)) (q0_length : Int32) (q0_next : Int32) (q0_numbers : (Nat → Int32)) (q0_sort : Int32) (q0_done : Int32) (r : UInt64) (hf : fM_meanWeight q0_w = some r) : cP l E yX9_meanWeight cX9_meanWeight 1 (some .double) rmM_meanWeight [.ref (ad 0)] (wM E ad q0_why q0_detail q0_reasonNow q0_detailNow q0_w q0_undos q0_savedRow q0_mind q0_changes q0_firstChange q0_isSaved q0_at q0_line q0_lineLength q0_text q0_length q0_next q0_numbers q0_sort q0_done) (some (.double r)) := by
  refine Met.ofW (cc := cX9_meanWeight) (maxL := 1) (ret := (some .double)) (by decide) rfl ?_
  intro p e s m args below meth c s₁ B hml hv
  obtain ⟨hargs, hP, hK⟩ := hv
  have hx := B.exec
  have hb := B.bytes
  have hr := B.returns
  have hts := atoms_spec (ws := ws_ yX9_meanWeight cX9_meanWeight 1 (some .double)) B.pre
  have hta : ∀ w ∈ lw_all, w.before args s = true := fun w h => hts w (List.mem_cons_of_mem _ h)
  have hown : s.vm.findClass RX9 = some m.cls := findClass_of_methodNamed B.named
  have hlocks := B.notSynchronized
  have hC : Cx p s m args c cX9_meanWeight 1 RX9 E := ⟨hx, hb, hml, hown, hta, hK⟩
  obtain ⟨ls, he, hl⟩ := entry_ (m := m) (n := 1) hargs (Nat.le_of_ble_eq_true rfl)
  rw [he]
  have hl : lv_has ls 1 [(0, .ref (ad 0))] := hl
  show W p l e rmM_meanWeight s m args below meth c s.heap [] 0 0 (MQ below (qP (some .double) (some (.double r))) args s 0 0 (fun _ => False)) (F0 m 0 ls [])
  rw [fM_meanWeight] at hf
  refine lv_aload_n hx hb dX9_meanWeight_0 rfl (lv_at hl 0 rfl) ?_
  refine gX9_7 hC hP 0 rfl (v := .ref (ad 1)) rfl dX9_meanWeight_1 ?_
  refine lv_iconst (v := 0) hx hb dX9_meanWeight_4 (by decide) ?_
  obtain ⟨v1, hv1, hf⟩ := ob hf
  obtain ⟨hv1a, hv1b⟩ := ldA_ok hv1
  refine a_ild hC hP 1 rfl hv1a hv1b dX9_meanWeight_5 ?_
  refine lv_if_ne (tgt := 13) hx hb dX9_meanWeight_6 (by decide) (fun c2 => ?_) (fun c2 => ?_)
  · have hf := ite_f hf c2
    refine lv_aload_n hx hb dX9_meanWeight_13 rfl (lv_at hl 0 rfl) ?_
    refine lv_iconst (v := 0) hx hb dX9_meanWeight_14 (by decide) ?_
    refine lv_aload_n hx hb dX9_meanWeight_15 rfl (lv_at hl 0 rfl) ?_
    refine gX9_7 hC hP 0 rfl (v := .ref (ad 1)) rfl dX9_meanWeight_16 ?_
    refine lv_iconst (v := 0) hx hb dX9_meanWeight_19 (by decide) ?_
    obtain ⟨v3, hv3, hf⟩ := ob hf
    obtain ⟨hv3a, hv3b⟩ := ldA_ok hv3
    refine a_ild hC hP 1 rfl hv3a hv3b dX9_meanWeight_20 ?_
    obtain ⟨t4, ht4, hf⟩ := ob hf
    refine k_PVi hC LX9_170 ⟨Nat.le_of_ble_eq_true rfl, Nat.le_of_ble_eq_true rfl⟩ ⟨Nat.zero_le _, Nat.zero_le _⟩ (cM_sum l E ad q0_why q0_detail q0_reasonNow q0_detailNow q0_w q0_undos q0_savedRow q0_mind q0_changes q0_firstChange q0_isSaved q0_at q0_line q0_lineLength q0_text q0_length q0_next q0_numbers q0_sort q0_done (0 : Int32) v3 t4 ht4) rfl rfl hP rfl rfl hl.1 rfl (Nat.le_of_ble_eq_true rfl) rfl dX9_meanWeight_21 (fun hz21 => ?_)
    refine lv_i2d hx hb dX9_meanWeight_24 ?_
    refine lv_aload_n hx hb dX9_meanWeight_25 rfl (lv_at hl 0 rfl) ?_
    refine gX9_7 hC hP 0 rfl (v := .ref (ad 1)) rfl dX9_meanWeight_26 ?_
    refine lv_iconst (v := 0) hx hb dX9_meanWeight_29 (by decide) ?_
    obtain ⟨v5, hv5, hf⟩ := ob hf
    obtain ⟨hv5a, hv5b⟩ := ldA_ok hv5
    refine a_ild hC hP 1 rfl hv5a hv5b dX9_meanWeight_30 ?_
    refine lv_i2d hx hb dX9_meanWeight_31 ?_
    obtain ⟨w6, hw6, hf⟩ := ob hf
    obtain ⟨hw6a, hw6b⟩ := dvD_ok hw6
    refine lv_ddiv hx hb dX9_meanWeight_32 hw6a ?_
    rw [hw6b]
    have hf := Option.some.inj hf
    exact e_Pd hC hr hlocks hf dX9_meanWeight_33
  · have hf := ite_t hf c2
    refine lv_dconst0 hx hb dX9_meanWeight_9 ?_
    refine lv_goto (tgt := 33) hx hb dX9_meanWeight_10 (by decide) ?_
    have hf := Option.some.inj hf
    exact e_Pd hC hr hlocks hf dX9_meanWeight_33
