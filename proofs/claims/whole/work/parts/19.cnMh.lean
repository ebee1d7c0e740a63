abbrev rmM_oneShare : Room := { frames := 3, cells := 0, slots := 0, locals := 68 }
set_option maxHeartbeats 4000000 in
set_option maxRecDepth 100000 in
theorem cM_oneShare (l : Launch) (E : eE) (ad : Nat → Nat) (q0_why : Int32) (q0_detail : Int32) (q0_reasonNow : Int32) (q0_detailNow : Int32) (q0_w : (Nat → Int32)) (q0_undos : (Nat → Int32)) (q0_savedRow : (Nat → Int32)) (q0_mind : (Nat → Int32)) (q0_changes : Int32) (q0_firstChange : Int32) (q0_isSaved : Int32) (q0_at : (Nat → Int32)) (q0_line : (Nat → Int32)) (q0_lineLength : Int32) (q0_text : (Nat → Int32)) (q0_length : Int32) (q0_next : Int32) (q0_numbers : (Nat → Int32)) (q0_sort : Int32) (q0_done : Int32) (a1 : Int32) (t : UInt32 × (Nat → Int32)) (hf : fM_oneShare q0_w q0_at a1 = some t) : cW l E yX9_oneShare cX9_oneShare 2 (some .float) rmM_oneShare [.ref (ad 0), .int a1] (wM E ad q0_why q0_detail q0_reasonNow q0_detailNow q0_w q0_undos q0_savedRow q0_mind q0_changes q0_firstChange q0_isSaved q0_at q0_line q0_lineLength q0_text q0_length q0_next q0_numbers q0_sort q0_done) (some (.float t.1)) (wM E ad q0_why q0_detail q0_reasonNow q0_detailNow q0_w q0_undos q0_savedRow q0_mind q0_changes q0_firstChange q0_isSaved t.2 q0_line q0_lineLength q0_text q0_length q0_next q0_numbers q0_sort q0_done) := by
  refine Met.ofW (cc := cX9_oneShare) (maxL := 2) (ret := (some .float)) (by decide) rfl ?_
  intro p e s m args below meth c s₁ B hml hv
  obtain ⟨hargs, hP, hK, hD0⟩ := hv
  have hx := B.exec
  have hb := B.bytes
  have hr := B.returns
  have hts := atoms_spec (ws := ws_ yX9_oneShare cX9_oneShare 2 (some .float)) B.pre
  have hta : ∀ w ∈ lw_all, w.before args s = true := fun w h => hts w (List.mem_cons_of_mem _ h)
  have hown : s.vm.findClass RX9 = some m.cls := findClass_of_methodNamed B.named
  have hlocks := B.notSynchronized
  have hC : Cx p s m args c cX9_oneShare 2 RX9 E := ⟨hx, hb, hml, hown, hta, hK⟩
  have hH : Hp E (adr (wM E ad q0_why q0_detail q0_reasonNow q0_detailNow q0_w q0_undos q0_savedRow q0_mind q0_changes q0_firstChange q0_isSaved q0_at q0_line q0_lineLength q0_text q0_length q0_next q0_numbers q0_sort q0_done)) (wM E ad q0_why q0_detail q0_reasonNow q0_detailNow q0_w q0_undos q0_savedRow q0_mind q0_changes q0_firstChange q0_isSaved q0_at q0_line q0_lineLength q0_text q0_length q0_next q0_numbers q0_sort q0_done) s.heap s.heap [] := Hp.start hP hD0
  obtain ⟨ls, he, hl⟩ := entry_ (m := m) (n := 2) hargs (Nat.le_of_ble_eq_true rfl)
  rw [he]
  have hl : lv_has ls 2 [(0, .ref (ad 0)), (1, .int a1)] := hl
  show W p l e rmM_oneShare s m args below meth c s.heap [] 0 0 (MQ below (qW E (some .float) (some (.float t.1)) (wM E ad q0_why q0_detail q0_reasonNow q0_detailNow q0_w q0_undos q0_savedRow q0_mind q0_changes q0_firstChange q0_isSaved q0_at q0_line q0_lineLength q0_text q0_length q0_next q0_numbers q0_sort q0_done) (wM E ad q0_why q0_detail q0_reasonNow q0_detailNow q0_w q0_undos q0_savedRow q0_mind q0_changes q0_firstChange q0_isSaved t.2 q0_line q0_lineLength q0_text q0_length q0_next q0_numbers q0_sort q0_done)) args s 0 0 (adr (wM E ad q0_why q0_detail q0_reasonNow q0_detailNow q0_w q0_undos q0_savedRow q0_mind q0_changes q0_firstChange q0_isSaved q0_at q0_line q0_lineLength q0_text q0_length q0_next q0_numbers q0_sort q0_done))) (F0 m 0 ls [])
  suffices hmain : ∀ (H : Heap) (locs : List Loc), Hp E (adr (wM E ad q0_why q0_detail q0_reasonNow q0_detailNow q0_w q0_undos q0_savedRow q0_mind q0_changes q0_firstChange q0_isSaved q0_at q0_line q0_lineLength q0_text q0_length q0_next q0_numbers q0_sort q0_done)) (wM E ad q0_why q0_detail q0_reasonNow q0_detailNow q0_w q0_undos q0_savedRow q0_mind q0_changes q0_firstChange q0_isSaved q0_at q0_line q0_lineLength q0_text q0_length q0_next q0_numbers q0_sort q0_done) s.heap H locs → W p l e rmM_oneShare s m args below meth c H locs 0 0 (MQ below (qW E (some .float) (some (.float t.1)) (wM E ad q0_why q0_detail q0_reasonNow q0_detailNow q0_w q0_undos q0_savedRow q0_mind q0_changes q0_firstChange q0_isSaved q0_at q0_line q0_lineLength q0_text q0_length q0_next q0_numbers q0_sort q0_done) (wM E ad q0_why q0_detail q0_reasonNow q0_detailNow q0_w q0_undos q0_savedRow q0_mind q0_changes q0_firstChange q0_isSaved t.2 q0_line q0_lineLength q0_text q0_length q0_next q0_numbers q0_sort q0_done)) args s 0 0 (adr (wM E ad q0_why q0_detail q0_reasonNow q0_detailNow q0_w q0_undos q0_savedRow q0_mind q0_changes q0_firstChange q0_isSaved q0_at q0_line q0_lineLength q0_text q0_length q0_next q0_numbers q0_sort q0_done))) (F0 m 0 ls []) from hmain _ _ hH
  clear hH
  intro H locs hH
  rw [fM_oneShare] at hf
  refine lv_iload_n hx hb dX9_oneShare_0 rfl (lv_at hl 1 rfl) ?_
  refine k_PSi hC LX9_124 ⟨Nat.le_of_ble_eq_true rfl, Nat.le_of_ble_eq_true rfl⟩ ⟨Nat.zero_le _, Nat.zero_le _⟩ (cM_isRow l E a1 _ rfl) rfl rfl (vP_nil) hl.1 rfl (Nat.le_of_ble_eq_true rfl) rfl dX9_oneShare_1 (fun hz1 => ?_)
  refine lv_if_eq (tgt := 16) hx hb dX9_oneShare_4 (by decide) (fun c1 => ?_) (fun c1 => ?_)
  · have hf := ite_t hf c1
    refine lv_fconst0 hx hb dX9_oneShare_16 ?_
    have hf := Option.some.inj hf
    subst hf
    exact e_Wf hC hH hr hlocks rfl rfl dX9_oneShare_17
  · have hf := ite_f hf c1
    refine lv_aload_n hx hb dX9_oneShare_7 rfl (lv_at hl 0 rfl) ?_
    refine gX9_7 hC hH.1 0 rfl (v := .ref (ad 1)) rfl dX9_oneShare_8 ?_
    refine lv_iconst (v := 0) hx hb dX9_oneShare_11 (by decide) ?_
    obtain ⟨v2, hv2, hf⟩ := ob hf
    obtain ⟨hv2a, hv2b⟩ := ldA_ok hv2
    refine a_ild hC hH.1 1 rfl hv2a hv2b dX9_oneShare_12 ?_
    refine lv_if_ne (tgt := 18) hx hb dX9_oneShare_13 (by decide) (fun c3 => ?_) (fun c3 => ?_)
    · have hf := ite_f hf c3
      refine lv_aload_n hx hb dX9_oneShare_18 rfl (lv_at hl 0 rfl) ?_
      obtain ⟨t4, ht4, hf⟩ := ob hf
      refine k_WVsv hC LX9_127 ⟨Nat.le_of_ble_eq_true rfl, Nat.le_of_ble_eq_true rfl⟩ ⟨Nat.zero_le _, Nat.zero_le _⟩ (cM_findsRows l E ad q0_why q0_detail q0_reasonNow q0_detailNow q0_w q0_undos q0_savedRow q0_mind q0_changes q0_firstChange q0_isSaved q0_at q0_line q0_lineLength q0_text q0_length q0_next q0_numbers q0_sort q0_done t4 ht4) rfl rfl hH rfl rfl rfl hl.1 rfl (Nat.le_of_ble_eq_true rfl) rfl dX9_oneShare_19 (fun H locs hz19 hH => ?_)
      have hH : Hp E (adr (wM E ad q0_why q0_detail q0_reasonNow q0_detailNow q0_w q0_undos q0_savedRow q0_mind q0_changes q0_firstChange q0_isSaved q0_at q0_line q0_lineLength q0_text q0_length q0_next q0_numbers q0_sort q0_done)) (wM E ad q0_why q0_detail q0_reasonNow q0_detailNow q0_w q0_undos q0_savedRow q0_mind q0_changes q0_firstChange q0_isSaved t4 q0_line q0_lineLength q0_text q0_length q0_next q0_numbers q0_sort q0_done) s.heap H locs := hH
      refine lv_aload_n hx hb dX9_oneShare_22 rfl (lv_at hl 0 rfl) ?_
      refine lv_iload_n hx hb dX9_oneShare_23 rfl (lv_at hl 1 rfl) ?_
      refine lv_iconst (v := 1) hx hb dX9_oneShare_24 (by decide) ?_
      refine lv_aload_n hx hb dX9_oneShare_25 rfl (lv_at hl 0 rfl) ?_
      refine gX9_7 hC hH.1 0 rfl (v := .ref (ad 1)) rfl dX9_oneShare_26 ?_
      refine lv_iconst (v := 0) hx hb dX9_oneShare_29 (by decide) ?_
      obtain ⟨v5, hv5, hf⟩ := ob hf
      obtain ⟨hv5a, hv5b⟩ := ldA_ok hv5
      refine a_ild hC hH.1 1 rfl hv5a hv5b dX9_oneShare_30 ?_
      obtain ⟨t6, ht6, hf⟩ := ob hf
      refine k_PVi hC LX9_135 ⟨Nat.le_of_ble_eq_true rfl, Nat.le_of_ble_eq_true rfl⟩ ⟨Nat.zero_le _, Nat.zero_le _⟩ (cM_counted l E ad q0_why q0_detail q0_reasonNow q0_detailNow q0_w q0_undos q0_savedRow q0_mind q0_changes q0_firstChange q0_isSaved t4 q0_line q0_lineLength q0_text q0_length q0_next q0_numbers q0_sort q0_done a1 (1 : Int32) v5 t6 ht6) rfl rfl hH.1 rfl rfl hl.1 rfl (Nat.le_of_ble_eq_true rfl) rfl dX9_oneShare_31 (fun hz31 => ?_)
      refine lv_i2f hx hb dX9_oneShare_34 ?_
      refine lv_aload_n hx hb dX9_oneShare_35 rfl (lv_at hl 0 rfl) ?_
      refine gX9_7 hC hH.1 0 rfl (v := .ref (ad 1)) rfl dX9_oneShare_36 ?_
      refine lv_iconst (v := 0) hx hb dX9_oneShare_39 (by decide) ?_
      obtain ⟨v7, hv7, hf⟩ := ob hf
      obtain ⟨hv7a, hv7b⟩ := ldA_ok hv7
      refine a_ild hC hH.1 1 rfl hv7a hv7b dX9_oneShare_40 ?_
      refine lv_i2f hx hb dX9_oneShare_41 ?_
      obtain ⟨w8, hw8, hf⟩ := ob hf
      obtain ⟨hw8a, hw8b⟩ := dvF_ok hw8
      refine lv_fdiv hx hb dX9_oneShare_42 hw8a ?_
      rw [hw8b]
      have hf := Option.some.inj hf
      subst hf
      exact e_Wf hC hH hr hlocks rfl rfl dX9_oneShare_43
    · have hf := ite_t hf c3
      refine lv_fconst0 hx hb dX9_oneShare_16 ?_
      have hf := Option.some.inj hf
      subst hf
      exact e_Wf hC hH hr hlocks rfl rfl dX9_oneShare_17
abbrev rmM_append : Room := { frames := 1, cells := 0, slots := 0, locals := 22 }
set_option maxHeartbeats 4000000 in
set_option maxRecDepth 100000 in
theorem cM_append (l : Launch) (E : eE) (ad : Nat → Nat) (q0_why : Int32) (q0_detail : Int32) (q0_reasonNow : Int32) (q0_detailNow : Int32) (q0_w : (Nat → Int32)) (q0_undos : (Nat → Int32)) (q0_savedRow : (Nat → Int32)) (q0_mind : (Nat → Int32)) (q0_changes : Int32) (q0_firstChange : Int32) (q0_isSaved : Int32) (q0_at : (Nat → Int32)) (q0_line : (Nat → Int32)) (q0_lineLength : Int32) (q0_text : (Nat → Int32)) (q0_length : Int32) (q0_next : Int32) (q0_numbers : (Nat → Int32)) (q0_sort : Int32) (q0_done : Int32) (a1 : Int32) (t : Int32 × (Nat → Int32) × Int32) (hf : fM_append q0_text q0_length a1 = some t) : cW l E yX9_append cX9_append 2 (some .int) rmM_append [.ref (ad 0), .int a1] (wM E ad q0_why q0_detail q0_reasonNow q0_detailNow q0_w q0_undos q0_savedRow q0_mind q0_changes q0_firstChange q0_isSaved q0_at q0_line q0_lineLength q0_text q0_length q0_next q0_numbers q0_sort q0_done) (some (.int t.1)) (wM E ad q0_why q0_detail q0_reasonNow q0_detailNow q0_w q0_undos q0_savedRow q0_mind q0_changes q0_firstChange q0_isSaved q0_at q0_line q0_lineLength t.2.1 t.2.2 q0_next q0_numbers q0_sort q0_done) := by
  refine Met.ofW (cc := cX9_append) (maxL := 2) (ret := (some .int)) (by decide) rfl ?_
  intro p e s m args below meth c s₁ B hml hv
  obtain ⟨hargs, hP, hK, hD0⟩ := hv
  have hx := B.exec
  have hb := B.bytes
  have hr := B.returns
  have hts := atoms_spec (ws := ws_ yX9_append cX9_append 2 (some .int)) B.pre
  have hta : ∀ w ∈ lw_all, w.before args s = true := fun w h => hts w (List.mem_cons_of_mem _ h)
  have hown : s.vm.findClass RX9 = some m.cls := findClass_of_methodNamed B.named
  have hlocks := B.notSynchronized
  have hC : Cx p s m args c cX9_append 2 RX9 E := ⟨hx, hb, hml, hown, hta, hK⟩
  have hH : Hp E (adr (wM E ad q0_why q0_detail q0_reasonNow q0_detailNow q0_w q0_undos q0_savedRow q0_mind q0_changes q0_firstChange q0_isSaved q0_at q0_line q0_lineLength q0_text q0_length q0_next q0_numbers q0_sort q0_done)) (wM E ad q0_why q0_detail q0_reasonNow q0_detailNow q0_w q0_undos q0_savedRow q0_mind q0_changes q0_firstChange q0_isSaved q0_at q0_line q0_lineLength q0_text q0_length q0_next q0_numbers q0_sort q0_done) s.heap s.heap [] := Hp.start hP hD0
  obtain ⟨ls, he, hl⟩ := entry_ (m := m) (n := 2) hargs (Nat.le_of_ble_eq_true rfl)
  rw [he]
  have hl : lv_has ls 2 [(0, .ref (ad 0)), (1, .int a1)] := hl
  show W p l e rmM_append s m args below meth c s.heap [] 0 0 (MQ below (qW E (some .int) (some (.int t.1)) (wM E ad q0_why q0_detail q0_reasonNow q0_detailNow q0_w q0_undos q0_savedRow q0_mind q0_changes q0_firstChange q0_isSaved q0_at q0_line q0_lineLength q0_text q0_length q0_next q0_numbers q0_sort q0_done) (wM E ad q0_why q0_detail q0_reasonNow q0_detailNow q0_w q0_undos q0_savedRow q0_mind q0_changes q0_firstChange q0_isSaved q0_at q0_line q0_lineLength t.2.1 t.2.2 q0_next q0_numbers q0_sort q0_done)) args s 0 0 (adr (wM E ad q0_why q0_detail q0_reasonNow q0_detailNow q0_w q0_undos q0_savedRow q0_mind q0_changes q0_firstChange q0_isSaved q0_at q0_line q0_lineLength q0_text q0_length q0_next q0_numbers q0_sort q0_done))) (F0 m 0 ls [])
  suffices hmain : ∀ (H : Heap) (locs : List Loc), Hp E (adr (wM E ad q0_why q0_detail q0_reasonNow q0_detailNow q0_w q0_undos q0_savedRow q0_mind q0_changes q0_firstChange q0_isSaved q0_at q0_line q0_lineLength q0_text q0_length q0_next q0_numbers q0_sort q0_done)) (wM E ad q0_why q0_detail q0_reasonNow q0_detailNow q0_w q0_undos q0_savedRow q0_mind q0_changes q0_firstChange q0_isSaved q0_at q0_line q0_lineLength q0_text q0_length q0_next q0_numbers q0_sort q0_done) s.heap H locs → W p l e rmM_append s m args below meth c H locs 0 0 (MQ below (qW E (some .int) (some (.int t.1)) (wM E ad q0_why q0_detail q0_reasonNow q0_detailNow q0_w q0_undos q0_savedRow q0_mind q0_changes q0_firstChange q0_isSaved q0_at q0_line q0_lineLength q0_text q0_length q0_next q0_numbers q0_sort q0_done) (wM E ad q0_why q0_detail q0_reasonNow q0_detailNow q0_w q0_undos q0_savedRow q0_mind q0_changes q0_firstChange q0_isSaved q0_at q0_line q0_lineLength t.2.1 t.2.2 q0_next q0_numbers q0_sort q0_done)) args s 0 0 (adr (wM E ad q0_why q0_detail q0_reasonNow q0_detailNow q0_w q0_undos q0_savedRow q0_mind q0_changes q0_firstChange q0_isSaved q0_at q0_line q0_lineLength q0_text q0_length q0_next q0_numbers q0_sort q0_done))) (F0 m 0 ls []) from hmain _ _ hH
  clear hH
  intro H locs hH
  rw [fM_append] at hf
  refine lv_iload_n hx hb dX9_append_0 rfl (lv_at hl 1 rfl) ?_
  refine lv_bipush (v := 32) hx hb dX9_append_1 (by decide) ?_
  refine lv_bipush (v := 126) hx hb dX9_append_3 (by decide) ?_
  refine k_PSi hC LX9_60 ⟨Nat.le_of_ble_eq_true rfl, Nat.le_of_ble_eq_true rfl⟩ ⟨Nat.zero_le _, Nat.zero_le _⟩ (cM_isBetween l E a1 (32 : Int32) (126 : Int32) _ rfl) rfl rfl (vP_nil) hl.1 rfl (Nat.le_of_ble_eq_true rfl) rfl dX9_append_5 (fun hz5 => ?_)
  refine lv_if_ne (tgt := 14) hx hb dX9_append_8 (by decide) (fun c1 => ?_) (fun c1 => ?_)
  · have hf := ite_f hf c1
    refine lv_aload_n hx hb dX9_append_14 rfl (lv_at hl 0 rfl) ?_
    refine gX9_198 hC hH.1 0 rfl (v := .int q0_length) rfl dX9_append_15 ?_
    refine lv_bipush (v := 60) hx hb dX9_append_18 (by decide) ?_
    refine lv_icmp_ne (tgt := 26) hx hb dX9_append_20 (by decide) (fun c2 => ?_) (fun c2 => ?_)
    · have hf := ite_f hf c2
      refine lv_aload_n hx hb dX9_append_26 rfl (lv_at hl 0 rfl) ?_
      refine gX9_29 hC hH.1 0 rfl (v := .ref (ad 7)) rfl dX9_append_27 ?_
      refine lv_aload_n hx hb dX9_append_30 rfl (lv_at hl 0 rfl) ?_
      refine gX9_198 hC hH.1 0 rfl (v := .int q0_length) rfl dX9_append_31 ?_
      refine lv_iload_n hx hb dX9_append_34 rfl (lv_at hl 1 rfl) ?_
      refine lv_i2c hx hb dX9_append_35 rfl ?_
      obtain ⟨g3, hg3, hf⟩ := ob hf
      obtain ⟨hg3a, hg3b⟩ := stA_ok hg3
      refine a_cst hC hH 7 rfl hg3a hg3b (W1 := wM E ad q0_why q0_detail q0_reasonNow q0_detailNow q0_w q0_undos q0_savedRow q0_mind q0_changes q0_firstChange q0_isSaved q0_at q0_line q0_lineLength g3 q0_length q0_next q0_numbers q0_sort q0_done) rfl dX9_append_36 (pk_vc _) (fun H locs hH => ?_)
      refine lv_aload_n hx hb dX9_append_37 rfl (lv_at hl 0 rfl) ?_
      refine lv_dup hx hb dX9_append_38 rfl ?_
      refine gX9_198 hC hH.1 0 rfl (v := .int q0_length) rfl dX9_append_39 ?_
      refine lv_iconst (v := 1) hx hb dX9_append_42 (by decide) ?_
      refine lv_iadd hx hb dX9_append_43 ?_
      refine pX9_198 hC hH 0 rfl (v := .int (q0_length + (1 : Int32))) rfl rfl (Nat.le_of_ble_eq_true rfl) (W1 := wM E ad q0_why q0_detail q0_reasonNow q0_detailNow q0_w q0_undos q0_savedRow q0_mind q0_changes q0_firstChange q0_isSaved q0_at q0_line q0_lineLength g3 (q0_length + (1 : Int32)) q0_next q0_numbers q0_sort q0_done) rfl dX9_append_44 (fun H locs hH => ?_)
      refine lv_aload_n hx hb dX9_append_47 rfl (lv_at hl 0 rfl) ?_
      refine gX9_198 hC hH.1 0 rfl (v := .int (q0_length + (1 : Int32))) rfl dX9_append_48 ?_
      have hf := Option.some.inj hf
      subst hf
      exact e_Wi hC hH hr hlocks rfl rfl dX9_append_51
    · have hf := ite_t hf c2
      refine lv_bipush (v := (-13)) hx hb dX9_append_23 (by decide) ?_
      have hf := Option.some.inj hf
      subst hf
      exact e_Wi hC hH hr hlocks rfl rfl dX9_append_25
  · have hf := ite_t hf c1
    refine lv_bipush (v := (-12)) hx hb dX9_append_11 (by decide) ?_
    have hf := Option.some.inj hf
    subst hf
    exact e_Wi hC hH hr hlocks rfl rfl dX9_append_13
abbrev rmM_sign : Room := { frames := 0, cells := 0, slots := 0, locals := 0 }
set_option maxHeartbeats 4000000 in
set_option maxRecDepth 100000 in
theorem cM_sign (l : Launch) (E : eE) (ad : Nat → Nat) (q0_why : Int32) (q0_detail : Int32) (q0_reasonNow : Int32) (q0_detailNow : Int32) (q0_w : (Nat → Int32)) (q0_undos : (Nat → Int32)) (q0_savedRow : (Nat → Int32)) (q0_mind : (Nat → Int32)) (q0_changes : Int32) (q0_firstChange : Int32) (q0_isSaved : Int32) (q0_at : (Nat → Int32)) (q0_line : (Nat → Int32)) (q0_lineLength : Int32) (q0_text : (Nat → Int32)) (q0_length : Int32) (q0_next : Int32) (q0_numbers : (Nat → Int32)) (q0_sort : Int32) (q0_done : Int32) (r : Int32) (hf : fM_sign q0_text q0_length q0_next = some r) : cP l E yX9_sign cX9_sign 1 (some .int) rmM_sign [.ref (ad 0)] (wM E ad q0_why q0_detail q0_reasonNow q0_detailNow q0_w q0_undos q0_savedRow q0_mind q0_changes q0_firstChange q0_isSaved q0_at q0_line q0_lineLength q0_text q0_length q0_next q0_numbers q0_sort q0_done) (some (.int r)) := by
  refine Met.ofW (cc := cX9_sign) (maxL := 1) (ret := (some .int)) (by decide) rfl ?_
  intro p e s m args below meth c s₁ B hml hv
  obtain ⟨hargs, hP, hK⟩ := hv
  have hx := B.exec
  have hb := B.bytes
  have hr := B.returns
  have hts := atoms_spec (ws := ws_ yX9_sign cX9_sign 1 (some .int)) B.pre
  have hta : ∀ w ∈ lw_all, w.before args s = true := fun w h => hts w (List.mem_cons_of_mem _ h)
  have hown : s.vm.findClass RX9 = some m.cls := findClass_of_methodNamed B.named
  have hlocks := B.notSynchronized
  have hC : Cx p s m args c cX9_sign 1 RX9 E := ⟨hx, hb, hml, hown, hta, hK⟩
  obtain ⟨ls, he, hl⟩ := entry_ (m := m) (n := 1) hargs (Nat.le_of_ble_eq_true rfl)
  rw [he]
  have hl : lv_has ls 1 [(0, .ref (ad 0))] := hl
  show W p l e rmM_sign s m args below meth c s.heap [] 0 0 (MQ below (qP (some .int) (some (.int r))) args s 0 0 (fun _ => False)) (F0 m 0 ls [])
  rw [fM_sign] at hf
  refine lv_aload_n hx hb dX9_sign_0 rfl (lv_at hl 0 rfl) ?_
  refine gX9_201 hC hP 0 rfl (v := .int q0_next) rfl dX9_sign_1 ?_
  refine lv_aload_n hx hb dX9_sign_4 rfl (lv_at hl 0 rfl) ?_
  refine gX9_198 hC hP 0 rfl (v := .int q0_length) rfl dX9_sign_5 ?_
  refine lv_icmp_ge (tgt := 23) hx hb dX9_sign_8 (by decide) (fun c1 => ?_) (fun c1 => ?_)
  · have hf := ite_t hf c1
    refine lv_iconst (v := (-1)) hx hb dX9_sign_23 (by decide) ?_
    have hf := Option.some.inj hf
    exact e_Pi hC hr hlocks hf dX9_sign_24
  · have hf := ite_f hf c1
    refine lv_aload_n hx hb dX9_sign_11 rfl (lv_at hl 0 rfl) ?_
    refine gX9_29 hC hP 0 rfl (v := .ref (ad 7)) rfl dX9_sign_12 ?_
    refine lv_aload_n hx hb dX9_sign_15 rfl (lv_at hl 0 rfl) ?_
    refine gX9_201 hC hP 0 rfl (v := .int q0_next) rfl dX9_sign_16 ?_
    obtain ⟨v2, hv2, hf⟩ := ob hf
    obtain ⟨hv2a, hv2b⟩ := ldA_ok hv2
    refine a_cld hC hP 7 rfl hv2a hv2b dX9_sign_19 ?_
    refine lv_goto (tgt := 24) hx hb dX9_sign_20 (by decide) ?_
    have hf := Option.some.inj hf
    exact e_Pi hC hr hlocks hf dX9_sign_24
abbrev rmM_reads : Room := { frames := 1, cells := 0, slots := 0, locals := 20 }
set_option maxHeartbeats 4000000 in
set_option maxRecDepth 100000 in
theorem cM_reads (l : Launch) (E : eE) (ad : Nat → Nat) (q0_why : Int32) (q0_detail : Int32) (q0_reasonNow : Int32) (q0_detailNow : Int32) (q0_w : (Nat → Int32)) (q0_undos : (Nat → Int32)) (q0_savedRow : (Nat → Int32)) (q0_mind : (Nat → Int32)) (q0_changes : Int32) (q0_firstChange : Int32) (q0_isSaved : Int32) (q0_at : (Nat → Int32)) (q0_line : (Nat → Int32)) (q0_lineLength : Int32) (q0_text : (Nat → Int32)) (q0_length : Int32) (q0_next : Int32) (q0_numbers : (Nat → Int32)) (q0_sort : Int32) (q0_done : Int32) (a1 : Int32) (t : Int32 × Int32) (hf : fM_reads q0_text q0_length q0_next a1 = some t) : cW l E yX9_reads cX9_reads 2 (some .boolean) rmM_reads [.ref (ad 0), .int a1] (wM E ad q0_why q0_detail q0_reasonNow q0_detailNow q0_w q0_undos q0_savedRow q0_mind q0_changes q0_firstChange q0_isSaved q0_at q0_line q0_lineLength q0_text q0_length q0_next q0_numbers q0_sort q0_done) (some (.int t.1)) (wM E ad q0_why q0_detail q0_reasonNow q0_detailNow q0_w q0_undos q0_savedRow q0_mind q0_changes q0_firstChange q0_isSaved q0_at q0_line q0_lineLength q0_text q0_length t.2 q0_numbers q0_sort q0_done) := by
  refine Met.ofW (cc := cX9_reads) (maxL := 2) (ret := (some .boolean)) (by decide) rfl ?_
  intro p e s m args below meth c s₁ B hml hv
  obtain ⟨hargs, hP, hK, hD0⟩ := hv
  have hx := B.exec
  have hb := B.bytes
  have hr := B.returns
  have hts := atoms_spec (ws := ws_ yX9_reads cX9_reads 2 (some .boolean)) B.pre
  have hta : ∀ w ∈ lw_all, w.before args s = true := fun w h => hts w (List.mem_cons_of_mem _ h)
  have hown : s.vm.findClass RX9 = some m.cls := findClass_of_methodNamed B.named
  have hlocks := B.notSynchronized
  have hC : Cx p s m args c cX9_reads 2 RX9 E := ⟨hx, hb, hml, hown, hta, hK⟩
  have hH : Hp E (adr (wM E ad q0_why q0_detail q0_reasonNow q0_detailNow q0_w q0_undos q0_savedRow q0_mind q0_changes q0_firstChange q0_isSaved q0_at q0_line q0_lineLength q0_text q0_length q0_next q0_numbers q0_sort q0_done)) (wM E ad q0_why q0_detail q0_reasonNow q0_detailNow q0_w q0_undos q0_savedRow q0_mind q0_changes q0_firstChange q0_isSaved q0_at q0_line q0_lineLength q0_text q0_length q0_next q0_numbers q0_sort q0_done) s.heap s.heap [] := Hp.start hP hD0
  obtain ⟨ls, he, hl⟩ := entry_ (m := m) (n := 2) hargs (Nat.le_of_ble_eq_true rfl)
  rw [he]
  have hl : lv_has ls 2 [(0, .ref (ad 0)), (1, .int a1)] := hl
  show W p l e rmM_reads s m args below meth c s.heap [] 0 0 (MQ below (qW E (some .boolean) (some (.int t.1)) (wM E ad q0_why q0_detail q0_reasonNow q0_detailNow q0_w q0_undos q0_savedRow q0_mind q0_changes q0_firstChange q0_isSaved q0_at q0_line q0_lineLength q0_text q0_length q0_next q0_numbers q0_sort q0_done) (wM E ad q0_why q0_detail q0_reasonNow q0_detailNow q0_w q0_undos q0_savedRow q0_mind q0_changes q0_firstChange q0_isSaved q0_at q0_line q0_lineLength q0_text q0_length t.2 q0_numbers q0_sort q0_done)) args s 0 0 (adr (wM E ad q0_why q0_detail q0_reasonNow q0_detailNow q0_w q0_undos q0_savedRow q0_mind q0_changes q0_firstChange q0_isSaved q0_at q0_line q0_lineLength q0_text q0_length q0_next q0_numbers q0_sort q0_done))) (F0 m 0 ls [])
  suffices hmain : ∀ (H : Heap) (locs : List Loc), Hp E (adr (wM E ad q0_why q0_detail q0_reasonNow q0_detailNow q0_w q0_undos q0_savedRow q0_mind q0_changes q0_firstChange q0_isSaved q0_at q0_line q0_lineLength q0_text q0_length q0_next q0_numbers q0_sort q0_done)) (wM E ad q0_why q0_detail q0_reasonNow q0_detailNow q0_w q0_undos q0_savedRow q0_mind q0_changes q0_firstChange q0_isSaved q0_at q0_line q0_lineLength q0_text q0_length q0_next q0_numbers q0_sort q0_done) s.heap H locs → W p l e rmM_reads s m args below meth c H locs 0 0 (MQ below (qW E (some .boolean) (some (.int t.1)) (wM E ad q0_why q0_detail q0_reasonNow q0_detailNow q0_w q0_undos q0_savedRow q0_mind q0_changes q0_firstChange q0_isSaved q0_at q0_line q0_lineLength q0_text q0_length q0_next q0_numbers q0_sort q0_done) (wM E ad q0_why q0_detail q0_reasonNow q0_detailNow q0_w q0_undos q0_savedRow q0_mind q0_changes q0_firstChange q0_isSaved q0_at q0_line q0_lineLength q0_text q0_length t.2 q0_numbers q0_sort q0_done)) args s 0 0 (adr (wM E ad q0_why q0_detail q0_reasonNow q0_detailNow q0_w q0_undos q0_savedRow q0_mind q0_changes q0_firstChange q0_isSaved q0_at q0_line q0_lineLength q0_text q0_length q0_next q0_numbers q0_sort q0_done))) (F0 m 0 ls []) from hmain _ _ hH
  clear hH
  intro H locs hH
  rw [fM_reads] at hf
  refine lv_aload_n hx hb dX9_reads_0 rfl (lv_at hl 0 rfl) ?_
  obtain ⟨t1, ht1, hf⟩ := ob hf
  refine k_PVi hC LX9_204 ⟨Nat.le_of_ble_eq_true rfl, Nat.le_of_ble_eq_true rfl⟩ ⟨Nat.zero_le _, Nat.zero_le _⟩ (cM_sign l E ad q0_why q0_detail q0_reasonNow q0_detailNow q0_w q0_undos q0_savedRow q0_mind q0_changes q0_firstChange q0_isSaved q0_at q0_line q0_lineLength q0_text q0_length q0_next q0_numbers q0_sort q0_done t1 ht1) rfl rfl hH.1 rfl rfl hl.1 rfl (Nat.le_of_ble_eq_true rfl) rfl dX9_reads_1 (fun hz1 => ?_)
  refine lv_iload_n hx hb dX9_reads_4 rfl (lv_at hl 1 rfl) ?_
  refine lv_icmp_eq (tgt := 10) hx hb dX9_reads_5 (by decide) (fun c2 => ?_) (fun c2 => ?_)
  · have hf := ite_t hf c2
    refine lv_aload_n hx hb dX9_reads_10 rfl (lv_at hl 0 rfl) ?_
    refine lv_dup hx hb dX9_reads_11 rfl ?_
    refine gX9_201 hC hH.1 0 rfl (v := .int q0_next) rfl dX9_reads_12 ?_
    refine lv_iconst (v := 1) hx hb dX9_reads_15 (by decide) ?_
    refine lv_iadd hx hb dX9_reads_16 ?_
    refine pX9_201 hC hH 0 rfl (v := .int (q0_next + (1 : Int32))) rfl rfl (Nat.le_of_ble_eq_true rfl) (W1 := wM E ad q0_why q0_detail q0_reasonNow q0_detailNow q0_w q0_undos q0_savedRow q0_mind q0_changes q0_firstChange q0_isSaved q0_at q0_line q0_lineLength q0_text q0_length (q0_next + (1 : Int32)) q0_numbers q0_sort q0_done) rfl dX9_reads_17 (fun H locs hH => ?_)
    refine lv_iconst (v := 1) hx hb dX9_reads_20 (by decide) ?_
    have hf := Option.some.inj hf
    subst hf
    exact e_Wz hC hH hr hlocks rfl rfl rfl dX9_reads_21
  · have hf := ite_f hf c2
    refine lv_iconst (v := 0) hx hb dX9_reads_8 (by decide) ?_
    have hf := Option.some.inj hf
    subst hf
    exact e_Wz hC hH hr hlocks rfl rfl rfl dX9_reads_9
abbrev rmM_readsDigit : Room := { frames := 1, cells := 0, slots := 0, locals := 22 }
set_option maxHeartbeats 4000000 in
set_option maxRecDepth 100000 in
theorem cM_readsDigit (l : Launch) (E : eE) (ad : Nat → Nat) (q0_why : Int32) (q0_detail : Int32) (q0_reasonNow : Int32) (q0_detailNow : Int32) (q0_w : (Nat → Int32)) (q0_undos : (Nat → Int32)) (q0_savedRow : (Nat → Int32)) (q0_mind : (Nat → Int32)) (q0_changes : Int32) (q0_firstChange : Int32) (q0_isSaved : Int32) (q0_at : (Nat → Int32)) (q0_line : (Nat → Int32)) (q0_lineLength : Int32) (q0_text : (Nat → Int32)) (q0_length : Int32) (q0_next : Int32) (q0_numbers : (Nat → Int32)) (q0_sort : Int32) (q0_done : Int32) (a1 : Int32) (t : Int32 × Int32 × (Nat → Int32)) (hf : fM_readsDigit q0_text q0_length q0_next q0_numbers a1 = some t) : cW l E yX9_readsDigit cX9_readsDigit 2 (some .boolean) rmM_readsDigit [.ref (ad 0), .int a1] (wM E ad q0_why q0_detail q0_reasonNow q0_detailNow q0_w q0_undos q0_savedRow q0_mind q0_changes q0_firstChange q0_isSaved q0_at q0_line q0_lineLength q0_text q0_length q0_next q0_numbers q0_sort q0_done) (some (.int t.1)) (wM E ad q0_why q0_detail q0_reasonNow q0_detailNow q0_w q0_undos q0_savedRow q0_mind q0_changes q0_firstChange q0_isSaved q0_at q0_line q0_lineLength q0_text q0_length t.2.1 t.2.2 q0_sort q0_done) := by
  refine Met.ofW (cc := cX9_readsDigit) (maxL := 2) (ret := (some .boolean)) (by decide) rfl ?_
  intro p e s m args below meth c s₁ B hml hv
  obtain ⟨hargs, hP, hK, hD0⟩ := hv
  have hx := B.exec
  have hb := B.bytes
  have hr := B.returns
  have hts := atoms_spec (ws := ws_ yX9_readsDigit cX9_readsDigit 2 (some .boolean)) B.pre
  have hta : ∀ w ∈ lw_all, w.before args s = true := fun w h => hts w (List.mem_cons_of_mem _ h)
  have hown : s.vm.findClass RX9 = some m.cls := findClass_of_methodNamed B.named
  have hlocks := B.notSynchronized
  have hC : Cx p s m args c cX9_readsDigit 2 RX9 E := ⟨hx, hb, hml, hown, hta, hK⟩
  have hH : Hp E (adr (wM E ad q0_why q0_detail q0_reasonNow q0_detailNow q0_w q0_undos q0_savedRow q0_mind q0_changes q0_firstChange q0_isSaved q0_at q0_line q0_lineLength q0_text q0_length q0_next q0_numbers q0_sort q0_done)) (wM E ad q0_why q0_detail q0_reasonNow q0_detailNow q0_w q0_undos q0_savedRow q0_mind q0_changes q0_firstChange q0_isSaved q0_at q0_line q0_lineLength q0_text q0_length q0_next q0_numbers q0_sort q0_done) s.heap s.heap [] := Hp.start hP hD0
  obtain ⟨ls, he, hl⟩ := entry_ (m := m) (n := 2) hargs (Nat.le_of_ble_eq_true rfl)
  rw [he]
  have hl : lv_has ls 2 [(0, .ref (ad 0)), (1, .int a1)] := hl
  show W p l e rmM_readsDigit s m args below meth c s.heap [] 0 0 (MQ below (qW E (some .boolean) (some (.int t.1)) (wM E ad q0_why q0_detail q0_reasonNow q0_detailNow q0_w q0_undos q0_savedRow q0_mind q0_changes q0_firstChange q0_isSaved q0_at q0_line q0_lineLength q0_text q0_length q0_next q0_numbers q0_sort q0_done) (wM E ad q0_why q0_detail q0_reasonNow q0_detailNow q0_w q0_undos q0_savedRow q0_mind q0_changes q0_firstChange q0_isSaved q0_at q0_line q0_lineLength q0_text q0_length t.2.1 t.2.2 q0_sort q0_done)) args s 0 0 (adr (wM E ad q0_why q0_detail q0_reasonNow q0_detailNow q0_w q0_undos q0_savedRow q0_mind q0_changes q0_firstChange q0_isSaved q0_at q0_line q0_lineLength q0_text q0_length q0_next q0_numbers q0_sort q0_done))) (F0 m 0 ls [])
  suffices hmain : ∀ (H : Heap) (locs : List Loc), Hp E (adr (wM E ad q0_why q0_detail q0_reasonNow q0_detailNow q0_w q0_undos q0_savedRow q0_mind q0_changes q0_firstChange q0_isSaved q0_at q0_line q0_lineLength q0_text q0_length q0_next q0_numbers q0_sort q0_done)) (wM E ad q0_why q0_detail q0_reasonNow q0_detailNow q0_w q0_undos q0_savedRow q0_mind q0_changes q0_firstChange q0_isSaved q0_at q0_line q0_lineLength q0_text q0_length q0_next q0_numbers q0_sort q0_done) s.heap H locs → W p l e rmM_readsDigit s m args below meth c H locs 0 0 (MQ below (qW E (some .boolean) (some (.int t.1)) (wM E ad q0_why q0_detail q0_reasonNow q0_detailNow q0_w q0_undos q0_savedRow q0_mind q0_changes q0_firstChange q0_isSaved q0_at q0_line q0_lineLength q0_text q0_length q0_next q0_numbers q0_sort q0_done) (wM E ad q0_why q0_detail q0_reasonNow q0_detailNow q0_w q0_undos q0_savedRow q0_mind q0_changes q0_firstChange q0_isSaved q0_at q0_line q0_lineLength q0_text q0_length t.2.1 t.2.2 q0_sort q0_done)) args s 0 0 (adr (wM E ad q0_why q0_detail q0_reasonNow q0_detailNow q0_w q0_undos q0_savedRow q0_mind q0_changes q0_firstChange q0_isSaved q0_at q0_line q0_lineLength q0_text q0_length q0_next q0_numbers q0_sort q0_done))) (F0 m 0 ls []) from hmain _ _ hH
  clear hH
  intro H locs hH
  rw [fM_readsDigit] at hf
  refine lv_aload_n hx hb dX9_readsDigit_0 rfl (lv_at hl 0 rfl) ?_
  obtain ⟨t1, ht1, hf⟩ := ob hf
  refine k_PVi hC LX9_204 ⟨Nat.le_of_ble_eq_true rfl, Nat.le_of_ble_eq_true rfl⟩ ⟨Nat.zero_le _, Nat.zero_le _⟩ (cM_sign l E ad q0_why q0_detail q0_reasonNow q0_detailNow q0_w q0_undos q0_savedRow q0_mind q0_changes q0_firstChange q0_isSaved q0_at q0_line q0_lineLength q0_text q0_length q0_next q0_numbers q0_sort q0_done t1 ht1) rfl rfl hH.1 rfl rfl hl.1 rfl (Nat.le_of_ble_eq_true rfl) rfl dX9_readsDigit_1 (fun hz1 => ?_)
  refine lv_bipush (v := 48) hx hb dX9_readsDigit_4 (by decide) ?_
  refine lv_bipush (v := 57) hx hb dX9_readsDigit_6 (by decide) ?_
  refine k_PSi hC LX9_60 ⟨Nat.le_of_ble_eq_true rfl, Nat.le_of_ble_eq_true rfl⟩ ⟨Nat.zero_le _, Nat.zero_le _⟩ (cM_isBetween l E t1 (48 : Int32) (57 : Int32) _ rfl) rfl rfl (vP_nil) hl.1 rfl (Nat.le_of_ble_eq_true rfl) rfl dX9_readsDigit_8 (fun hz8 => ?_)
  refine lv_if_ne (tgt := 16) hx hb dX9_readsDigit_11 (by decide) (fun c2 => ?_) (fun c2 => ?_)
  · have hf := ite_f hf c2
    refine lv_aload_n hx hb dX9_readsDigit_16 rfl (lv_at hl 0 rfl) ?_
    refine gX9_32 hC hH.1 0 rfl (v := .ref (ad 8)) rfl dX9_readsDigit_17 ?_
    refine lv_iload_n hx hb dX9_readsDigit_20 rfl (lv_at hl 1 rfl) ?_
    refine lv_aload_n hx hb dX9_readsDigit_21 rfl (lv_at hl 0 rfl) ?_
    obtain ⟨t3, ht3, hf⟩ := ob hf
    refine k_PVi hC LX9_204 ⟨Nat.le_of_ble_eq_true rfl, Nat.le_of_ble_eq_true rfl⟩ ⟨Nat.zero_le _, Nat.zero_le _⟩ (cM_sign l E ad q0_why q0_detail q0_reasonNow q0_detailNow q0_w q0_undos q0_savedRow q0_mind q0_changes q0_firstChange q0_isSaved q0_at q0_line q0_lineLength q0_text q0_length q0_next q0_numbers q0_sort q0_done t3 ht3) rfl rfl hH.1 rfl rfl hl.1 rfl (Nat.le_of_ble_eq_true rfl) rfl dX9_readsDigit_22 (fun hz22 => ?_)
    refine lv_bipush (v := 48) hx hb dX9_readsDigit_25 (by decide) ?_
    refine lv_isub hx hb dX9_readsDigit_27 ?_
    obtain ⟨g4, hg4, hf⟩ := ob hf
    obtain ⟨hg4a, hg4b⟩ := stA_ok hg4
    refine a_ist hC hH 8 rfl hg4a hg4b (W1 := wM E ad q0_why q0_detail q0_reasonNow q0_detailNow q0_w q0_undos q0_savedRow q0_mind q0_changes q0_firstChange q0_isSaved q0_at q0_line q0_lineLength q0_text q0_length q0_next g4 q0_sort q0_done) rfl dX9_readsDigit_28 (fun H locs hH => ?_)
    refine lv_aload_n hx hb dX9_readsDigit_29 rfl (lv_at hl 0 rfl) ?_
    refine lv_dup hx hb dX9_readsDigit_30 rfl ?_
    refine gX9_201 hC hH.1 0 rfl (v := .int q0_next) rfl dX9_readsDigit_31 ?_
    refine lv_iconst (v := 1) hx hb dX9_readsDigit_34 (by decide) ?_
    refine lv_iadd hx hb dX9_readsDigit_35 ?_
    refine pX9_201 hC hH 0 rfl (v := .int (q0_next + (1 : Int32))) rfl rfl (Nat.le_of_ble_eq_true rfl) (W1 := wM E ad q0_why q0_detail q0_reasonNow q0_detailNow q0_w q0_undos q0_savedRow q0_mind q0_changes q0_firstChange q0_isSaved q0_at q0_line q0_lineLength q0_text q0_length (q0_next + (1 : Int32)) g4 q0_sort q0_done) rfl dX9_readsDigit_36 (fun H locs hH => ?_)
    refine lv_iconst (v := 1) hx hb dX9_readsDigit_39 (by decide) ?_
    have hf := Option.some.inj hf
    subst hf
    exact e_Wz hC hH hr hlocks rfl rfl rfl dX9_readsDigit_40
  · have hf := ite_t hf c2
    refine lv_iconst (v := 0) hx hb dX9_readsDigit_14 (by decide) ?_
    have hf := Option.some.inj hf
    subst hf
    exact e_Wz hC hH hr hlocks rfl rfl rfl dX9_readsDigit_15
abbrev rmM_readsNumber : Room := { frames := 2, cells := 0, slots := 0, locals := 43 }
set_option maxHeartbeats 4000000 in
set_option maxRecDepth 100000 in
theorem cM_readsNumber (l : Launch) (E : eE) (ad : Nat → Nat) (q0_why : Int32) (q0_detail : Int32) (q0_reasonNow : Int32) (q0_detailNow : Int32) (q0_w : (Nat → Int32)) (q0_undos : (Nat → Int32)) (q0_savedRow : (Nat → Int32)) (q0_mind : (Nat → Int32)) (q0_changes : Int32) (q0_firstChange : Int32) (q0_isSaved : Int32) (q0_at : (Nat → Int32)) (q0_line : (Nat → Int32)) (q0_lineLength : Int32) (q0_text : (Nat → Int32)) (q0_length : Int32) (q0_next : Int32) (q0_numbers : (Nat → Int32)) (q0_sort : Int32) (q0_done : Int32) (a1 : Int32) (t : Int32 × Int32 × (Nat → Int32)) (hf : fM_readsNumber q0_text q0_length q0_next q0_numbers a1 = some t) : cW l E yX9_readsNumber cX9_readsNumber 3 (some .boolean) rmM_readsNumber [.ref (ad 0), .int a1] (wM E ad q0_why q0_detail q0_reasonNow q0_detailNow q0_w q0_undos q0_savedRow q0_mind q0_changes q0_firstChange q0_isSaved q0_at q0_line q0_lineLength q0_text q0_length q0_next q0_numbers q0_sort q0_done) (some (.int t.1)) (wM E ad q0_why q0_detail q0_reasonNow q0_detailNow q0_w q0_undos q0_savedRow q0_mind q0_changes q0_firstChange q0_isSaved q0_at q0_line q0_lineLength q0_text q0_length t.2.1 t.2.2 q0_sort q0_done) := by
  refine Met.ofW (cc := cX9_readsNumber) (maxL := 3) (ret := (some .boolean)) (by decide) rfl ?_
  intro p e s m args below meth c s₁ B hml hv
  obtain ⟨hargs, hP, hK, hD0⟩ := hv
  have hx := B.exec
  have hb := B.bytes
  have hr := B.returns
  have hts := atoms_spec (ws := ws_ yX9_readsNumber cX9_readsNumber 3 (some .boolean)) B.pre
  have hta : ∀ w ∈ lw_all, w.before args s = true := fun w h => hts w (List.mem_cons_of_mem _ h)
  have hown : s.vm.findClass RX9 = some m.cls := findClass_of_methodNamed B.named
  have hlocks := B.notSynchronized
  have hC : Cx p s m args c cX9_readsNumber 3 RX9 E := ⟨hx, hb, hml, hown, hta, hK⟩
  have hH : Hp E (adr (wM E ad q0_why q0_detail q0_reasonNow q0_detailNow q0_w q0_undos q0_savedRow q0_mind q0_changes q0_firstChange q0_isSaved q0_at q0_line q0_lineLength q0_text q0_length q0_next q0_numbers q0_sort q0_done)) (wM E ad q0_why q0_detail q0_reasonNow q0_detailNow q0_w q0_undos q0_savedRow q0_mind q0_changes q0_firstChange q0_isSaved q0_at q0_line q0_lineLength q0_text q0_length q0_next q0_numbers q0_sort q0_done) s.heap s.heap [] := Hp.start hP hD0
  obtain ⟨ls, he, hl⟩ := entry_ (m := m) (n := 3) hargs (Nat.le_of_ble_eq_true rfl)
  rw [he]
  have hl : lv_has ls 3 [(0, .ref (ad 0)), (1, .int a1)] := hl
  show W p l e rmM_readsNumber s m args below meth c s.heap [] 0 0 (MQ below (qW E (some .boolean) (some (.int t.1)) (wM E ad q0_why q0_detail q0_reasonNow q0_detailNow q0_w q0_undos q0_savedRow q0_mind q0_changes q0_firstChange q0_isSaved q0_at q0_line q0_lineLength q0_text q0_length q0_next q0_numbers q0_sort q0_done) (wM E ad q0_why q0_detail q0_reasonNow q0_detailNow q0_w q0_undos q0_savedRow q0_mind q0_changes q0_firstChange q0_isSaved q0_at q0_line q0_lineLength q0_text q0_length t.2.1 t.2.2 q0_sort q0_done)) args s 0 0 (adr (wM E ad q0_why q0_detail q0_reasonNow q0_detailNow q0_w q0_undos q0_savedRow q0_mind q0_changes q0_firstChange q0_isSaved q0_at q0_line q0_lineLength q0_text q0_length q0_next q0_numbers q0_sort q0_done))) (F0 m 0 ls [])
  suffices hmain : ∀ (H : Heap) (locs : List Loc), Hp E (adr (wM E ad q0_why q0_detail q0_reasonNow q0_detailNow q0_w q0_undos q0_savedRow q0_mind q0_changes q0_firstChange q0_isSaved q0_at q0_line q0_lineLength q0_text q0_length q0_next q0_numbers q0_sort q0_done)) (wM E ad q0_why q0_detail q0_reasonNow q0_detailNow q0_w q0_undos q0_savedRow q0_mind q0_changes q0_firstChange q0_isSaved q0_at q0_line q0_lineLength q0_text q0_length q0_next q0_numbers q0_sort q0_done) s.heap H locs → W p l e rmM_readsNumber s m args below meth c H locs 0 0 (MQ below (qW E (some .boolean) (some (.int t.1)) (wM E ad q0_why q0_detail q0_reasonNow q0_detailNow q0_w q0_undos q0_savedRow q0_mind q0_changes q0_firstChange q0_isSaved q0_at q0_line q0_lineLength q0_text q0_length q0_next q0_numbers q0_sort q0_done) (wM E ad q0_why q0_detail q0_reasonNow q0_detailNow q0_w q0_undos q0_savedRow q0_mind q0_changes q0_firstChange q0_isSaved q0_at q0_line q0_lineLength q0_text q0_length t.2.1 t.2.2 q0_sort q0_done)) args s 0 0 (adr (wM E ad q0_why q0_detail q0_reasonNow q0_detailNow q0_w q0_undos q0_savedRow q0_mind q0_changes q0_firstChange q0_isSaved q0_at q0_line q0_lineLength q0_text q0_length q0_next q0_numbers q0_sort q0_done))) (F0 m 0 ls []) from hmain _ _ hH
  clear hH
  intro H locs hH
  rw [fM_readsNumber] at hf
  refine lv_aload_n hx hb dX9_readsNumber_0 rfl (lv_at hl 0 rfl) ?_
  refine lv_bipush (v := 32) hx hb dX9_readsNumber_1 (by decide) ?_
  obtain ⟨t1, ht1, hf⟩ := ob hf
  refine k_WVsi hC LX9_207 ⟨Nat.le_of_ble_eq_true rfl, Nat.le_of_ble_eq_true rfl⟩ ⟨Nat.zero_le _, Nat.zero_le _⟩ (cM_reads l E ad q0_why q0_detail q0_reasonNow q0_detailNow q0_w q0_undos q0_savedRow q0_mind q0_changes q0_firstChange q0_isSaved q0_at q0_line q0_lineLength q0_text q0_length q0_next q0_numbers q0_sort q0_done (32 : Int32) t1 ht1) rfl rfl hH rfl rfl rfl hl.1 rfl (Nat.le_of_ble_eq_true rfl) rfl dX9_readsNumber_3 (fun H locs hz3 hH => ?_)
  have hH : Hp E (adr (wM E ad q0_why q0_detail q0_reasonNow q0_detailNow q0_w q0_undos q0_savedRow q0_mind q0_changes q0_firstChange q0_isSaved q0_at q0_line q0_lineLength q0_text q0_length q0_next q0_numbers q0_sort q0_done)) (wM E ad q0_why q0_detail q0_reasonNow q0_detailNow q0_w q0_undos q0_savedRow q0_mind q0_changes q0_firstChange q0_isSaved q0_at q0_line q0_lineLength q0_text q0_length t1.2 q0_numbers q0_sort q0_done) s.heap H locs := hH
  refine lv_if_eq (tgt := 17) hx hb dX9_readsNumber_6 (by decide) (fun c2 => ?_) (fun c2 => ?_)
  · have hf := ite_t hf c2
    refine lv_iconst (v := 0) hx hb dX9_readsNumber_17 (by decide) ?_
    have hf := Option.some.inj hf
    subst hf
    exact e_Wz hC hH hr hlocks rfl rfl rfl dX9_readsNumber_18
  · have hf := ite_f hf c2
    refine lv_aload_n hx hb dX9_readsNumber_9 rfl (lv_at hl 0 rfl) ?_
    refine lv_iload_n hx hb dX9_readsNumber_10 rfl (lv_at hl 1 rfl) ?_
    obtain ⟨t3, ht3, hf⟩ := ob hf
    refine k_WVsi hC LX9_210 ⟨Nat.le_of_ble_eq_true rfl, Nat.le_of_ble_eq_true rfl⟩ ⟨Nat.zero_le _, Nat.zero_le _⟩ (cM_readsDigit l E ad q0_why q0_detail q0_reasonNow q0_detailNow q0_w q0_undos q0_savedRow q0_mind q0_changes q0_firstChange q0_isSaved q0_at q0_line q0_lineLength q0_text q0_length t1.2 q0_numbers q0_sort q0_done a1 t3 ht3) rfl rfl hH rfl rfl rfl hl.1 rfl (Nat.le_of_ble_eq_true rfl) rfl dX9_readsNumber_11 (fun H locs hz11 hH => ?_)
    have hH : Hp E (adr (wM E ad q0_why q0_detail q0_reasonNow q0_detailNow q0_w q0_undos q0_savedRow q0_mind q0_changes q0_firstChange q0_isSaved q0_at q0_line q0_lineLength q0_text q0_length q0_next q0_numbers q0_sort q0_done)) (wM E ad q0_why q0_detail q0_reasonNow q0_detailNow q0_w q0_undos q0_savedRow q0_mind q0_changes q0_firstChange q0_isSaved q0_at q0_line q0_lineLength q0_text q0_length t3.2.1 t3.2.2 q0_sort q0_done) s.heap H locs := hH
    refine lv_if_ne (tgt := 19) hx hb dX9_readsNumber_14 (by decide) (fun c4 => ?_) (fun c4 => ?_)
    · have hf := ite_f hf c4
      refine lv_aload_n hx hb dX9_readsNumber_19 rfl (lv_at hl 0 rfl) ?_
      refine gX9_32 hC hH.1 0 rfl (v := .ref (ad 8)) rfl dX9_readsNumber_20 ?_
      refine lv_iload_n hx hb dX9_readsNumber_23 rfl (lv_at hl 1 rfl) ?_
      obtain ⟨v5, hv5, hf⟩ := ob hf
      obtain ⟨hv5a, hv5b⟩ := ldA_ok hv5
      refine a_ild hC hH.1 8 rfl hv5a hv5b dX9_readsNumber_24 ?_
      refine lv_istore_n (lv' := [(2, .int v5), (0, .ref (ad 0)), (1, .int a1)]) hx hb dX9_readsNumber_25 rfl hl (by decide) rfl (fun ls hl => ?_)
      refine lv_aload_n hx hb dX9_readsNumber_26 rfl (lv_at hl 1 rfl) ?_
      refine lv_iload_n hx hb dX9_readsNumber_27 rfl (lv_at hl 2 rfl) ?_
      obtain ⟨t6, ht6, hf⟩ := ob hf
      refine k_WVsi hC LX9_210 ⟨Nat.le_of_ble_eq_true rfl, Nat.le_of_ble_eq_true rfl⟩ ⟨Nat.zero_le _, Nat.zero_le _⟩ (cM_readsDigit l E ad q0_why q0_detail q0_reasonNow q0_detailNow q0_w q0_undos q0_savedRow q0_mind q0_changes q0_firstChange q0_isSaved q0_at q0_line q0_lineLength q0_text q0_length t3.2.1 t3.2.2 q0_sort q0_done a1 t6 ht6) rfl rfl hH rfl rfl rfl hl.1 rfl (Nat.le_of_ble_eq_true rfl) rfl dX9_readsNumber_28 (fun H locs hz28 hH => ?_)
      have hH : Hp E (adr (wM E ad q0_why q0_detail q0_reasonNow q0_detailNow q0_w q0_undos q0_savedRow q0_mind q0_changes q0_firstChange q0_isSaved q0_at q0_line q0_lineLength q0_text q0_length q0_next q0_numbers q0_sort q0_done)) (wM E ad q0_why q0_detail q0_reasonNow q0_detailNow q0_w q0_undos q0_savedRow q0_mind q0_changes q0_firstChange q0_isSaved q0_at q0_line q0_lineLength q0_text q0_length t6.2.1 t6.2.2 q0_sort q0_done) s.heap H locs := hH
      refine lv_if_eq (tgt := 47) hx hb dX9_readsNumber_31 (by decide) (fun c7 => ?_) (fun c7 => ?_)
      · have hf := ite_t hf c7
        refine lv_iconst (v := 1) hx hb dX9_readsNumber_47 (by decide) ?_
        have hf := Option.some.inj hf
        subst hf
        exact e_Wz hC hH hr hlocks rfl rfl rfl dX9_readsNumber_48
      · have hf := ite_f hf c7
        refine lv_aload_n hx hb dX9_readsNumber_34 rfl (lv_at hl 1 rfl) ?_
        refine gX9_32 hC hH.1 0 rfl (v := .ref (ad 8)) rfl dX9_readsNumber_35 ?_
        refine lv_iload_n hx hb dX9_readsNumber_38 rfl (lv_at hl 2 rfl) ?_
        refine lv_dup2_11 hx hb dX9_readsNumber_39 rfl rfl ?_
        obtain ⟨v8, hv8, hf⟩ := ob hf
        obtain ⟨hv8a, hv8b⟩ := ldA_ok hv8
        refine a_ild hC hH.1 8 rfl hv8a hv8b dX9_readsNumber_40 ?_
        refine lv_bipush (v := 10) hx hb dX9_readsNumber_41 (by decide) ?_
        refine lv_iload_n hx hb dX9_readsNumber_43 rfl (lv_at hl 0 rfl) ?_
        refine lv_imul hx hb dX9_readsNumber_44 ?_
        refine lv_iadd hx hb dX9_readsNumber_45 ?_
        obtain ⟨g9, hg9, hf⟩ := ob hf
        obtain ⟨hg9a, hg9b⟩ := stA_ok hg9
        refine a_ist hC hH 8 rfl hg9a hg9b (W1 := wM E ad q0_why q0_detail q0_reasonNow q0_detailNow q0_w q0_undos q0_savedRow q0_mind q0_changes q0_firstChange q0_isSaved q0_at q0_line q0_lineLength q0_text q0_length t6.2.1 g9 q0_sort q0_done) rfl dX9_readsNumber_46 (fun H locs hH => ?_)
        refine lv_iconst (v := 1) hx hb dX9_readsNumber_47 (by decide) ?_
        have hf := Option.some.inj hf
        subst hf
        exact e_Wz hC hH hr hlocks rfl rfl rfl dX9_readsNumber_48
    · have hf := ite_t hf c4
      refine lv_iconst (v := 0) hx hb dX9_readsNumber_17 (by decide) ?_
      have hf := Option.some.inj hf
      subst hf
      exact e_Wz hC hH hr hlocks rfl rfl rfl dX9_readsNumber_18
abbrev rmM_readsOrder : Room := { frames := 3, cells := 0, slots := 0, locals := 65 }
set_option maxHeartbeats 4000000 in
set_option maxRecDepth 100000 in
theorem cM_readsOrder (l : Launch) (E : eE) (ad : Nat → Nat) (q0_why : Int32) (q0_detail : Int32) (q0_reasonNow : Int32) (q0_detailNow : Int32) (q0_w : (Nat → Int32)) (q0_undos : (Nat → Int32)) (q0_savedRow : (Nat → Int32)) (q0_mind : (Nat → Int32)) (q0_changes : Int32) (q0_firstChange : Int32) (q0_isSaved : Int32) (q0_at : (Nat → Int32)) (q0_line : (Nat → Int32)) (q0_lineLength : Int32) (q0_text : (Nat → Int32)) (q0_length : Int32) (q0_next : Int32) (q0_numbers : (Nat → Int32)) (q0_sort : Int32) (q0_done : Int32) (t : Int32 × Int32 × (Nat → Int32) × Int32) (hf : fM_readsOrder q0_text q0_length q0_next q0_numbers q0_sort = some t) : cW l E yX9_readsOrder cX9_readsOrder 1 (some .boolean) rmM_readsOrder [.ref (ad 0)] (wM E ad q0_why q0_detail q0_reasonNow q0_detailNow q0_w q0_undos q0_savedRow q0_mind q0_changes q0_firstChange q0_isSaved q0_at q0_line q0_lineLength q0_text q0_length q0_next q0_numbers q0_sort q0_done) (some (.int t.1)) (wM E ad q0_why q0_detail q0_reasonNow q0_detailNow q0_w q0_undos q0_savedRow q0_mind q0_changes q0_firstChange q0_isSaved q0_at q0_line q0_lineLength q0_text q0_length t.2.1 t.2.2.1 t.2.2.2 q0_done) := by
  refine Met.ofW (cc := cX9_readsOrder) (maxL := 1) (ret := (some .boolean)) (by decide) rfl ?_
  intro p e s m args below meth c s₁ B hml hv
  obtain ⟨hargs, hP, hK, hD0⟩ := hv
  have hx := B.exec
  have hb := B.bytes
  have hr := B.returns
  have hts := atoms_spec (ws := ws_ yX9_readsOrder cX9_readsOrder 1 (some .boolean)) B.pre
  have hta : ∀ w ∈ lw_all, w.before args s = true := fun w h => hts w (List.mem_cons_of_mem _ h)
  have hown : s.vm.findClass RX9 = some m.cls := findClass_of_methodNamed B.named
  have hlocks := B.notSynchronized
  have hC : Cx p s m args c cX9_readsOrder 1 RX9 E := ⟨hx, hb, hml, hown, hta, hK⟩
  have hH : Hp E (adr (wM E ad q0_why q0_detail q0_reasonNow q0_detailNow q0_w q0_undos q0_savedRow q0_mind q0_changes q0_firstChange q0_isSaved q0_at q0_line q0_lineLength q0_text q0_length q0_next q0_numbers q0_sort q0_done)) (wM E ad q0_why q0_detail q0_reasonNow q0_detailNow q0_w q0_undos q0_savedRow q0_mind q0_changes q0_firstChange q0_isSaved q0_at q0_line q0_lineLength q0_text q0_length q0_next q0_numbers q0_sort q0_done) s.heap s.heap [] := Hp.start hP hD0
  obtain ⟨ls, he, hl⟩ := entry_ (m := m) (n := 1) hargs (Nat.le_of_ble_eq_true rfl)
  rw [he]
  have hl : lv_has ls 1 [(0, .ref (ad 0))] := hl
  show W p l e rmM_readsOrder s m args below meth c s.heap [] 0 0 (MQ below (qW E (some .boolean) (some (.int t.1)) (wM E ad q0_why q0_detail q0_reasonNow q0_detailNow q0_w q0_undos q0_savedRow q0_mind q0_changes q0_firstChange q0_isSaved q0_at q0_line q0_lineLength q0_text q0_length q0_next q0_numbers q0_sort q0_done) (wM E ad q0_why q0_detail q0_reasonNow q0_detailNow q0_w q0_undos q0_savedRow q0_mind q0_changes q0_firstChange q0_isSaved q0_at q0_line q0_lineLength q0_text q0_length t.2.1 t.2.2.1 t.2.2.2 q0_done)) args s 0 0 (adr (wM E ad q0_why q0_detail q0_reasonNow q0_detailNow q0_w q0_undos q0_savedRow q0_mind q0_changes q0_firstChange q0_isSaved q0_at q0_line q0_lineLength q0_text q0_length q0_next q0_numbers q0_sort q0_done))) (F0 m 0 ls [])
  suffices hmain : ∀ (H : Heap) (locs : List Loc), Hp E (adr (wM E ad q0_why q0_detail q0_reasonNow q0_detailNow q0_w q0_undos q0_savedRow q0_mind q0_changes q0_firstChange q0_isSaved q0_at q0_line q0_lineLength q0_text q0_length q0_next q0_numbers q0_sort q0_done)) (wM E ad q0_why q0_detail q0_reasonNow q0_detailNow q0_w q0_undos q0_savedRow q0_mind q0_changes q0_firstChange q0_isSaved q0_at q0_line q0_lineLength q0_text q0_length q0_next q0_numbers q0_sort q0_done) s.heap H locs → W p l e rmM_readsOrder s m args below meth c H locs 0 0 (MQ below (qW E (some .boolean) (some (.int t.1)) (wM E ad q0_why q0_detail q0_reasonNow q0_detailNow q0_w q0_undos q0_savedRow q0_mind q0_changes q0_firstChange q0_isSaved q0_at q0_line q0_lineLength q0_text q0_length q0_next q0_numbers q0_sort q0_done) (wM E ad q0_why q0_detail q0_reasonNow q0_detailNow q0_w q0_undos q0_savedRow q0_mind q0_changes q0_firstChange q0_isSaved q0_at q0_line q0_lineLength q0_text q0_length t.2.1 t.2.2.1 t.2.2.2 q0_done)) args s 0 0 (adr (wM E ad q0_why q0_detail q0_reasonNow q0_detailNow q0_w q0_undos q0_savedRow q0_mind q0_changes q0_firstChange q0_isSaved q0_at q0_line q0_lineLength q0_text q0_length q0_next q0_numbers q0_sort q0_done))) (F0 m 0 ls []) from hmain _ _ hH
  clear hH
  intro H locs hH
  rw [fM_readsOrder] at hf
  refine lv_aload_n hx hb dX9_readsOrder_0 rfl (lv_at hl 0 rfl) ?_
  refine lv_aload_n hx hb dX9_readsOrder_1 rfl (lv_at hl 0 rfl) ?_
  obtain ⟨t1, ht1, hf⟩ := ob hf
  refine k_PVi hC LX9_204 ⟨Nat.le_of_ble_eq_true rfl, Nat.le_of_ble_eq_true rfl⟩ ⟨Nat.zero_le _, Nat.zero_le _⟩ (cM_sign l E ad q0_why q0_detail q0_reasonNow q0_detailNow q0_w q0_undos q0_savedRow q0_mind q0_changes q0_firstChange q0_isSaved q0_at q0_line q0_lineLength q0_text q0_length q0_next q0_numbers q0_sort q0_done t1 ht1) rfl rfl hH.1 rfl rfl hl.1 rfl (Nat.le_of_ble_eq_true rfl) rfl dX9_readsOrder_2 (fun hz2 => ?_)
  refine pX9_213 hC hH 0 rfl (v := .int t1) rfl rfl (Nat.le_of_ble_eq_true rfl) (W1 := wM E ad q0_why q0_detail q0_reasonNow q0_detailNow q0_w q0_undos q0_savedRow q0_mind q0_changes q0_firstChange q0_isSaved q0_at q0_line q0_lineLength q0_text q0_length q0_next q0_numbers t1 q0_done) rfl dX9_readsOrder_5 (fun H locs hH => ?_)
  refine lv_aload_n hx hb dX9_readsOrder_8 rfl (lv_at hl 0 rfl) ?_
  refine lv_dup hx hb dX9_readsOrder_9 rfl ?_
  refine gX9_201 hC hH.1 0 rfl (v := .int q0_next) rfl dX9_readsOrder_10 ?_
  refine lv_iconst (v := 1) hx hb dX9_readsOrder_13 (by decide) ?_
  refine lv_iadd hx hb dX9_readsOrder_14 ?_
  refine pX9_201 hC hH 0 rfl (v := .int (q0_next + (1 : Int32))) rfl rfl (Nat.le_of_ble_eq_true rfl) (W1 := wM E ad q0_why q0_detail q0_reasonNow q0_detailNow q0_w q0_undos q0_savedRow q0_mind q0_changes q0_firstChange q0_isSaved q0_at q0_line q0_lineLength q0_text q0_length (q0_next + (1 : Int32)) q0_numbers t1 q0_done) rfl dX9_readsOrder_15 (fun H locs hH => ?_)
  refine lv_aload_n hx hb dX9_readsOrder_18 rfl (lv_at hl 0 rfl) ?_
  refine gX9_213 hC hH.1 0 rfl (v := .int t1) rfl dX9_readsOrder_19 ?_
  by_cases c22_99 : t1 = (99 : Int32)
  · have hf := ite_t hf c22_99
    have e9 : (t1).toInt = 99 := by rw [c22_99]; decide
    refine lv_tableIn (tgt := 281) hx hb dX9_readsOrder_22 (by omega) (by omega) (by rw [e9]; rfl) (by decide) ?_
    refine lv_aload_n hx hb dX9_readsOrder_281 rfl (lv_at hl 0 rfl) ?_
    refine lv_bipush (v := 108) hx hb dX9_readsOrder_282 (by decide) ?_
    obtain ⟨t2, ht2, hf⟩ := ob hf
    refine k_WVsi hC LX9_207 ⟨Nat.le_of_ble_eq_true rfl, Nat.le_of_ble_eq_true rfl⟩ ⟨Nat.zero_le _, Nat.zero_le _⟩ (cM_reads l E ad q0_why q0_detail q0_reasonNow q0_detailNow q0_w q0_undos q0_savedRow q0_mind q0_changes q0_firstChange q0_isSaved q0_at q0_line q0_lineLength q0_text q0_length (q0_next + (1 : Int32)) q0_numbers t1 q0_done (108 : Int32) t2 ht2) rfl rfl hH rfl rfl rfl hl.1 rfl (Nat.le_of_ble_eq_true rfl) rfl dX9_readsOrder_284 (fun H locs hz284 hH => ?_)
    have hH : Hp E (adr (wM E ad q0_why q0_detail q0_reasonNow q0_detailNow q0_w q0_undos q0_savedRow q0_mind q0_changes q0_firstChange q0_isSaved q0_at q0_line q0_lineLength q0_text q0_length q0_next q0_numbers q0_sort q0_done)) (wM E ad q0_why q0_detail q0_reasonNow q0_detailNow q0_w q0_undos q0_savedRow q0_mind q0_changes q0_firstChange q0_isSaved q0_at q0_line q0_lineLength q0_text q0_length t2.2 q0_numbers t1 q0_done) s.heap H locs := hH
    refine lv_if_eq (tgt := 329) hx hb dX9_readsOrder_287 (by decide) (fun c3 => ?_) (fun c3 => ?_)
    · have hf := ite_t hf c3
      refine lv_iconst (v := 0) hx hb dX9_readsOrder_329 (by decide) ?_
      have hf := Option.some.inj hf
      subst hf
      exact e_Wz hC hH hr hlocks rfl rfl rfl dX9_readsOrder_330
    · have hf := ite_f hf c3
      refine lv_aload_n hx hb dX9_readsOrder_290 rfl (lv_at hl 0 rfl) ?_
      refine lv_bipush (v := 101) hx hb dX9_readsOrder_291 (by decide) ?_
      obtain ⟨t4, ht4, hf⟩ := ob hf
      refine k_WVsi hC LX9_207 ⟨Nat.le_of_ble_eq_true rfl, Nat.le_of_ble_eq_true rfl⟩ ⟨Nat.zero_le _, Nat.zero_le _⟩ (cM_reads l E ad q0_why q0_detail q0_reasonNow q0_detailNow q0_w q0_undos q0_savedRow q0_mind q0_changes q0_firstChange q0_isSaved q0_at q0_line q0_lineLength q0_text q0_length t2.2 q0_numbers t1 q0_done (101 : Int32) t4 ht4) rfl rfl hH rfl rfl rfl hl.1 rfl (Nat.le_of_ble_eq_true rfl) rfl dX9_readsOrder_293 (fun H locs hz293 hH => ?_)
      have hH : Hp E (adr (wM E ad q0_why q0_detail q0_reasonNow q0_detailNow q0_w q0_undos q0_savedRow q0_mind q0_changes q0_firstChange q0_isSaved q0_at q0_line q0_lineLength q0_text q0_length q0_next q0_numbers q0_sort q0_done)) (wM E ad q0_why q0_detail q0_reasonNow q0_detailNow q0_w q0_undos q0_savedRow q0_mind q0_changes q0_firstChange q0_isSaved q0_at q0_line q0_lineLength q0_text q0_length t4.2 q0_numbers t1 q0_done) s.heap H locs := hH
      refine lv_if_eq (tgt := 329) hx hb dX9_readsOrder_296 (by decide) (fun c5 => ?_) (fun c5 => ?_)
      · have hf := ite_t hf c5
        refine lv_iconst (v := 0) hx hb dX9_readsOrder_329 (by decide) ?_
        have hf := Option.some.inj hf
        subst hf
        exact e_Wz hC hH hr hlocks rfl rfl rfl dX9_readsOrder_330
      · have hf := ite_f hf c5
        refine lv_aload_n hx hb dX9_readsOrder_299 rfl (lv_at hl 0 rfl) ?_
        refine lv_bipush (v := 97) hx hb dX9_readsOrder_300 (by decide) ?_
        obtain ⟨t6, ht6, hf⟩ := ob hf
        refine k_WVsi hC LX9_207 ⟨Nat.le_of_ble_eq_true rfl, Nat.le_of_ble_eq_true rfl⟩ ⟨Nat.zero_le _, Nat.zero_le _⟩ (cM_reads l E ad q0_why q0_detail q0_reasonNow q0_detailNow q0_w q0_undos q0_savedRow q0_mind q0_changes q0_firstChange q0_isSaved q0_at q0_line q0_lineLength q0_text q0_length t4.2 q0_numbers t1 q0_done (97 : Int32) t6 ht6) rfl rfl hH rfl rfl rfl hl.1 rfl (Nat.le_of_ble_eq_true rfl) rfl dX9_readsOrder_302 (fun H locs hz302 hH => ?_)
        have hH : Hp E (adr (wM E ad q0_why q0_detail q0_reasonNow q0_detailNow q0_w q0_undos q0_savedRow q0_mind q0_changes q0_firstChange q0_isSaved q0_at q0_line q0_lineLength q0_text q0_length q0_next q0_numbers q0_sort q0_done)) (wM E ad q0_why q0_detail q0_reasonNow q0_detailNow q0_w q0_undos q0_savedRow q0_mind q0_changes q0_firstChange q0_isSaved q0_at q0_line q0_lineLength q0_text q0_length t6.2 q0_numbers t1 q0_done) s.heap H locs := hH
        refine lv_if_eq (tgt := 329) hx hb dX9_readsOrder_305 (by decide) (fun c7 => ?_) (fun c7 => ?_)
        · have hf := ite_t hf c7
          refine lv_iconst (v := 0) hx hb dX9_readsOrder_329 (by decide) ?_
          have hf := Option.some.inj hf
          subst hf
          exact e_Wz hC hH hr hlocks rfl rfl rfl dX9_readsOrder_330
        · have hf := ite_f hf c7
          refine lv_aload_n hx hb dX9_readsOrder_308 rfl (lv_at hl 0 rfl) ?_
          refine lv_bipush (v := 114) hx hb dX9_readsOrder_309 (by decide) ?_
          obtain ⟨t8, ht8, hf⟩ := ob hf
          refine k_WVsi hC LX9_207 ⟨Nat.le_of_ble_eq_true rfl, Nat.le_of_ble_eq_true rfl⟩ ⟨Nat.zero_le _, Nat.zero_le _⟩ (cM_reads l E ad q0_why q0_detail q0_reasonNow q0_detailNow q0_w q0_undos q0_savedRow q0_mind q0_changes q0_firstChange q0_isSaved q0_at q0_line q0_lineLength q0_text q0_length t6.2 q0_numbers t1 q0_done (114 : Int32) t8 ht8) rfl rfl hH rfl rfl rfl hl.1 rfl (Nat.le_of_ble_eq_true rfl) rfl dX9_readsOrder_311 (fun H locs hz311 hH => ?_)
          have hH : Hp E (adr (wM E ad q0_why q0_detail q0_reasonNow q0_detailNow q0_w q0_undos q0_savedRow q0_mind q0_changes q0_firstChange q0_isSaved q0_at q0_line q0_lineLength q0_text q0_length q0_next q0_numbers q0_sort q0_done)) (wM E ad q0_why q0_detail q0_reasonNow q0_detailNow q0_w q0_undos q0_savedRow q0_mind q0_changes q0_firstChange q0_isSaved q0_at q0_line q0_lineLength q0_text q0_length t8.2 q0_numbers t1 q0_done) s.heap H locs := hH
          refine lv_if_eq (tgt := 329) hx hb dX9_readsOrder_314 (by decide) (fun c9 => ?_) (fun c9 => ?_)
          · have hf := ite_t hf c9
            refine lv_iconst (v := 0) hx hb dX9_readsOrder_329 (by decide) ?_
            have hf := Option.some.inj hf
            subst hf
            exact e_Wz hC hH hr hlocks rfl rfl rfl dX9_readsOrder_330
          · have hf := ite_f hf c9
            refine lv_aload_n hx hb dX9_readsOrder_317 rfl (lv_at hl 0 rfl) ?_
            refine lv_iconst (v := 0) hx hb dX9_readsOrder_318 (by decide) ?_
            obtain ⟨t10, ht10, hf⟩ := ob hf
            refine k_WVsi hC LX9_216 ⟨Nat.le_of_ble_eq_true rfl, Nat.le_of_ble_eq_true rfl⟩ ⟨Nat.zero_le _, Nat.zero_le _⟩ (cM_readsNumber l E ad q0_why q0_detail q0_reasonNow q0_detailNow q0_w q0_undos q0_savedRow q0_mind q0_changes q0_firstChange q0_isSaved q0_at q0_line q0_lineLength q0_text q0_length t8.2 q0_numbers t1 q0_done (0 : Int32) t10 ht10) rfl rfl hH rfl rfl rfl hl.1 rfl (Nat.le_of_ble_eq_true rfl) rfl dX9_readsOrder_319 (fun H locs hz319 hH => ?_)
            have hH : Hp E (adr (wM E ad q0_why q0_detail q0_reasonNow q0_detailNow q0_w q0_undos q0_savedRow q0_mind q0_changes q0_firstChange q0_isSaved q0_at q0_line q0_lineLength q0_text q0_length q0_next q0_numbers q0_sort q0_done)) (wM E ad q0_why q0_detail q0_reasonNow q0_detailNow q0_w q0_undos q0_savedRow q0_mind q0_changes q0_firstChange q0_isSaved q0_at q0_line q0_lineLength q0_text q0_length t10.2.1 t10.2.2 t1 q0_done) s.heap H locs := hH
            refine lv_if_eq (tgt := 329) hx hb dX9_readsOrder_322 (by decide) (fun c11 => ?_) (fun c11 => ?_)
            · have hf := ite_t hf c11
              refine lv_iconst (v := 0) hx hb dX9_readsOrder_329 (by decide) ?_
              have hf := Option.some.inj hf
              subst hf
              exact e_Wz hC hH hr hlocks rfl rfl rfl dX9_readsOrder_330
            · have hf := ite_f hf c11
              refine lv_iconst (v := 1) hx hb dX9_readsOrder_325 (by decide) ?_
              refine lv_goto (tgt := 330) hx hb dX9_readsOrder_326 (by decide) ?_
              have hf := Option.some.inj hf
              subst hf
              exact e_Wz hC hH hr hlocks rfl rfl rfl dX9_readsOrder_330
  · have hf := ite_f hf c22_99
    by_cases c22_105 : t1 = (105 : Int32)
    · have hf := ite_t hf c22_105
      have e9 : (t1).toInt = 105 := by rw [c22_105]; decide
      refine lv_tableIn (tgt := 136) hx hb dX9_readsOrder_22 (by omega) (by omega) (by rw [e9]; rfl) (by decide) ?_
      refine lv_aload_n hx hb dX9_readsOrder_136 rfl (lv_at hl 0 rfl) ?_
      refine lv_bipush (v := 110) hx hb dX9_readsOrder_137 (by decide) ?_
      obtain ⟨t12, ht12, hf⟩ := ob hf
      refine k_WVsi hC LX9_207 ⟨Nat.le_of_ble_eq_true rfl, Nat.le_of_ble_eq_true rfl⟩ ⟨Nat.zero_le _, Nat.zero_le _⟩ (cM_reads l E ad q0_why q0_detail q0_reasonNow q0_detailNow q0_w q0_undos q0_savedRow q0_mind q0_changes q0_firstChange q0_isSaved q0_at q0_line q0_lineLength q0_text q0_length (q0_next + (1 : Int32)) q0_numbers t1 q0_done (110 : Int32) t12 ht12) rfl rfl hH rfl rfl rfl hl.1 rfl (Nat.le_of_ble_eq_true rfl) rfl dX9_readsOrder_139 (fun H locs hz139 hH => ?_)
      have hH : Hp E (adr (wM E ad q0_why q0_detail q0_reasonNow q0_detailNow q0_w q0_undos q0_savedRow q0_mind q0_changes q0_firstChange q0_isSaved q0_at q0_line q0_lineLength q0_text q0_length q0_next q0_numbers q0_sort q0_done)) (wM E ad q0_why q0_detail q0_reasonNow q0_detailNow q0_w q0_undos q0_savedRow q0_mind q0_changes q0_firstChange q0_isSaved q0_at q0_line q0_lineLength q0_text q0_length t12.2 q0_numbers t1 q0_done) s.heap H locs := hH
      refine lv_if_eq (tgt := 165) hx hb dX9_readsOrder_142 (by decide) (fun c13 => ?_) (fun c13 => ?_)
      · have hf := ite_t hf c13
        refine lv_iconst (v := 0) hx hb dX9_readsOrder_165 (by decide) ?_
        have hf := Option.some.inj hf
        subst hf
        exact e_Wz hC hH hr hlocks rfl rfl rfl dX9_readsOrder_166
      · have hf := ite_f hf c13
        refine lv_aload_n hx hb dX9_readsOrder_145 rfl (lv_at hl 0 rfl) ?_
        refine lv_iconst (v := 0) hx hb dX9_readsOrder_146 (by decide) ?_
        obtain ⟨t14, ht14, hf⟩ := ob hf
        refine k_WVsi hC LX9_216 ⟨Nat.le_of_ble_eq_true rfl, Nat.le_of_ble_eq_true rfl⟩ ⟨Nat.zero_le _, Nat.zero_le _⟩ (cM_readsNumber l E ad q0_why q0_detail q0_reasonNow q0_detailNow q0_w q0_undos q0_savedRow q0_mind q0_changes q0_firstChange q0_isSaved q0_at q0_line q0_lineLength q0_text q0_length t12.2 q0_numbers t1 q0_done (0 : Int32) t14 ht14) rfl rfl hH rfl rfl rfl hl.1 rfl (Nat.le_of_ble_eq_true rfl) rfl dX9_readsOrder_147 (fun H locs hz147 hH => ?_)
        have hH : Hp E (adr (wM E ad q0_why q0_detail q0_reasonNow q0_detailNow q0_w q0_undos q0_savedRow q0_mind q0_changes q0_firstChange q0_isSaved q0_at q0_line q0_lineLength q0_text q0_length q0_next q0_numbers q0_sort q0_done)) (wM E ad q0_why q0_detail q0_reasonNow q0_detailNow q0_w q0_undos q0_savedRow q0_mind q0_changes q0_firstChange q0_isSaved q0_at q0_line q0_lineLength q0_text q0_length t14.2.1 t14.2.2 t1 q0_done) s.heap H locs := hH
        refine lv_if_eq (tgt := 165) hx hb dX9_readsOrder_150 (by decide) (fun c15 => ?_) (fun c15 => ?_)
        · have hf := ite_t hf c15
          refine lv_iconst (v := 0) hx hb dX9_readsOrder_165 (by decide) ?_
          have hf := Option.some.inj hf
          subst hf
          exact e_Wz hC hH hr hlocks rfl rfl rfl dX9_readsOrder_166
        · have hf := ite_f hf c15
          refine lv_aload_n hx hb dX9_readsOrder_153 rfl (lv_at hl 0 rfl) ?_
          refine lv_iconst (v := 1) hx hb dX9_readsOrder_154 (by decide) ?_
          obtain ⟨t16, ht16, hf⟩ := ob hf
          refine k_WVsi hC LX9_216 ⟨Nat.le_of_ble_eq_true rfl, Nat.le_of_ble_eq_true rfl⟩ ⟨Nat.zero_le _, Nat.zero_le _⟩ (cM_readsNumber l E ad q0_why q0_detail q0_reasonNow q0_detailNow q0_w q0_undos q0_savedRow q0_mind q0_changes q0_firstChange q0_isSaved q0_at q0_line q0_lineLength q0_text q0_length t14.2.1 t14.2.2 t1 q0_done (1 : Int32) t16 ht16) rfl rfl hH rfl rfl rfl hl.1 rfl (Nat.le_of_ble_eq_true rfl) rfl dX9_readsOrder_155 (fun H locs hz155 hH => ?_)
          have hH : Hp E (adr (wM E ad q0_why q0_detail q0_reasonNow q0_detailNow q0_w q0_undos q0_savedRow q0_mind q0_changes q0_firstChange q0_isSaved q0_at q0_line q0_lineLength q0_text q0_length q0_next q0_numbers q0_sort q0_done)) (wM E ad q0_why q0_detail q0_reasonNow q0_detailNow q0_w q0_undos q0_savedRow q0_mind q0_changes q0_firstChange q0_isSaved q0_at q0_line q0_lineLength q0_text q0_length t16.2.1 t16.2.2 t1 q0_done) s.heap H locs := hH
          refine lv_if_eq (tgt := 165) hx hb dX9_readsOrder_158 (by decide) (fun c17 => ?_) (fun c17 => ?_)
          · have hf := ite_t hf c17
            refine lv_iconst (v := 0) hx hb dX9_readsOrder_165 (by decide) ?_
            have hf := Option.some.inj hf
            subst hf
            exact e_Wz hC hH hr hlocks rfl rfl rfl dX9_readsOrder_166
          · have hf := ite_f hf c17
            refine lv_iconst (v := 1) hx hb dX9_readsOrder_161 (by decide) ?_
            refine lv_goto (tgt := 166) hx hb dX9_readsOrder_162 (by decide) ?_
            have hf := Option.some.inj hf
            subst hf
            exact e_Wz hC hH hr hlocks rfl rfl rfl dX9_readsOrder_166
    · have hf := ite_f hf c22_105
      by_cases c22_109 : t1 = (109 : Int32)
      · have hf := ite_t hf c22_109
        have e9 : (t1).toInt = 109 := by rw [c22_109]; decide
        refine lv_tableIn (tgt := 240) hx hb dX9_readsOrder_22 (by omega) (by omega) (by rw [e9]; rfl) (by decide) ?_
        refine lv_aload_n hx hb dX9_readsOrder_240 rfl (lv_at hl 0 rfl) ?_
        refine lv_bipush (v := 97) hx hb dX9_readsOrder_241 (by decide) ?_
        obtain ⟨t18, ht18, hf⟩ := ob hf
        refine k_WVsi hC LX9_207 ⟨Nat.le_of_ble_eq_true rfl, Nat.le_of_ble_eq_true rfl⟩ ⟨Nat.zero_le _, Nat.zero_le _⟩ (cM_reads l E ad q0_why q0_detail q0_reasonNow q0_detailNow q0_w q0_undos q0_savedRow q0_mind q0_changes q0_firstChange q0_isSaved q0_at q0_line q0_lineLength q0_text q0_length (q0_next + (1 : Int32)) q0_numbers t1 q0_done (97 : Int32) t18 ht18) rfl rfl hH rfl rfl rfl hl.1 rfl (Nat.le_of_ble_eq_true rfl) rfl dX9_readsOrder_243 (fun H locs hz243 hH => ?_)
        have hH : Hp E (adr (wM E ad q0_why q0_detail q0_reasonNow q0_detailNow q0_w q0_undos q0_savedRow q0_mind q0_changes q0_firstChange q0_isSaved q0_at q0_line q0_lineLength q0_text q0_length q0_next q0_numbers q0_sort q0_done)) (wM E ad q0_why q0_detail q0_reasonNow q0_detailNow q0_w q0_undos q0_savedRow q0_mind q0_changes q0_firstChange q0_isSaved q0_at q0_line q0_lineLength q0_text q0_length t18.2 q0_numbers t1 q0_done) s.heap H locs := hH
        refine lv_if_eq (tgt := 279) hx hb dX9_readsOrder_246 (by decide) (fun c19 => ?_) (fun c19 => ?_)
        · have hf := ite_t hf c19
          refine lv_iconst (v := 0) hx hb dX9_readsOrder_279 (by decide) ?_
          have hf := Option.some.inj hf
          subst hf
          exact e_Wz hC hH hr hlocks rfl rfl rfl dX9_readsOrder_280
        · have hf := ite_f hf c19
          refine lv_aload_n hx hb dX9_readsOrder_249 rfl (lv_at hl 0 rfl) ?_
          refine lv_bipush (v := 114) hx hb dX9_readsOrder_250 (by decide) ?_
          obtain ⟨t20, ht20, hf⟩ := ob hf
          refine k_WVsi hC LX9_207 ⟨Nat.le_of_ble_eq_true rfl, Nat.le_of_ble_eq_true rfl⟩ ⟨Nat.zero_le _, Nat.zero_le _⟩ (cM_reads l E ad q0_why q0_detail q0_reasonNow q0_detailNow q0_w q0_undos q0_savedRow q0_mind q0_changes q0_firstChange q0_isSaved q0_at q0_line q0_lineLength q0_text q0_length t18.2 q0_numbers t1 q0_done (114 : Int32) t20 ht20) rfl rfl hH rfl rfl rfl hl.1 rfl (Nat.le_of_ble_eq_true rfl) rfl dX9_readsOrder_252 (fun H locs hz252 hH => ?_)
          have hH : Hp E (adr (wM E ad q0_why q0_detail q0_reasonNow q0_detailNow q0_w q0_undos q0_savedRow q0_mind q0_changes q0_firstChange q0_isSaved q0_at q0_line q0_lineLength q0_text q0_length q0_next q0_numbers q0_sort q0_done)) (wM E ad q0_why q0_detail q0_reasonNow q0_detailNow q0_w q0_undos q0_savedRow q0_mind q0_changes q0_firstChange q0_isSaved q0_at q0_line q0_lineLength q0_text q0_length t20.2 q0_numbers t1 q0_done) s.heap H locs := hH
          refine lv_if_eq (tgt := 279) hx hb dX9_readsOrder_255 (by decide) (fun c21 => ?_) (fun c21 => ?_)
          · have hf := ite_t hf c21
            refine lv_iconst (v := 0) hx hb dX9_readsOrder_279 (by decide) ?_
            have hf := Option.some.inj hf
            subst hf
            exact e_Wz hC hH hr hlocks rfl rfl rfl dX9_readsOrder_280
          · have hf := ite_f hf c21
            refine lv_aload_n hx hb dX9_readsOrder_258 rfl (lv_at hl 0 rfl) ?_
            refine lv_bipush (v := 107) hx hb dX9_readsOrder_259 (by decide) ?_
            obtain ⟨t22, ht22, hf⟩ := ob hf
            refine k_WVsi hC LX9_207 ⟨Nat.le_of_ble_eq_true rfl, Nat.le_of_ble_eq_true rfl⟩ ⟨Nat.zero_le _, Nat.zero_le _⟩ (cM_reads l E ad q0_why q0_detail q0_reasonNow q0_detailNow q0_w q0_undos q0_savedRow q0_mind q0_changes q0_firstChange q0_isSaved q0_at q0_line q0_lineLength q0_text q0_length t20.2 q0_numbers t1 q0_done (107 : Int32) t22 ht22) rfl rfl hH rfl rfl rfl hl.1 rfl (Nat.le_of_ble_eq_true rfl) rfl dX9_readsOrder_261 (fun H locs hz261 hH => ?_)
            have hH : Hp E (adr (wM E ad q0_why q0_detail q0_reasonNow q0_detailNow q0_w q0_undos q0_savedRow q0_mind q0_changes q0_firstChange q0_isSaved q0_at q0_line q0_lineLength q0_text q0_length q0_next q0_numbers q0_sort q0_done)) (wM E ad q0_why q0_detail q0_reasonNow q0_detailNow q0_w q0_undos q0_savedRow q0_mind q0_changes q0_firstChange q0_isSaved q0_at q0_line q0_lineLength q0_text q0_length t22.2 q0_numbers t1 q0_done) s.heap H locs := hH
            refine lv_if_eq (tgt := 279) hx hb dX9_readsOrder_264 (by decide) (fun c23 => ?_) (fun c23 => ?_)
            · have hf := ite_t hf c23
              refine lv_iconst (v := 0) hx hb dX9_readsOrder_279 (by decide) ?_
              have hf := Option.some.inj hf
              subst hf
              exact e_Wz hC hH hr hlocks rfl rfl rfl dX9_readsOrder_280
            · have hf := ite_f hf c23
              refine lv_aload_n hx hb dX9_readsOrder_267 rfl (lv_at hl 0 rfl) ?_
              refine lv_iconst (v := 0) hx hb dX9_readsOrder_268 (by decide) ?_
              obtain ⟨t24, ht24, hf⟩ := ob hf
              refine k_WVsi hC LX9_216 ⟨Nat.le_of_ble_eq_true rfl, Nat.le_of_ble_eq_true rfl⟩ ⟨Nat.zero_le _, Nat.zero_le _⟩ (cM_readsNumber l E ad q0_why q0_detail q0_reasonNow q0_detailNow q0_w q0_undos q0_savedRow q0_mind q0_changes q0_firstChange q0_isSaved q0_at q0_line q0_lineLength q0_text q0_length t22.2 q0_numbers t1 q0_done (0 : Int32) t24 ht24) rfl rfl hH rfl rfl rfl hl.1 rfl (Nat.le_of_ble_eq_true rfl) rfl dX9_readsOrder_269 (fun H locs hz269 hH => ?_)
              have hH : Hp E (adr (wM E ad q0_why q0_detail q0_reasonNow q0_detailNow q0_w q0_undos q0_savedRow q0_mind q0_changes q0_firstChange q0_isSaved q0_at q0_line q0_lineLength q0_text q0_length q0_next q0_numbers q0_sort q0_done)) (wM E ad q0_why q0_detail q0_reasonNow q0_detailNow q0_w q0_undos q0_savedRow q0_mind q0_changes q0_firstChange q0_isSaved q0_at q0_line q0_lineLength q0_text q0_length t24.2.1 t24.2.2 t1 q0_done) s.heap H locs := hH
              refine lv_if_eq (tgt := 279) hx hb dX9_readsOrder_272 (by decide) (fun c25 => ?_) (fun c25 => ?_)
              · have hf := ite_t hf c25
                refine lv_iconst (v := 0) hx hb dX9_readsOrder_279 (by decide) ?_
                have hf := Option.some.inj hf
                subst hf
                exact e_Wz hC hH hr hlocks rfl rfl rfl dX9_readsOrder_280
              · have hf := ite_f hf c25
                refine lv_iconst (v := 1) hx hb dX9_readsOrder_275 (by decide) ?_
                refine lv_goto (tgt := 280) hx hb dX9_readsOrder_276 (by decide) ?_
                have hf := Option.some.inj hf
                subst hf
                exact e_Wz hC hH hr hlocks rfl rfl rfl dX9_readsOrder_280
      · have hf := ite_f hf c22_109
        by_cases c22_111 : t1 = (111 : Int32)
        · have hf := ite_t hf c22_111
          have e9 : (t1).toInt = 111 := by rw [c22_111]; decide
          refine lv_tableIn (tgt := 167) hx hb dX9_readsOrder_22 (by omega) (by omega) (by rw [e9]; rfl) (by decide) ?_
          refine lv_aload_n hx hb dX9_readsOrder_167 rfl (lv_at hl 0 rfl) ?_
          refine lv_bipush (v := 117) hx hb dX9_readsOrder_168 (by decide) ?_
          obtain ⟨t26, ht26, hf⟩ := ob hf
          refine k_WVsi hC LX9_207 ⟨Nat.le_of_ble_eq_true rfl, Nat.le_of_ble_eq_true rfl⟩ ⟨Nat.zero_le _, Nat.zero_le _⟩ (cM_reads l E ad q0_why q0_detail q0_reasonNow q0_detailNow q0_w q0_undos q0_savedRow q0_mind q0_changes q0_firstChange q0_isSaved q0_at q0_line q0_lineLength q0_text q0_length (q0_next + (1 : Int32)) q0_numbers t1 q0_done (117 : Int32) t26 ht26) rfl rfl hH rfl rfl rfl hl.1 rfl (Nat.le_of_ble_eq_true rfl) rfl dX9_readsOrder_170 (fun H locs hz170 hH => ?_)
          have hH : Hp E (adr (wM E ad q0_why q0_detail q0_reasonNow q0_detailNow q0_w q0_undos q0_savedRow q0_mind q0_changes q0_firstChange q0_isSaved q0_at q0_line q0_lineLength q0_text q0_length q0_next q0_numbers q0_sort q0_done)) (wM E ad q0_why q0_detail q0_reasonNow q0_detailNow q0_w q0_undos q0_savedRow q0_mind q0_changes q0_firstChange q0_isSaved q0_at q0_line q0_lineLength q0_text q0_length t26.2 q0_numbers t1 q0_done) s.heap H locs := hH
          refine lv_if_eq (tgt := 197) hx hb dX9_readsOrder_173 (by decide) (fun c27 => ?_) (fun c27 => ?_)
          · have hf := ite_t hf c27
            refine lv_iconst (v := 0) hx hb dX9_readsOrder_197 (by decide) ?_
            have hf := Option.some.inj hf
            subst hf
            exact e_Wz hC hH hr hlocks rfl rfl rfl dX9_readsOrder_198
          · have hf := ite_f hf c27
            refine lv_aload_n hx hb dX9_readsOrder_176 rfl (lv_at hl 0 rfl) ?_
            refine lv_bipush (v := 116) hx hb dX9_readsOrder_177 (by decide) ?_
            obtain ⟨t28, ht28, hf⟩ := ob hf
            refine k_WVsi hC LX9_207 ⟨Nat.le_of_ble_eq_true rfl, Nat.le_of_ble_eq_true rfl⟩ ⟨Nat.zero_le _, Nat.zero_le _⟩ (cM_reads l E ad q0_why q0_detail q0_reasonNow q0_detailNow q0_w q0_undos q0_savedRow q0_mind q0_changes q0_firstChange q0_isSaved q0_at q0_line q0_lineLength q0_text q0_length t26.2 q0_numbers t1 q0_done (116 : Int32) t28 ht28) rfl rfl hH rfl rfl rfl hl.1 rfl (Nat.le_of_ble_eq_true rfl) rfl dX9_readsOrder_179 (fun H locs hz179 hH => ?_)
            have hH : Hp E (adr (wM E ad q0_why q0_detail q0_reasonNow q0_detailNow q0_w q0_undos q0_savedRow q0_mind q0_changes q0_firstChange q0_isSaved q0_at q0_line q0_lineLength q0_text q0_length q0_next q0_numbers q0_sort q0_done)) (wM E ad q0_why q0_detail q0_reasonNow q0_detailNow q0_w q0_undos q0_savedRow q0_mind q0_changes q0_firstChange q0_isSaved q0_at q0_line q0_lineLength q0_text q0_length t28.2 q0_numbers t1 q0_done) s.heap H locs := hH
            refine lv_if_eq (tgt := 197) hx hb dX9_readsOrder_182 (by decide) (fun c29 => ?_) (fun c29 => ?_)
            · have hf := ite_t hf c29
              refine lv_iconst (v := 0) hx hb dX9_readsOrder_197 (by decide) ?_
              have hf := Option.some.inj hf
              subst hf
              exact e_Wz hC hH hr hlocks rfl rfl rfl dX9_readsOrder_198
            · have hf := ite_f hf c29
              refine lv_aload_n hx hb dX9_readsOrder_185 rfl (lv_at hl 0 rfl) ?_
              refine lv_iconst (v := 0) hx hb dX9_readsOrder_186 (by decide) ?_
              obtain ⟨t30, ht30, hf⟩ := ob hf
              refine k_WVsi hC LX9_216 ⟨Nat.le_of_ble_eq_true rfl, Nat.le_of_ble_eq_true rfl⟩ ⟨Nat.zero_le _, Nat.zero_le _⟩ (cM_readsNumber l E ad q0_why q0_detail q0_reasonNow q0_detailNow q0_w q0_undos q0_savedRow q0_mind q0_changes q0_firstChange q0_isSaved q0_at q0_line q0_lineLength q0_text q0_length t28.2 q0_numbers t1 q0_done (0 : Int32) t30 ht30) rfl rfl hH rfl rfl rfl hl.1 rfl (Nat.le_of_ble_eq_true rfl) rfl dX9_readsOrder_187 (fun H locs hz187 hH => ?_)
              have hH : Hp E (adr (wM E ad q0_why q0_detail q0_reasonNow q0_detailNow q0_w q0_undos q0_savedRow q0_mind q0_changes q0_firstChange q0_isSaved q0_at q0_line q0_lineLength q0_text q0_length q0_next q0_numbers q0_sort q0_done)) (wM E ad q0_why q0_detail q0_reasonNow q0_detailNow q0_w q0_undos q0_savedRow q0_mind q0_changes q0_firstChange q0_isSaved q0_at q0_line q0_lineLength q0_text q0_length t30.2.1 t30.2.2 t1 q0_done) s.heap H locs := hH
              refine lv_if_eq (tgt := 197) hx hb dX9_readsOrder_190 (by decide) (fun c31 => ?_) (fun c31 => ?_)
              · have hf := ite_t hf c31
                refine lv_iconst (v := 0) hx hb dX9_readsOrder_197 (by decide) ?_
                have hf := Option.some.inj hf
                subst hf
                exact e_Wz hC hH hr hlocks rfl rfl rfl dX9_readsOrder_198
              · have hf := ite_f hf c31
                refine lv_iconst (v := 1) hx hb dX9_readsOrder_193 (by decide) ?_
                refine lv_goto (tgt := 198) hx hb dX9_readsOrder_194 (by decide) ?_
                have hf := Option.some.inj hf
                subst hf
                exact e_Wz hC hH hr hlocks rfl rfl rfl dX9_readsOrder_198
        · have hf := ite_f hf c22_111
          by_cases c22_112 : t1 = (112 : Int32)
          · have hf := ite_t hf c22_112
            have e9 : (t1).toInt = 112 := by rw [c22_112]; decide
            refine lv_tableIn (tgt := 104) hx hb dX9_readsOrder_22 (by omega) (by omega) (by rw [e9]; rfl) (by decide) ?_
            refine lv_aload_n hx hb dX9_readsOrder_104 rfl (lv_at hl 0 rfl) ?_
            refine lv_bipush (v := 117) hx hb dX9_readsOrder_105 (by decide) ?_
            obtain ⟨t32, ht32, hf⟩ := ob hf
            refine k_WVsi hC LX9_207 ⟨Nat.le_of_ble_eq_true rfl, Nat.le_of_ble_eq_true rfl⟩ ⟨Nat.zero_le _, Nat.zero_le _⟩ (cM_reads l E ad q0_why q0_detail q0_reasonNow q0_detailNow q0_w q0_undos q0_savedRow q0_mind q0_changes q0_firstChange q0_isSaved q0_at q0_line q0_lineLength q0_text q0_length (q0_next + (1 : Int32)) q0_numbers t1 q0_done (117 : Int32) t32 ht32) rfl rfl hH rfl rfl rfl hl.1 rfl (Nat.le_of_ble_eq_true rfl) rfl dX9_readsOrder_107 (fun H locs hz107 hH => ?_)
            have hH : Hp E (adr (wM E ad q0_why q0_detail q0_reasonNow q0_detailNow q0_w q0_undos q0_savedRow q0_mind q0_changes q0_firstChange q0_isSaved q0_at q0_line q0_lineLength q0_text q0_length q0_next q0_numbers q0_sort q0_done)) (wM E ad q0_why q0_detail q0_reasonNow q0_detailNow q0_w q0_undos q0_savedRow q0_mind q0_changes q0_firstChange q0_isSaved q0_at q0_line q0_lineLength q0_text q0_length t32.2 q0_numbers t1 q0_done) s.heap H locs := hH
            refine lv_if_eq (tgt := 134) hx hb dX9_readsOrder_110 (by decide) (fun c33 => ?_) (fun c33 => ?_)
            · have hf := ite_t hf c33
              refine lv_iconst (v := 0) hx hb dX9_readsOrder_134 (by decide) ?_
              have hf := Option.some.inj hf
              subst hf
              exact e_Wz hC hH hr hlocks rfl rfl rfl dX9_readsOrder_135
            · have hf := ite_f hf c33
              refine lv_aload_n hx hb dX9_readsOrder_113 rfl (lv_at hl 0 rfl) ?_
              refine lv_bipush (v := 116) hx hb dX9_readsOrder_114 (by decide) ?_
              obtain ⟨t34, ht34, hf⟩ := ob hf
              refine k_WVsi hC LX9_207 ⟨Nat.le_of_ble_eq_true rfl, Nat.le_of_ble_eq_true rfl⟩ ⟨Nat.zero_le _, Nat.zero_le _⟩ (cM_reads l E ad q0_why q0_detail q0_reasonNow q0_detailNow q0_w q0_undos q0_savedRow q0_mind q0_changes q0_firstChange q0_isSaved q0_at q0_line q0_lineLength q0_text q0_length t32.2 q0_numbers t1 q0_done (116 : Int32) t34 ht34) rfl rfl hH rfl rfl rfl hl.1 rfl (Nat.le_of_ble_eq_true rfl) rfl dX9_readsOrder_116 (fun H locs hz116 hH => ?_)
              have hH : Hp E (adr (wM E ad q0_why q0_detail q0_reasonNow q0_detailNow q0_w q0_undos q0_savedRow q0_mind q0_changes q0_firstChange q0_isSaved q0_at q0_line q0_lineLength q0_text q0_length q0_next q0_numbers q0_sort q0_done)) (wM E ad q0_why q0_detail q0_reasonNow q0_detailNow q0_w q0_undos q0_savedRow q0_mind q0_changes q0_firstChange q0_isSaved q0_at q0_line q0_lineLength q0_text q0_length t34.2 q0_numbers t1 q0_done) s.heap H locs := hH
              refine lv_if_eq (tgt := 134) hx hb dX9_readsOrder_119 (by decide) (fun c35 => ?_) (fun c35 => ?_)
              · have hf := ite_t hf c35
                refine lv_iconst (v := 0) hx hb dX9_readsOrder_134 (by decide) ?_
                have hf := Option.some.inj hf
                subst hf
                exact e_Wz hC hH hr hlocks rfl rfl rfl dX9_readsOrder_135
              · have hf := ite_f hf c35
                refine lv_aload_n hx hb dX9_readsOrder_122 rfl (lv_at hl 0 rfl) ?_
                refine lv_iconst (v := 0) hx hb dX9_readsOrder_123 (by decide) ?_
                obtain ⟨t36, ht36, hf⟩ := ob hf
                refine k_WVsi hC LX9_216 ⟨Nat.le_of_ble_eq_true rfl, Nat.le_of_ble_eq_true rfl⟩ ⟨Nat.zero_le _, Nat.zero_le _⟩ (cM_readsNumber l E ad q0_why q0_detail q0_reasonNow q0_detailNow q0_w q0_undos q0_savedRow q0_mind q0_changes q0_firstChange q0_isSaved q0_at q0_line q0_lineLength q0_text q0_length t34.2 q0_numbers t1 q0_done (0 : Int32) t36 ht36) rfl rfl hH rfl rfl rfl hl.1 rfl (Nat.le_of_ble_eq_true rfl) rfl dX9_readsOrder_124 (fun H locs hz124 hH => ?_)
                have hH : Hp E (adr (wM E ad q0_why q0_detail q0_reasonNow q0_detailNow q0_w q0_undos q0_savedRow q0_mind q0_changes q0_firstChange q0_isSaved q0_at q0_line q0_lineLength q0_text q0_length q0_next q0_numbers q0_sort q0_done)) (wM E ad q0_why q0_detail q0_reasonNow q0_detailNow q0_w q0_undos q0_savedRow q0_mind q0_changes q0_firstChange q0_isSaved q0_at q0_line q0_lineLength q0_text q0_length t36.2.1 t36.2.2 t1 q0_done) s.heap H locs := hH
                refine lv_if_eq (tgt := 134) hx hb dX9_readsOrder_127 (by decide) (fun c37 => ?_) (fun c37 => ?_)
                · have hf := ite_t hf c37
                  refine lv_iconst (v := 0) hx hb dX9_readsOrder_134 (by decide) ?_
                  have hf := Option.some.inj hf
                  subst hf
                  exact e_Wz hC hH hr hlocks rfl rfl rfl dX9_readsOrder_135
                · have hf := ite_f hf c37
                  refine lv_iconst (v := 1) hx hb dX9_readsOrder_130 (by decide) ?_
                  refine lv_goto (tgt := 135) hx hb dX9_readsOrder_131 (by decide) ?_
                  have hf := Option.some.inj hf
                  subst hf
                  exact e_Wz hC hH hr hlocks rfl rfl rfl dX9_readsOrder_135
          · have hf := ite_f hf c22_112
            by_cases c22_115 : t1 = (115 : Int32)
            · have hf := ite_t hf c22_115
              have e9 : (t1).toInt = 115 := by rw [c22_115]; decide
              refine lv_tableIn (tgt := 199) hx hb dX9_readsOrder_22 (by omega) (by omega) (by rw [e9]; rfl) (by decide) ?_
              refine lv_aload_n hx hb dX9_readsOrder_199 rfl (lv_at hl 0 rfl) ?_
              refine lv_bipush (v := 119) hx hb dX9_readsOrder_200 (by decide) ?_
              obtain ⟨t38, ht38, hf⟩ := ob hf
              refine k_WVsi hC LX9_207 ⟨Nat.le_of_ble_eq_true rfl, Nat.le_of_ble_eq_true rfl⟩ ⟨Nat.zero_le _, Nat.zero_le _⟩ (cM_reads l E ad q0_why q0_detail q0_reasonNow q0_detailNow q0_w q0_undos q0_savedRow q0_mind q0_changes q0_firstChange q0_isSaved q0_at q0_line q0_lineLength q0_text q0_length (q0_next + (1 : Int32)) q0_numbers t1 q0_done (119 : Int32) t38 ht38) rfl rfl hH rfl rfl rfl hl.1 rfl (Nat.le_of_ble_eq_true rfl) rfl dX9_readsOrder_202 (fun H locs hz202 hH => ?_)
              have hH : Hp E (adr (wM E ad q0_why q0_detail q0_reasonNow q0_detailNow q0_w q0_undos q0_savedRow q0_mind q0_changes q0_firstChange q0_isSaved q0_at q0_line q0_lineLength q0_text q0_length q0_next q0_numbers q0_sort q0_done)) (wM E ad q0_why q0_detail q0_reasonNow q0_detailNow q0_w q0_undos q0_savedRow q0_mind q0_changes q0_firstChange q0_isSaved q0_at q0_line q0_lineLength q0_text q0_length t38.2 q0_numbers t1 q0_done) s.heap H locs := hH
              refine lv_if_eq (tgt := 238) hx hb dX9_readsOrder_205 (by decide) (fun c39 => ?_) (fun c39 => ?_)
              · have hf := ite_t hf c39
                refine lv_iconst (v := 0) hx hb dX9_readsOrder_238 (by decide) ?_
                have hf := Option.some.inj hf
                subst hf
                exact e_Wz hC hH hr hlocks rfl rfl rfl dX9_readsOrder_239
              · have hf := ite_f hf c39
                refine lv_aload_n hx hb dX9_readsOrder_208 rfl (lv_at hl 0 rfl) ?_
                refine lv_bipush (v := 97) hx hb dX9_readsOrder_209 (by decide) ?_
                obtain ⟨t40, ht40, hf⟩ := ob hf
                refine k_WVsi hC LX9_207 ⟨Nat.le_of_ble_eq_true rfl, Nat.le_of_ble_eq_true rfl⟩ ⟨Nat.zero_le _, Nat.zero_le _⟩ (cM_reads l E ad q0_why q0_detail q0_reasonNow q0_detailNow q0_w q0_undos q0_savedRow q0_mind q0_changes q0_firstChange q0_isSaved q0_at q0_line q0_lineLength q0_text q0_length t38.2 q0_numbers t1 q0_done (97 : Int32) t40 ht40) rfl rfl hH rfl rfl rfl hl.1 rfl (Nat.le_of_ble_eq_true rfl) rfl dX9_readsOrder_211 (fun H locs hz211 hH => ?_)
                have hH : Hp E (adr (wM E ad q0_why q0_detail q0_reasonNow q0_detailNow q0_w q0_undos q0_savedRow q0_mind q0_changes q0_firstChange q0_isSaved q0_at q0_line q0_lineLength q0_text q0_length q0_next q0_numbers q0_sort q0_done)) (wM E ad q0_why q0_detail q0_reasonNow q0_detailNow q0_w q0_undos q0_savedRow q0_mind q0_changes q0_firstChange q0_isSaved q0_at q0_line q0_lineLength q0_text q0_length t40.2 q0_numbers t1 q0_done) s.heap H locs := hH
                refine lv_if_eq (tgt := 238) hx hb dX9_readsOrder_214 (by decide) (fun c41 => ?_) (fun c41 => ?_)
                · have hf := ite_t hf c41
                  refine lv_iconst (v := 0) hx hb dX9_readsOrder_238 (by decide) ?_
                  have hf := Option.some.inj hf
                  subst hf
                  exact e_Wz hC hH hr hlocks rfl rfl rfl dX9_readsOrder_239
                · have hf := ite_f hf c41
                  refine lv_aload_n hx hb dX9_readsOrder_217 rfl (lv_at hl 0 rfl) ?_
                  refine lv_bipush (v := 112) hx hb dX9_readsOrder_218 (by decide) ?_
                  obtain ⟨t42, ht42, hf⟩ := ob hf
                  refine k_WVsi hC LX9_207 ⟨Nat.le_of_ble_eq_true rfl, Nat.le_of_ble_eq_true rfl⟩ ⟨Nat.zero_le _, Nat.zero_le _⟩ (cM_reads l E ad q0_why q0_detail q0_reasonNow q0_detailNow q0_w q0_undos q0_savedRow q0_mind q0_changes q0_firstChange q0_isSaved q0_at q0_line q0_lineLength q0_text q0_length t40.2 q0_numbers t1 q0_done (112 : Int32) t42 ht42) rfl rfl hH rfl rfl rfl hl.1 rfl (Nat.le_of_ble_eq_true rfl) rfl dX9_readsOrder_220 (fun H locs hz220 hH => ?_)
                  have hH : Hp E (adr (wM E ad q0_why q0_detail q0_reasonNow q0_detailNow q0_w q0_undos q0_savedRow q0_mind q0_changes q0_firstChange q0_isSaved q0_at q0_line q0_lineLength q0_text q0_length q0_next q0_numbers q0_sort q0_done)) (wM E ad q0_why q0_detail q0_reasonNow q0_detailNow q0_w q0_undos q0_savedRow q0_mind q0_changes q0_firstChange q0_isSaved q0_at q0_line q0_lineLength q0_text q0_length t42.2 q0_numbers t1 q0_done) s.heap H locs := hH
                  refine lv_if_eq (tgt := 238) hx hb dX9_readsOrder_223 (by decide) (fun c43 => ?_) (fun c43 => ?_)
                  · have hf := ite_t hf c43
                    refine lv_iconst (v := 0) hx hb dX9_readsOrder_238 (by decide) ?_
                    have hf := Option.some.inj hf
                    subst hf
                    exact e_Wz hC hH hr hlocks rfl rfl rfl dX9_readsOrder_239
                  · have hf := ite_f hf c43
                    refine lv_aload_n hx hb dX9_readsOrder_226 rfl (lv_at hl 0 rfl) ?_
                    refine lv_iconst (v := 0) hx hb dX9_readsOrder_227 (by decide) ?_
                    obtain ⟨t44, ht44, hf⟩ := ob hf
                    refine k_WVsi hC LX9_216 ⟨Nat.le_of_ble_eq_true rfl, Nat.le_of_ble_eq_true rfl⟩ ⟨Nat.zero_le _, Nat.zero_le _⟩ (cM_readsNumber l E ad q0_why q0_detail q0_reasonNow q0_detailNow q0_w q0_undos q0_savedRow q0_mind q0_changes q0_firstChange q0_isSaved q0_at q0_line q0_lineLength q0_text q0_length t42.2 q0_numbers t1 q0_done (0 : Int32) t44 ht44) rfl rfl hH rfl rfl rfl hl.1 rfl (Nat.le_of_ble_eq_true rfl) rfl dX9_readsOrder_228 (fun H locs hz228 hH => ?_)
                    have hH : Hp E (adr (wM E ad q0_why q0_detail q0_reasonNow q0_detailNow q0_w q0_undos q0_savedRow q0_mind q0_changes q0_firstChange q0_isSaved q0_at q0_line q0_lineLength q0_text q0_length q0_next q0_numbers q0_sort q0_done)) (wM E ad q0_why q0_detail q0_reasonNow q0_detailNow q0_w q0_undos q0_savedRow q0_mind q0_changes q0_firstChange q0_isSaved q0_at q0_line q0_lineLength q0_text q0_length t44.2.1 t44.2.2 t1 q0_done) s.heap H locs := hH
                    refine lv_if_eq (tgt := 238) hx hb dX9_readsOrder_231 (by decide) (fun c45 => ?_) (fun c45 => ?_)
                    · have hf := ite_t hf c45
                      refine lv_iconst (v := 0) hx hb dX9_readsOrder_238 (by decide) ?_
                      have hf := Option.some.inj hf
                      subst hf
                      exact e_Wz hC hH hr hlocks rfl rfl rfl dX9_readsOrder_239
                    · have hf := ite_f hf c45
                      refine lv_iconst (v := 1) hx hb dX9_readsOrder_234 (by decide) ?_
                      refine lv_goto (tgt := 239) hx hb dX9_readsOrder_235 (by decide) ?_
                      have hf := Option.some.inj hf
                      subst hf
                      exact e_Wz hC hH hr hlocks rfl rfl rfl dX9_readsOrder_239
            · have hf := ite_f hf c22_115
              have hd : W p l e rmM_readsOrder s m args below meth c H locs 0 0 (MQ below (qW E (some .boolean) (some (.int t.1)) (wM E ad q0_why q0_detail q0_reasonNow q0_detailNow q0_w q0_undos q0_savedRow q0_mind q0_changes q0_firstChange q0_isSaved q0_at q0_line q0_lineLength q0_text q0_length q0_next q0_numbers q0_sort q0_done) (wM E ad q0_why q0_detail q0_reasonNow q0_detailNow q0_w q0_undos q0_savedRow q0_mind q0_changes q0_firstChange q0_isSaved q0_at q0_line q0_lineLength q0_text q0_length t.2.1 t.2.2.1 t.2.2.2 q0_done)) args s 0 0 (adr (wM E ad q0_why q0_detail q0_reasonNow q0_detailNow q0_w q0_undos q0_savedRow q0_mind q0_changes q0_firstChange q0_isSaved q0_at q0_line q0_lineLength q0_text q0_length q0_next q0_numbers q0_sort q0_done))) (F0 m 331 ls []) := by
                refine lv_aload_n hx hb dX9_readsOrder_331 rfl (lv_at hl 0 rfl) ?_
                refine lv_dup hx hb dX9_readsOrder_332 rfl ?_
                refine gX9_201 hC hH.1 0 rfl (v := .int (q0_next + (1 : Int32))) rfl dX9_readsOrder_333 ?_
                refine lv_iconst (v := 1) hx hb dX9_readsOrder_336 (by decide) ?_
                refine lv_isub hx hb dX9_readsOrder_337 ?_
                refine pX9_201 hC hH 0 rfl (v := .int ((q0_next + (1 : Int32)) - (1 : Int32))) rfl rfl (Nat.le_of_ble_eq_true rfl) (W1 := wM E ad q0_why q0_detail q0_reasonNow q0_detailNow q0_w q0_undos q0_savedRow q0_mind q0_changes q0_firstChange q0_isSaved q0_at q0_line q0_lineLength q0_text q0_length ((q0_next + (1 : Int32)) - (1 : Int32)) q0_numbers t1 q0_done) rfl dX9_readsOrder_338 (fun H locs hH => ?_)
                refine lv_iconst (v := 0) hx hb dX9_readsOrder_341 (by decide) ?_
                have hf := Option.some.inj hf
                subst hf
                exact e_Wz hC hH hr hlocks rfl rfl rfl dX9_readsOrder_342
              by_cases c22_100 : t1 = (100 : Int32)
              · have e9 : (t1).toInt = 100 := by rw [c22_100]; decide
                refine lv_tableIn (tgt := 331) hx hb dX9_readsOrder_22 (by omega) (by omega) (by rw [e9]; rfl) (by decide) hd
              by_cases c22_101 : t1 = (101 : Int32)
              · have e9 : (t1).toInt = 101 := by rw [c22_101]; decide
                refine lv_tableIn (tgt := 331) hx hb dX9_readsOrder_22 (by omega) (by omega) (by rw [e9]; rfl) (by decide) hd
              by_cases c22_102 : t1 = (102 : Int32)
              · have e9 : (t1).toInt = 102 := by rw [c22_102]; decide
                refine lv_tableIn (tgt := 331) hx hb dX9_readsOrder_22 (by omega) (by omega) (by rw [e9]; rfl) (by decide) hd
              by_cases c22_103 : t1 = (103 : Int32)
              · have e9 : (t1).toInt = 103 := by rw [c22_103]; decide
                refine lv_tableIn (tgt := 331) hx hb dX9_readsOrder_22 (by omega) (by omega) (by rw [e9]; rfl) (by decide) hd
              by_cases c22_104 : t1 = (104 : Int32)
              · have e9 : (t1).toInt = 104 := by rw [c22_104]; decide
                refine lv_tableIn (tgt := 331) hx hb dX9_readsOrder_22 (by omega) (by omega) (by rw [e9]; rfl) (by decide) hd
              by_cases c22_106 : t1 = (106 : Int32)
              · have e9 : (t1).toInt = 106 := by rw [c22_106]; decide
                refine lv_tableIn (tgt := 331) hx hb dX9_readsOrder_22 (by omega) (by omega) (by rw [e9]; rfl) (by decide) hd
              by_cases c22_107 : t1 = (107 : Int32)
              · have e9 : (t1).toInt = 107 := by rw [c22_107]; decide
                refine lv_tableIn (tgt := 331) hx hb dX9_readsOrder_22 (by omega) (by omega) (by rw [e9]; rfl) (by decide) hd
              by_cases c22_108 : t1 = (108 : Int32)
              · have e9 : (t1).toInt = 108 := by rw [c22_108]; decide
                refine lv_tableIn (tgt := 331) hx hb dX9_readsOrder_22 (by omega) (by omega) (by rw [e9]; rfl) (by decide) hd
              by_cases c22_110 : t1 = (110 : Int32)
              · have e9 : (t1).toInt = 110 := by rw [c22_110]; decide
                refine lv_tableIn (tgt := 331) hx hb dX9_readsOrder_22 (by omega) (by omega) (by rw [e9]; rfl) (by decide) hd
              by_cases c22_113 : t1 = (113 : Int32)
              · have e9 : (t1).toInt = 113 := by rw [c22_113]; decide
                refine lv_tableIn (tgt := 331) hx hb dX9_readsOrder_22 (by omega) (by omega) (by rw [e9]; rfl) (by decide) hd
              by_cases c22_114 : t1 = (114 : Int32)
              · have e9 : (t1).toInt = 114 := by rw [c22_114]; decide
                refine lv_tableIn (tgt := 331) hx hb dX9_readsOrder_22 (by omega) (by omega) (by rw [e9]; rfl) (by decide) hd
              refine lv_tableOut (tgt := 331) hx hb dX9_readsOrder_22 (by have n99 := lv_neT c22_99 (a := 99) (by decide); have n100 := lv_neT c22_100 (a := 100) (by decide); have n101 := lv_neT c22_101 (a := 101) (by decide); have n102 := lv_neT c22_102 (a := 102) (by decide); have n103 := lv_neT c22_103 (a := 103) (by decide); have n104 := lv_neT c22_104 (a := 104) (by decide); have n105 := lv_neT c22_105 (a := 105) (by decide); have n106 := lv_neT c22_106 (a := 106) (by decide); have n107 := lv_neT c22_107 (a := 107) (by decide); have n108 := lv_neT c22_108 (a := 108) (by decide); have n109 := lv_neT c22_109 (a := 109) (by decide); have n110 := lv_neT c22_110 (a := 110) (by decide); have n111 := lv_neT c22_111 (a := 111) (by decide); have n112 := lv_neT c22_112 (a := 112) (by decide); have n113 := lv_neT c22_113 (a := 113) (by decide); have n114 := lv_neT c22_114 (a := 114) (by decide); have n115 := lv_neT c22_115 (a := 115) (by decide); omega) (by decide) hd
abbrev rmM_readsAll : Room := { frames := 4, cells := 0, slots := 0, locals := 85 }
set_option maxHeartbeats 4000000 in
set_option maxRecDepth 100000 in
theorem cM_readsAll (l : Launch) (E : eE) (ad : Nat → Nat) (q0_why : Int32) (q0_detail : Int32) (q0_reasonNow : Int32) (q0_detailNow : Int32) (q0_w : (Nat → Int32)) (q0_undos : (Nat → Int32)) (q0_savedRow : (Nat → Int32)) (q0_mind : (Nat → Int32)) (q0_changes : Int32) (q0_firstChange : Int32) (q0_isSaved : Int32) (q0_at : (Nat → Int32)) (q0_line : (Nat → Int32)) (q0_lineLength : Int32) (q0_text : (Nat → Int32)) (q0_length : Int32) (q0_next : Int32) (q0_numbers : (Nat → Int32)) (q0_sort : Int32) (q0_done : Int32) (t : Int32 × Int32 × (Nat → Int32) × Int32) (hf : fM_readsAll q0_text q0_length q0_next q0_numbers q0_sort = some t) : cW l E yX9_readsAll cX9_readsAll 2 (some .boolean) rmM_readsAll [.ref (ad 0)] (wM E ad q0_why q0_detail q0_reasonNow q0_detailNow q0_w q0_undos q0_savedRow q0_mind q0_changes q0_firstChange q0_isSaved q0_at q0_line q0_lineLength q0_text q0_length q0_next q0_numbers q0_sort q0_done) (some (.int t.1)) (wM E ad q0_why q0_detail q0_reasonNow q0_detailNow q0_w q0_undos q0_savedRow q0_mind q0_changes q0_firstChange q0_isSaved q0_at q0_line q0_lineLength q0_text q0_length t.2.1 t.2.2.1 t.2.2.2 q0_done) := by
  refine Met.ofW (cc := cX9_readsAll) (maxL := 2) (ret := (some .boolean)) (by decide) rfl ?_
  intro p e s m args below meth c s₁ B hml hv
  obtain ⟨hargs, hP, hK, hD0⟩ := hv
  have hx := B.exec
  have hb := B.bytes
  have hr := B.returns
  have hts := atoms_spec (ws := ws_ yX9_readsAll cX9_readsAll 2 (some .boolean)) B.pre
  have hta : ∀ w ∈ lw_all, w.before args s = true := fun w h => hts w (List.mem_cons_of_mem _ h)
  have hown : s.vm.findClass RX9 = some m.cls := findClass_of_methodNamed B.named
  have hlocks := B.notSynchronized
  have hC : Cx p s m args c cX9_readsAll 2 RX9 E := ⟨hx, hb, hml, hown, hta, hK⟩
  have hH : Hp E (adr (wM E ad q0_why q0_detail q0_reasonNow q0_detailNow q0_w q0_undos q0_savedRow q0_mind q0_changes q0_firstChange q0_isSaved q0_at q0_line q0_lineLength q0_text q0_length q0_next q0_numbers q0_sort q0_done)) (wM E ad q0_why q0_detail q0_reasonNow q0_detailNow q0_w q0_undos q0_savedRow q0_mind q0_changes q0_firstChange q0_isSaved q0_at q0_line q0_lineLength q0_text q0_length q0_next q0_numbers q0_sort q0_done) s.heap s.heap [] := Hp.start hP hD0
  obtain ⟨ls, he, hl⟩ := entry_ (m := m) (n := 2) hargs (Nat.le_of_ble_eq_true rfl)
  rw [he]
  have hl : lv_has ls 2 [(0, .ref (ad 0))] := hl
  show W p l e rmM_readsAll s m args below meth c s.heap [] 0 0 (MQ below (qW E (some .boolean) (some (.int t.1)) (wM E ad q0_why q0_detail q0_reasonNow q0_detailNow q0_w q0_undos q0_savedRow q0_mind q0_changes q0_firstChange q0_isSaved q0_at q0_line q0_lineLength q0_text q0_length q0_next q0_numbers q0_sort q0_done) (wM E ad q0_why q0_detail q0_reasonNow q0_detailNow q0_w q0_undos q0_savedRow q0_mind q0_changes q0_firstChange q0_isSaved q0_at q0_line q0_lineLength q0_text q0_length t.2.1 t.2.2.1 t.2.2.2 q0_done)) args s 0 0 (adr (wM E ad q0_why q0_detail q0_reasonNow q0_detailNow q0_w q0_undos q0_savedRow q0_mind q0_changes q0_firstChange q0_isSaved q0_at q0_line q0_lineLength q0_text q0_length q0_next q0_numbers q0_sort q0_done))) (F0 m 0 ls [])
  suffices hmain : ∀ (H : Heap) (locs : List Loc), Hp E (adr (wM E ad q0_why q0_detail q0_reasonNow q0_detailNow q0_w q0_undos q0_savedRow q0_mind q0_changes q0_firstChange q0_isSaved q0_at q0_line q0_lineLength q0_text q0_length q0_next q0_numbers q0_sort q0_done)) (wM E ad q0_why q0_detail q0_reasonNow q0_detailNow q0_w q0_undos q0_savedRow q0_mind q0_changes q0_firstChange q0_isSaved q0_at q0_line q0_lineLength q0_text q0_length q0_next q0_numbers q0_sort q0_done) s.heap H locs → W p l e rmM_readsAll s m args below meth c H locs 0 0 (MQ below (qW E (some .boolean) (some (.int t.1)) (wM E ad q0_why q0_detail q0_reasonNow q0_detailNow q0_w q0_undos q0_savedRow q0_mind q0_changes q0_firstChange q0_isSaved q0_at q0_line q0_lineLength q0_text q0_length q0_next q0_numbers q0_sort q0_done) (wM E ad q0_why q0_detail q0_reasonNow q0_detailNow q0_w q0_undos q0_savedRow q0_mind q0_changes q0_firstChange q0_isSaved q0_at q0_line q0_lineLength q0_text q0_length t.2.1 t.2.2.1 t.2.2.2 q0_done)) args s 0 0 (adr (wM E ad q0_why q0_detail q0_reasonNow q0_detailNow q0_w q0_undos q0_savedRow q0_mind q0_changes q0_firstChange q0_isSaved q0_at q0_line q0_lineLength q0_text q0_length q0_next q0_numbers q0_sort q0_done))) (F0 m 0 ls []) from hmain _ _ hH
  clear hH
  have L7 : ∀ (n : Nat) (y0_16 : Int32) (y0_17 : (Nat → Int32)) (y0_18 : Int32) (a1 : Int32) (ls : Array Slot), lv_has ls 2 [(0, .ref (ad 0)), (1, .int a1)] → ∀ (H : Heap) (locs : List Loc), Hp E (adr (wM E ad q0_why q0_detail q0_reasonNow q0_detailNow q0_w q0_undos q0_savedRow q0_mind q0_changes q0_firstChange q0_isSaved q0_at q0_line q0_lineLength q0_text q0_length q0_next q0_numbers q0_sort q0_done)) (wM E ad q0_why q0_detail q0_reasonNow q0_detailNow q0_w q0_undos q0_savedRow q0_mind q0_changes q0_firstChange q0_isSaved q0_at q0_line q0_lineLength q0_text q0_length y0_16 y0_17 y0_18 q0_done) s.heap H locs → fM_readsAll_7 n q0_text q0_length y0_16 y0_17 y0_18 a1 = some t → W p l e rmM_readsAll s m args below meth c H locs 0 0 (MQ below (qW E (some .boolean) (some (.int t.1)) (wM E ad q0_why q0_detail q0_reasonNow q0_detailNow q0_w q0_undos q0_savedRow q0_mind q0_changes q0_firstChange q0_isSaved q0_at q0_line q0_lineLength q0_text q0_length q0_next q0_numbers q0_sort q0_done) (wM E ad q0_why q0_detail q0_reasonNow q0_detailNow q0_w q0_undos q0_savedRow q0_mind q0_changes q0_firstChange q0_isSaved q0_at q0_line q0_lineLength q0_text q0_length t.2.1 t.2.2.1 t.2.2.2 q0_done)) args s 0 0 (adr (wM E ad q0_why q0_detail q0_reasonNow q0_detailNow q0_w q0_undos q0_savedRow q0_mind q0_changes q0_firstChange q0_isSaved q0_at q0_line q0_lineLength q0_text q0_length q0_next q0_numbers q0_sort q0_done))) (F0 m 7 ls []) := by
    intro n
    induction n with
    | zero => intro y0_16 y0_17 y0_18 a1 ls hl H locs hH hf; cases hf
    | succ n ih =>
      intro y0_16 y0_17 y0_18 a1 ls hl H locs hH hf
      rw [fM_readsAll_7] at hf
      refine lv_iload_n hx hb dX9_readsAll_7 rfl (lv_at hl 1 rfl) ?_
      refine lv_if_eq (tgt := 30) hx hb dX9_readsAll_8 (by decide) (fun c1 => ?_) (fun c1 => ?_)
      · have hf := ite_t hf c1
        refine lv_aload_n hx hb dX9_readsAll_30 rfl (lv_at hl 0 rfl) ?_
        refine gX9_201 hC hH.1 0 rfl (v := .int y0_16) rfl dX9_readsAll_31 ?_
        refine lv_aload_n hx hb dX9_readsAll_34 rfl (lv_at hl 0 rfl) ?_
        refine gX9_198 hC hH.1 0 rfl (v := .int q0_length) rfl dX9_readsAll_35 ?_
        refine lv_icmp_ne (tgt := 45) hx hb dX9_readsAll_38 (by decide) (fun c2 => ?_) (fun c2 => ?_)
        · have hf := ite_f hf c2
          refine lv_iconst (v := 0) hx hb dX9_readsAll_45 (by decide) ?_
          have hf := Option.some.inj hf
          subst hf
          exact e_Wz hC hH hr hlocks rfl rfl rfl dX9_readsAll_46
        · have hf := ite_t hf c2
          refine lv_iconst (v := 1) hx hb dX9_readsAll_41 (by decide) ?_
          refine lv_goto (tgt := 46) hx hb dX9_readsAll_42 (by decide) ?_
          have hf := Option.some.inj hf
          subst hf
          exact e_Wz hC hH hr hlocks rfl rfl rfl dX9_readsAll_46
      · have hf := ite_f hf c1
        refine lv_aload_n hx hb dX9_readsAll_11 rfl (lv_at hl 0 rfl) ?_
        obtain ⟨t3, ht3, hf⟩ := ob hf
        refine k_WVsi hC LX9_219 ⟨Nat.le_of_ble_eq_true rfl, Nat.le_of_ble_eq_true rfl⟩ ⟨Nat.zero_le _, Nat.zero_le _⟩ (cM_readsOrder l E ad q0_why q0_detail q0_reasonNow q0_detailNow q0_w q0_undos q0_savedRow q0_mind q0_changes q0_firstChange q0_isSaved q0_at q0_line q0_lineLength q0_text q0_length y0_16 y0_17 y0_18 q0_done t3 ht3) rfl rfl hH rfl rfl rfl hl.1 rfl (Nat.le_of_ble_eq_true rfl) rfl dX9_readsAll_12 (fun H locs hz12 hH => ?_)
        have hH : Hp E (adr (wM E ad q0_why q0_detail q0_reasonNow q0_detailNow q0_w q0_undos q0_savedRow q0_mind q0_changes q0_firstChange q0_isSaved q0_at q0_line q0_lineLength q0_text q0_length q0_next q0_numbers q0_sort q0_done)) (wM E ad q0_why q0_detail q0_reasonNow q0_detailNow q0_w q0_undos q0_savedRow q0_mind q0_changes q0_firstChange q0_isSaved q0_at q0_line q0_lineLength q0_text q0_length t3.2.1 t3.2.2.1 t3.2.2.2 q0_done) s.heap H locs := hH
        refine lv_if_ne (tgt := 20) hx hb dX9_readsAll_15 (by decide) (fun c4 => ?_) (fun c4 => ?_)
        · have hf := ite_f hf c4
          refine lv_aload_n hx hb dX9_readsAll_20 rfl (lv_at hl 0 rfl) ?_
          refine lv_bipush (v := 59) hx hb dX9_readsAll_21 (by decide) ?_
          obtain ⟨t5, ht5, hf⟩ := ob hf
          refine k_WVsi hC LX9_207 ⟨Nat.le_of_ble_eq_true rfl, Nat.le_of_ble_eq_true rfl⟩ ⟨Nat.zero_le _, Nat.zero_le _⟩ (cM_reads l E ad q0_why q0_detail q0_reasonNow q0_detailNow q0_w q0_undos q0_savedRow q0_mind q0_changes q0_firstChange q0_isSaved q0_at q0_line q0_lineLength q0_text q0_length t3.2.1 t3.2.2.1 t3.2.2.2 q0_done (59 : Int32) t5 ht5) rfl rfl hH rfl rfl rfl hl.1 rfl (Nat.le_of_ble_eq_true rfl) rfl dX9_readsAll_23 (fun H locs hz23 hH => ?_)
          have hH : Hp E (adr (wM E ad q0_why q0_detail q0_reasonNow q0_detailNow q0_w q0_undos q0_savedRow q0_mind q0_changes q0_firstChange q0_isSaved q0_at q0_line q0_lineLength q0_text q0_length q0_next q0_numbers q0_sort q0_done)) (wM E ad q0_why q0_detail q0_reasonNow q0_detailNow q0_w q0_undos q0_savedRow q0_mind q0_changes q0_firstChange q0_isSaved q0_at q0_line q0_lineLength q0_text q0_length t5.2 t3.2.2.1 t3.2.2.2 q0_done) s.heap H locs := hH
          refine lv_istore_n (lv' := [(1, .int t5.1), (0, .ref (ad 0))]) hx hb dX9_readsAll_26 rfl hl (by decide) rfl (fun ls hl => ?_)
          refine lv_goto (tgt := 7) hx hb dX9_readsAll_27 (by decide) ?_
          exact ih t5.2 t3.2.2.1 t3.2.2.2 t5.1 ls (lv_sub hl [1, 0] rfl) _ _ hH hf
        · have hf := ite_t hf c4
          refine lv_iconst (v := 0) hx hb dX9_readsAll_18 (by decide) ?_
          have hf := Option.some.inj hf
          subst hf
          exact e_Wz hC hH hr hlocks rfl rfl rfl dX9_readsAll_19
  intro H locs hH
  rw [fM_readsAll] at hf
  refine lv_aload_n hx hb dX9_readsAll_0 rfl (lv_at hl 0 rfl) ?_
  refine lv_iconst (v := 0) hx hb dX9_readsAll_1 (by decide) ?_
  refine pX9_201 hC hH 0 rfl (v := .int (0 : Int32)) rfl rfl (Nat.le_of_ble_eq_true rfl) (W1 := wM E ad q0_why q0_detail q0_reasonNow q0_detailNow q0_w q0_undos q0_savedRow q0_mind q0_changes q0_firstChange q0_isSaved q0_at q0_line q0_lineLength q0_text q0_length (0 : Int32) q0_numbers q0_sort q0_done) rfl dX9_readsAll_2 (fun H locs hH => ?_)
  refine lv_iconst (v := 1) hx hb dX9_readsAll_5 (by decide) ?_
  refine lv_istore_n (lv' := [(1, .int (1 : Int32)), (0, .ref (ad 0))]) hx hb dX9_readsAll_6 rfl hl (by decide) rfl (fun ls hl => ?_)
  exact L7 FU (0 : Int32) q0_numbers q0_sort (1 : Int32) ls (lv_sub hl [1, 0] rfl) _ _ hH hf
abbrev rmM_notNow : Room := { frames := 3, cells := 0, slots := 0, locals := 64 }
set_option maxHeartbeats 4000000 in
set_option maxRecDepth 100000 in
theorem cM_notNow (l : Launch) (E : eE) (ad : Nat → Nat) (q0_why : Int32) (q0_detail : Int32) (q0_reasonNow : Int32) (q0_detailNow : Int32) (q0_w : (Nat → Int32)) (q0_undos : (Nat → Int32)) (q0_savedRow : (Nat → Int32)) (q0_mind : (Nat → Int32)) (q0_changes : Int32) (q0_firstChange : Int32) (q0_isSaved : Int32) (q0_at : (Nat → Int32)) (q0_line : (Nat → Int32)) (q0_lineLength : Int32) (q0_text : (Nat → Int32)) (q0_length : Int32) (q0_next : Int32) (q0_numbers : (Nat → Int32)) (q0_sort : Int32) (q0_done : Int32) (t : Int32 × Int32 × Int32) (hf : fM_notNow q0_reasonNow q0_detailNow q0_w q0_numbers q0_sort = some t) : cW l E yX9_notNow cX9_notNow 2 (some .int) rmM_notNow [.ref (ad 0)] (wM E ad q0_why q0_detail q0_reasonNow q0_detailNow q0_w q0_undos q0_savedRow q0_mind q0_changes q0_firstChange q0_isSaved q0_at q0_line q0_lineLength q0_text q0_length q0_next q0_numbers q0_sort q0_done) (some (.int t.1)) (wM E ad q0_why q0_detail t.2.1 t.2.2 q0_w q0_undos q0_savedRow q0_mind q0_changes q0_firstChange q0_isSaved q0_at q0_line q0_lineLength q0_text q0_length q0_next q0_numbers q0_sort q0_done) := by
  refine Met.ofW (cc := cX9_notNow) (maxL := 2) (ret := (some .int)) (by decide) rfl ?_
  intro p e s m args below meth c s₁ B hml hv
  obtain ⟨hargs, hP, hK, hD0⟩ := hv
  have hx := B.exec
  have hb := B.bytes
  have hr := B.returns
  have hts := atoms_spec (ws := ws_ yX9_notNow cX9_notNow 2 (some .int)) B.pre
  have hta : ∀ w ∈ lw_all, w.before args s = true := fun w h => hts w (List.mem_cons_of_mem _ h)
  have hown : s.vm.findClass RX9 = some m.cls := findClass_of_methodNamed B.named
  have hlocks := B.notSynchronized
  have hC : Cx p s m args c cX9_notNow 2 RX9 E := ⟨hx, hb, hml, hown, hta, hK⟩
  have hH : Hp E (adr (wM E ad q0_why q0_detail q0_reasonNow q0_detailNow q0_w q0_undos q0_savedRow q0_mind q0_changes q0_firstChange q0_isSaved q0_at q0_line q0_lineLength q0_text q0_length q0_next q0_numbers q0_sort q0_done)) (wM E ad q0_why q0_detail q0_reasonNow q0_detailNow q0_w q0_undos q0_savedRow q0_mind q0_changes q0_firstChange q0_isSaved q0_at q0_line q0_lineLength q0_text q0_length q0_next q0_numbers q0_sort q0_done) s.heap s.heap [] := Hp.start hP hD0
  obtain ⟨ls, he, hl⟩ := entry_ (m := m) (n := 2) hargs (Nat.le_of_ble_eq_true rfl)
  rw [he]
  have hl : lv_has ls 2 [(0, .ref (ad 0))] := hl
  show W p l e rmM_notNow s m args below meth c s.heap [] 0 0 (MQ below (qW E (some .int) (some (.int t.1)) (wM E ad q0_why q0_detail q0_reasonNow q0_detailNow q0_w q0_undos q0_savedRow q0_mind q0_changes q0_firstChange q0_isSaved q0_at q0_line q0_lineLength q0_text q0_length q0_next q0_numbers q0_sort q0_done) (wM E ad q0_why q0_detail t.2.1 t.2.2 q0_w q0_undos q0_savedRow q0_mind q0_changes q0_firstChange q0_isSaved q0_at q0_line q0_lineLength q0_text q0_length q0_next q0_numbers q0_sort q0_done)) args s 0 0 (adr (wM E ad q0_why q0_detail q0_reasonNow q0_detailNow q0_w q0_undos q0_savedRow q0_mind q0_changes q0_firstChange q0_isSaved q0_at q0_line q0_lineLength q0_text q0_length q0_next q0_numbers q0_sort q0_done))) (F0 m 0 ls [])
  suffices hmain : ∀ (H : Heap) (locs : List Loc), Hp E (adr (wM E ad q0_why q0_detail q0_reasonNow q0_detailNow q0_w q0_undos q0_savedRow q0_mind q0_changes q0_firstChange q0_isSaved q0_at q0_line q0_lineLength q0_text q0_length q0_next q0_numbers q0_sort q0_done)) (wM E ad q0_why q0_detail q0_reasonNow q0_detailNow q0_w q0_undos q0_savedRow q0_mind q0_changes q0_firstChange q0_isSaved q0_at q0_line q0_lineLength q0_text q0_length q0_next q0_numbers q0_sort q0_done) s.heap H locs → W p l e rmM_notNow s m args below meth c H locs 0 0 (MQ below (qW E (some .int) (some (.int t.1)) (wM E ad q0_why q0_detail q0_reasonNow q0_detailNow q0_w q0_undos q0_savedRow q0_mind q0_changes q0_firstChange q0_isSaved q0_at q0_line q0_lineLength q0_text q0_length q0_next q0_numbers q0_sort q0_done) (wM E ad q0_why q0_detail t.2.1 t.2.2 q0_w q0_undos q0_savedRow q0_mind q0_changes q0_firstChange q0_isSaved q0_at q0_line q0_lineLength q0_text q0_length q0_next q0_numbers q0_sort q0_done)) args s 0 0 (adr (wM E ad q0_why q0_detail q0_reasonNow q0_detailNow q0_w q0_undos q0_savedRow q0_mind q0_changes q0_firstChange q0_isSaved q0_at q0_line q0_lineLength q0_text q0_length q0_next q0_numbers q0_sort q0_done))) (F0 m 0 ls []) from hmain _ _ hH
  clear hH
  intro H locs hH
  rw [fM_notNow] at hf
  refine lv_aload_n hx hb dX9_notNow_0 rfl (lv_at hl 0 rfl) ?_
  refine gX9_32 hC hH.1 0 rfl (v := .ref (ad 8)) rfl dX9_notNow_1 ?_
  refine lv_iconst (v := 0) hx hb dX9_notNow_4 (by decide) ?_
  obtain ⟨v1, hv1, hf⟩ := ob hf
  obtain ⟨hv1a, hv1b⟩ := ldA_ok hv1
  refine a_ild hC hH.1 8 rfl hv1a hv1b dX9_notNow_5 ?_
  refine lv_istore_n (lv' := [(1, .int v1), (0, .ref (ad 0))]) hx hb dX9_notNow_6 rfl hl (by decide) rfl (fun ls hl => ?_)
  refine lv_aload_n hx hb dX9_notNow_7 rfl (lv_at hl 1 rfl) ?_
  refine gX9_213 hC hH.1 0 rfl (v := .int q0_sort) rfl dX9_notNow_8 ?_
  by_cases c11_105 : q0_sort = (105 : Int32)
  · have hf := ite_t hf c11_105
    refine lv_lookup (tgt := 64) (off := 53) hx hb dX9_notNow_11 (by decide) (by rw [c11_105]; decide) (by decide) ?_
    refine lv_aload_n hx hb dX9_notNow_64 rfl (lv_at hl 1 rfl) ?_
    refine lv_iload_n hx hb dX9_notNow_65 rfl (lv_at hl 0 rfl) ?_
    refine lv_aload_n hx hb dX9_notNow_66 rfl (lv_at hl 1 rfl) ?_
    refine gX9_32 hC hH.1 0 rfl (v := .ref (ad 8)) rfl dX9_notNow_67 ?_
    refine lv_iconst (v := 1) hx hb dX9_notNow_70 (by decide) ?_
    obtain ⟨v2, hv2, hf⟩ := ob hf
    obtain ⟨hv2a, hv2b⟩ := ldA_ok hv2
    refine a_ild hC hH.1 8 rfl hv2a hv2b dX9_notNow_71 ?_
    obtain ⟨t3, ht3, hf⟩ := ob hf
    refine k_WVsi hC LX9_72 ⟨Nat.le_of_ble_eq_true rfl, Nat.le_of_ble_eq_true rfl⟩ ⟨Nat.zero_le _, Nat.zero_le _⟩ (cM_notInsert l E ad q0_why q0_detail q0_reasonNow q0_detailNow q0_w q0_undos q0_savedRow q0_mind q0_changes q0_firstChange q0_isSaved q0_at q0_line q0_lineLength q0_text q0_length q0_next q0_numbers q0_sort q0_done v1 v2 t3 ht3) rfl rfl hH rfl rfl rfl hl.1 rfl (Nat.le_of_ble_eq_true rfl) rfl dX9_notNow_72 (fun H locs hz72 hH => ?_)
    have hH : Hp E (adr (wM E ad q0_why q0_detail q0_reasonNow q0_detailNow q0_w q0_undos q0_savedRow q0_mind q0_changes q0_firstChange q0_isSaved q0_at q0_line q0_lineLength q0_text q0_length q0_next q0_numbers q0_sort q0_done)) (wM E ad q0_why q0_detail t3.2.1 t3.2.2 q0_w q0_undos q0_savedRow q0_mind q0_changes q0_firstChange q0_isSaved q0_at q0_line q0_lineLength q0_text q0_length q0_next q0_numbers q0_sort q0_done) s.heap H locs := hH
    have hf := Option.some.inj hf
    subst hf
    exact e_Wi hC hH hr hlocks rfl rfl dX9_notNow_75
  · have hf := ite_f hf c11_105
    by_cases c11_111 : q0_sort = (111 : Int32)
    · have hf := ite_t hf c11_111
      refine lv_lookup (tgt := 76) (off := 65) hx hb dX9_notNow_11 (by decide) (by rw [c11_111]; decide) (by decide) ?_
      refine lv_aload_n hx hb dX9_notNow_76 rfl (lv_at hl 1 rfl) ?_
      refine lv_iload_n hx hb dX9_notNow_77 rfl (lv_at hl 0 rfl) ?_
      obtain ⟨t4, ht4, hf⟩ := ob hf
      refine k_PVi hC LX9_89 ⟨Nat.le_of_ble_eq_true rfl, Nat.le_of_ble_eq_true rfl⟩ ⟨Nat.zero_le _, Nat.zero_le _⟩ (cM_isLetter l E ad q0_why q0_detail q0_reasonNow q0_detailNow q0_w q0_undos q0_savedRow q0_mind q0_changes q0_firstChange q0_isSaved q0_at q0_line q0_lineLength q0_text q0_length q0_next q0_numbers q0_sort q0_done v1 t4 ht4) rfl rfl hH.1 rfl rfl hl.1 rfl (Nat.le_of_ble_eq_true rfl) rfl dX9_notNow_78 (fun hz78 => ?_)
      refine lv_if_eq (tgt := 88) hx hb dX9_notNow_81 (by decide) (fun c5 => ?_) (fun c5 => ?_)
      · have hf := ite_t hf c5
        refine lv_bipush (v := (-11)) hx hb dX9_notNow_88 (by decide) ?_
        have hf := Option.some.inj hf
        subst hf
        exact e_Wi hC hH hr hlocks rfl rfl dX9_notNow_90
      · have hf := ite_f hf c5
        refine lv_iconst (v := 0) hx hb dX9_notNow_84 (by decide) ?_
        refine lv_goto (tgt := 90) hx hb dX9_notNow_85 (by decide) ?_
        have hf := Option.some.inj hf
        subst hf
        exact e_Wi hC hH hr hlocks rfl rfl dX9_notNow_90
    · have hf := ite_f hf c11_111
      by_cases c11_112 : q0_sort = (112 : Int32)
      · have hf := ite_t hf c11_112
        refine lv_lookup (tgt := 52) (off := 41) hx hb dX9_notNow_11 (by decide) (by rw [c11_112]; decide) (by decide) ?_
        refine lv_aload_n hx hb dX9_notNow_52 rfl (lv_at hl 1 rfl) ?_
        refine lv_aload_n hx hb dX9_notNow_53 rfl (lv_at hl 1 rfl) ?_
        refine gX9_7 hC hH.1 0 rfl (v := .ref (ad 1)) rfl dX9_notNow_54 ?_
        refine lv_iconst (v := 0) hx hb dX9_notNow_57 (by decide) ?_
        obtain ⟨v6, hv6, hf⟩ := ob hf
        obtain ⟨hv6a, hv6b⟩ := ldA_ok hv6
        refine a_ild hC hH.1 1 rfl hv6a hv6b dX9_notNow_58 ?_
        refine lv_iload_n hx hb dX9_notNow_59 rfl (lv_at hl 0 rfl) ?_
        obtain ⟨t7, ht7, hf⟩ := ob hf
        refine k_WVsi hC LX9_72 ⟨Nat.le_of_ble_eq_true rfl, Nat.le_of_ble_eq_true rfl⟩ ⟨Nat.zero_le _, Nat.zero_le _⟩ (cM_notInsert l E ad q0_why q0_detail q0_reasonNow q0_detailNow q0_w q0_undos q0_savedRow q0_mind q0_changes q0_firstChange q0_isSaved q0_at q0_line q0_lineLength q0_text q0_length q0_next q0_numbers q0_sort q0_done v6 v1 t7 ht7) rfl rfl hH rfl rfl rfl hl.1 rfl (Nat.le_of_ble_eq_true rfl) rfl dX9_notNow_60 (fun H locs hz60 hH => ?_)
        have hH : Hp E (adr (wM E ad q0_why q0_detail q0_reasonNow q0_detailNow q0_w q0_undos q0_savedRow q0_mind q0_changes q0_firstChange q0_isSaved q0_at q0_line q0_lineLength q0_text q0_length q0_next q0_numbers q0_sort q0_done)) (wM E ad q0_why q0_detail t7.2.1 t7.2.2 q0_w q0_undos q0_savedRow q0_mind q0_changes q0_firstChange q0_isSaved q0_at q0_line q0_lineLength q0_text q0_length q0_next q0_numbers q0_sort q0_done) s.heap H locs := hH
        have hf := Option.some.inj hf
        subst hf
        exact e_Wi hC hH hr hlocks rfl rfl dX9_notNow_63
      · have hf := ite_f hf c11_112
        by_cases c11_115 : q0_sort = (115 : Int32)
        · have hf := ite_t hf c11_115
          refine lv_lookup (tgt := 91) (off := 80) hx hb dX9_notNow_11 (by decide) (by rw [c11_115]; decide) (by decide) ?_
          refine lv_aload_n hx hb dX9_notNow_91 rfl (lv_at hl 1 rfl) ?_
          refine lv_iload_n hx hb dX9_notNow_92 rfl (lv_at hl 0 rfl) ?_
          obtain ⟨t8, ht8, hf⟩ := ob hf
          refine k_WVsi hC LX9_95 ⟨Nat.le_of_ble_eq_true rfl, Nat.le_of_ble_eq_true rfl⟩ ⟨Nat.zero_le _, Nat.zero_le _⟩ (cM_notSwap l E ad q0_why q0_detail q0_reasonNow q0_detailNow q0_w q0_undos q0_savedRow q0_mind q0_changes q0_firstChange q0_isSaved q0_at q0_line q0_lineLength q0_text q0_length q0_next q0_numbers q0_sort q0_done v1 t8 ht8) rfl rfl hH rfl rfl rfl hl.1 rfl (Nat.le_of_ble_eq_true rfl) rfl dX9_notNow_93 (fun H locs hz93 hH => ?_)
          have hH : Hp E (adr (wM E ad q0_why q0_detail q0_reasonNow q0_detailNow q0_w q0_undos q0_savedRow q0_mind q0_changes q0_firstChange q0_isSaved q0_at q0_line q0_lineLength q0_text q0_length q0_next q0_numbers q0_sort q0_done)) (wM E ad q0_why q0_detail t8.2.1 t8.2.2 q0_w q0_undos q0_savedRow q0_mind q0_changes q0_firstChange q0_isSaved q0_at q0_line q0_lineLength q0_text q0_length q0_next q0_numbers q0_sort q0_done) s.heap H locs := hH
          have hf := Option.some.inj hf
          subst hf
          exact e_Wi hC hH hr hlocks rfl rfl dX9_notNow_96
        · have hf := ite_f hf c11_115
          refine lv_lookup (tgt := 97) (off := 86) hx hb dX9_notNow_11 (by decide) (by show Op.lookupswitch.offset [(105, 53), (111, 65), (112, 41), (115, 80)] _ _ = _; rw [lv_osw c11_105 (by decide), lv_osw c11_111 (by decide), lv_osw c11_112 (by decide), lv_osw c11_115 (by decide)]; rfl) (by decide) ?_
          refine lv_aload_n hx hb dX9_notNow_97 rfl (lv_at hl 1 rfl) ?_
          refine lv_iload_n hx hb dX9_notNow_98 rfl (lv_at hl 0 rfl) ?_
          refine lv_aload_n hx hb dX9_notNow_99 rfl (lv_at hl 1 rfl) ?_
          refine gX9_213 hC hH.1 0 rfl (v := .int q0_sort) rfl dX9_notNow_100 ?_
          refine lv_bipush (v := 109) hx hb dX9_notNow_103 (by decide) ?_
          refine lv_icmp_ne (tgt := 112) hx hb dX9_notNow_105 (by decide) (fun c9 => ?_) (fun c9 => ?_)
          · have hf := ite_f hf c9
            refine lv_iconst (v := 0) hx hb dX9_notNow_112 (by decide) ?_
            obtain ⟨t10, ht10, hf⟩ := ob hf
            refine k_WVsi hC LX9_108 ⟨Nat.le_of_ble_eq_true rfl, Nat.le_of_ble_eq_true rfl⟩ ⟨Nat.zero_le _, Nat.zero_le _⟩ (cM_notMark l E ad q0_why q0_detail q0_reasonNow q0_detailNow q0_w q0_undos q0_savedRow q0_mind q0_changes q0_firstChange q0_isSaved q0_at q0_line q0_lineLength q0_text q0_length q0_next q0_numbers q0_sort q0_done v1 (0 : Int32) t10 ht10) rfl rfl hH rfl rfl rfl hl.1 rfl (Nat.le_of_ble_eq_true rfl) rfl dX9_notNow_113 (fun H locs hz113 hH => ?_)
            have hH : Hp E (adr (wM E ad q0_why q0_detail q0_reasonNow q0_detailNow q0_w q0_undos q0_savedRow q0_mind q0_changes q0_firstChange q0_isSaved q0_at q0_line q0_lineLength q0_text q0_length q0_next q0_numbers q0_sort q0_done)) (wM E ad q0_why q0_detail t10.2.1 t10.2.2 q0_w q0_undos q0_savedRow q0_mind q0_changes q0_firstChange q0_isSaved q0_at q0_line q0_lineLength q0_text q0_length q0_next q0_numbers q0_sort q0_done) s.heap H locs := hH
            have hf := Option.some.inj hf
            subst hf
            exact e_Wi hC hH hr hlocks rfl rfl dX9_notNow_116
          · have hf := ite_t hf c9
            refine lv_iconst (v := 1) hx hb dX9_notNow_108 (by decide) ?_
            refine lv_goto (tgt := 113) hx hb dX9_notNow_109 (by decide) ?_
            obtain ⟨t11, ht11, hf⟩ := ob hf
            refine k_WVsi hC LX9_108 ⟨Nat.le_of_ble_eq_true rfl, Nat.le_of_ble_eq_true rfl⟩ ⟨Nat.zero_le _, Nat.zero_le _⟩ (cM_notMark l E ad q0_why q0_detail q0_reasonNow q0_detailNow q0_w q0_undos q0_savedRow q0_mind q0_changes q0_firstChange q0_isSaved q0_at q0_line q0_lineLength q0_text q0_length q0_next q0_numbers q0_sort q0_done v1 (1 : Int32) t11 ht11) rfl rfl hH rfl rfl rfl hl.1 rfl (Nat.le_of_ble_eq_true rfl) rfl dX9_notNow_113 (fun H locs hz113 hH => ?_)
            have hH : Hp E (adr (wM E ad q0_why q0_detail q0_reasonNow q0_detailNow q0_w q0_undos q0_savedRow q0_mind q0_changes q0_firstChange q0_isSaved q0_at q0_line q0_lineLength q0_text q0_length q0_next q0_numbers q0_sort q0_done)) (wM E ad q0_why q0_detail t11.2.1 t11.2.2 q0_w q0_undos q0_savedRow q0_mind q0_changes q0_firstChange q0_isSaved q0_at q0_line q0_lineLength q0_text q0_length q0_next q0_numbers q0_sort q0_done) s.heap H locs := hH
            have hf := Option.some.inj hf
            subst hf
            exact e_Wi hC hH hr hlocks rfl rfl dX9_notNow_116
abbrev rmM_doesNow : Room := { frames := 2, cells := 0, slots := 0, locals := 44 }
set_option maxHeartbeats 4000000 in
set_option maxRecDepth 100000 in
theorem cM_doesNow (l : Launch) (E : eE) (ad : Nat → Nat) (q0_why : Int32) (q0_detail : Int32) (q0_reasonNow : Int32) (q0_detailNow : Int32) (q0_w : (Nat → Int32)) (q0_undos : (Nat → Int32)) (q0_savedRow : (Nat → Int32)) (q0_mind : (Nat → Int32)) (q0_changes : Int32) (q0_firstChange : Int32) (q0_isSaved : Int32) (q0_at : (Nat → Int32)) (q0_line : (Nat → Int32)) (q0_lineLength : Int32) (q0_text : (Nat → Int32)) (q0_length : Int32) (q0_next : Int32) (q0_numbers : (Nat → Int32)) (q0_sort : Int32) (q0_done : Int32) (t : (Nat → Int32)) (hf : fM_doesNow q0_w q0_numbers q0_sort = some t) : cW l E yX9_doesNow cX9_doesNow 2 none rmM_doesNow [.ref (ad 0)] (wM E ad q0_why q0_detail q0_reasonNow q0_detailNow q0_w q0_undos q0_savedRow q0_mind q0_changes q0_firstChange q0_isSaved q0_at q0_line q0_lineLength q0_text q0_length q0_next q0_numbers q0_sort q0_done) none (wM E ad q0_why q0_detail q0_reasonNow q0_detailNow t q0_undos q0_savedRow q0_mind q0_changes q0_firstChange q0_isSaved q0_at q0_line q0_lineLength q0_text q0_length q0_next q0_numbers q0_sort q0_done) := by
  refine Met.ofW (cc := cX9_doesNow) (maxL := 2) (ret := none) (by decide) rfl ?_
  intro p e s m args below meth c s₁ B hml hv
  obtain ⟨hargs, hP, hK, hD0⟩ := hv
  have hx := B.exec
  have hb := B.bytes
  have hr := B.returns
  have hts := atoms_spec (ws := ws_ yX9_doesNow cX9_doesNow 2 none) B.pre
  have hta : ∀ w ∈ lw_all, w.before args s = true := fun w h => hts w (List.mem_cons_of_mem _ h)
  have hown : s.vm.findClass RX9 = some m.cls := findClass_of_methodNamed B.named
  have hlocks := B.notSynchronized
  have hC : Cx p s m args c cX9_doesNow 2 RX9 E := ⟨hx, hb, hml, hown, hta, hK⟩
  have hH : Hp E (adr (wM E ad q0_why q0_detail q0_reasonNow q0_detailNow q0_w q0_undos q0_savedRow q0_mind q0_changes q0_firstChange q0_isSaved q0_at q0_line q0_lineLength q0_text q0_length q0_next q0_numbers q0_sort q0_done)) (wM E ad q0_why q0_detail q0_reasonNow q0_detailNow q0_w q0_undos q0_savedRow q0_mind q0_changes q0_firstChange q0_isSaved q0_at q0_line q0_lineLength q0_text q0_length q0_next q0_numbers q0_sort q0_done) s.heap s.heap [] := Hp.start hP hD0
  obtain ⟨ls, he, hl⟩ := entry_ (m := m) (n := 2) hargs (Nat.le_of_ble_eq_true rfl)
  rw [he]
  have hl : lv_has ls 2 [(0, .ref (ad 0))] := hl
  show W p l e rmM_doesNow s m args below meth c s.heap [] 0 0 (MQ below (qW E none none (wM E ad q0_why q0_detail q0_reasonNow q0_detailNow q0_w q0_undos q0_savedRow q0_mind q0_changes q0_firstChange q0_isSaved q0_at q0_line q0_lineLength q0_text q0_length q0_next q0_numbers q0_sort q0_done) (wM E ad q0_why q0_detail q0_reasonNow q0_detailNow t q0_undos q0_savedRow q0_mind q0_changes q0_firstChange q0_isSaved q0_at q0_line q0_lineLength q0_text q0_length q0_next q0_numbers q0_sort q0_done)) args s 0 0 (adr (wM E ad q0_why q0_detail q0_reasonNow q0_detailNow q0_w q0_undos q0_savedRow q0_mind q0_changes q0_firstChange q0_isSaved q0_at q0_line q0_lineLength q0_text q0_length q0_next q0_numbers q0_sort q0_done))) (F0 m 0 ls [])
  suffices hmain : ∀ (H : Heap) (locs : List Loc), Hp E (adr (wM E ad q0_why q0_detail q0_reasonNow q0_detailNow q0_w q0_undos q0_savedRow q0_mind q0_changes q0_firstChange q0_isSaved q0_at q0_line q0_lineLength q0_text q0_length q0_next q0_numbers q0_sort q0_done)) (wM E ad q0_why q0_detail q0_reasonNow q0_detailNow q0_w q0_undos q0_savedRow q0_mind q0_changes q0_firstChange q0_isSaved q0_at q0_line q0_lineLength q0_text q0_length q0_next q0_numbers q0_sort q0_done) s.heap H locs → W p l e rmM_doesNow s m args below meth c H locs 0 0 (MQ below (qW E none none (wM E ad q0_why q0_detail q0_reasonNow q0_detailNow q0_w q0_undos q0_savedRow q0_mind q0_changes q0_firstChange q0_isSaved q0_at q0_line q0_lineLength q0_text q0_length q0_next q0_numbers q0_sort q0_done) (wM E ad q0_why q0_detail q0_reasonNow q0_detailNow t q0_undos q0_savedRow q0_mind q0_changes q0_firstChange q0_isSaved q0_at q0_line q0_lineLength q0_text q0_length q0_next q0_numbers q0_sort q0_done)) args s 0 0 (adr (wM E ad q0_why q0_detail q0_reasonNow q0_detailNow q0_w q0_undos q0_savedRow q0_mind q0_changes q0_firstChange q0_isSaved q0_at q0_line q0_lineLength q0_text q0_length q0_next q0_numbers q0_sort q0_done))) (F0 m 0 ls []) from hmain _ _ hH
  clear hH
  intro H locs hH
  rw [fM_doesNow] at hf
  refine lv_aload_n hx hb dX9_doesNow_0 rfl (lv_at hl 0 rfl) ?_
  refine gX9_32 hC hH.1 0 rfl (v := .ref (ad 8)) rfl dX9_doesNow_1 ?_
  refine lv_iconst (v := 0) hx hb dX9_doesNow_4 (by decide) ?_
  obtain ⟨v1, hv1, hf⟩ := ob hf
  obtain ⟨hv1a, hv1b⟩ := ldA_ok hv1
  refine a_ild hC hH.1 8 rfl hv1a hv1b dX9_doesNow_5 ?_
  refine lv_istore_n (lv' := [(1, .int v1), (0, .ref (ad 0))]) hx hb dX9_doesNow_6 rfl hl (by decide) rfl (fun ls hl => ?_)
  refine lv_aload_n hx hb dX9_doesNow_7 rfl (lv_at hl 1 rfl) ?_
  refine gX9_213 hC hH.1 0 rfl (v := .int q0_sort) rfl dX9_doesNow_8 ?_
  by_cases c11_105 : q0_sort = (105 : Int32)
  · have hf := ite_t hf c11_105
    refine lv_lookup (tgt := 66) (off := 55) hx hb dX9_doesNow_11 (by decide) (by rw [c11_105]; decide) (by decide) ?_
    refine lv_aload_n hx hb dX9_doesNow_66 rfl (lv_at hl 1 rfl) ?_
    refine lv_iload_n hx hb dX9_doesNow_67 rfl (lv_at hl 0 rfl) ?_
    refine lv_aload_n hx hb dX9_doesNow_68 rfl (lv_at hl 1 rfl) ?_
    refine gX9_32 hC hH.1 0 rfl (v := .ref (ad 8)) rfl dX9_doesNow_69 ?_
    refine lv_iconst (v := 1) hx hb dX9_doesNow_72 (by decide) ?_
    obtain ⟨v2, hv2, hf⟩ := ob hf
    obtain ⟨hv2a, hv2b⟩ := ldA_ok hv2
    refine a_ild hC hH.1 8 rfl hv2a hv2b dX9_doesNow_73 ?_
    obtain ⟨t3, ht3, hf⟩ := ob hf
    refine k_WVsv hC LX9_82 ⟨Nat.le_of_ble_eq_true rfl, Nat.le_of_ble_eq_true rfl⟩ ⟨Nat.zero_le _, Nat.zero_le _⟩ (cM_comes l E ad q0_why q0_detail q0_reasonNow q0_detailNow q0_w q0_undos q0_savedRow q0_mind q0_changes q0_firstChange q0_isSaved q0_at q0_line q0_lineLength q0_text q0_length q0_next q0_numbers q0_sort q0_done v1 v2 t3 ht3) rfl rfl hH rfl rfl rfl hl.1 rfl (Nat.le_of_ble_eq_true rfl) rfl dX9_doesNow_74 (fun H locs hz74 hH => ?_)
    have hH : Hp E (adr (wM E ad q0_why q0_detail q0_reasonNow q0_detailNow q0_w q0_undos q0_savedRow q0_mind q0_changes q0_firstChange q0_isSaved q0_at q0_line q0_lineLength q0_text q0_length q0_next q0_numbers q0_sort q0_done)) (wM E ad q0_why q0_detail q0_reasonNow q0_detailNow t3 q0_undos q0_savedRow q0_mind q0_changes q0_firstChange q0_isSaved q0_at q0_line q0_lineLength q0_text q0_length q0_next q0_numbers q0_sort q0_done) s.heap H locs := hH
    refine lv_goto (tgt := 118) hx hb dX9_doesNow_77 (by decide) ?_
    have hf := Option.some.inj hf
    subst hf
    exact e_Wv hC hH hr hlocks rfl dX9_doesNow_118
  · have hf := ite_f hf c11_105
    by_cases c11_111 : q0_sort = (111 : Int32)
    · have hf := ite_t hf c11_111
      refine lv_lookup (tgt := 80) (off := 69) hx hb dX9_doesNow_11 (by decide) (by rw [c11_111]; decide) (by decide) ?_
      refine lv_aload_n hx hb dX9_doesNow_80 rfl (lv_at hl 1 rfl) ?_
      refine lv_iload_n hx hb dX9_doesNow_81 rfl (lv_at hl 0 rfl) ?_
      obtain ⟨t4, ht4, hf⟩ := ob hf
      refine k_WVsi hC LX9_92 ⟨Nat.le_of_ble_eq_true rfl, Nat.le_of_ble_eq_true rfl⟩ ⟨Nat.zero_le _, Nat.zero_le _⟩ (cM_goes l E ad q0_why q0_detail q0_reasonNow q0_detailNow q0_w q0_undos q0_savedRow q0_mind q0_changes q0_firstChange q0_isSaved q0_at q0_line q0_lineLength q0_text q0_length q0_next q0_numbers q0_sort q0_done v1 t4 ht4) rfl rfl hH rfl rfl rfl hl.1 rfl (Nat.le_of_ble_eq_true rfl) rfl dX9_doesNow_82 (fun H locs hz82 hH => ?_)
      have hH : Hp E (adr (wM E ad q0_why q0_detail q0_reasonNow q0_detailNow q0_w q0_undos q0_savedRow q0_mind q0_changes q0_firstChange q0_isSaved q0_at q0_line q0_lineLength q0_text q0_length q0_next q0_numbers q0_sort q0_done)) (wM E ad q0_why q0_detail q0_reasonNow q0_detailNow t4.2 q0_undos q0_savedRow q0_mind q0_changes q0_firstChange q0_isSaved q0_at q0_line q0_lineLength q0_text q0_length q0_next q0_numbers q0_sort q0_done) s.heap H locs := hH
      refine lv_pop hx hb dX9_doesNow_85 rfl ?_
      refine lv_goto (tgt := 118) hx hb dX9_doesNow_86 (by decide) ?_
      have hf := Option.some.inj hf
      subst hf
      exact e_Wv hC hH hr hlocks rfl dX9_doesNow_118
    · have hf := ite_f hf c11_111
      by_cases c11_112 : q0_sort = (112 : Int32)
      · have hf := ite_t hf c11_112
        refine lv_lookup (tgt := 52) (off := 41) hx hb dX9_doesNow_11 (by decide) (by rw [c11_112]; decide) (by decide) ?_
        refine lv_aload_n hx hb dX9_doesNow_52 rfl (lv_at hl 1 rfl) ?_
        refine lv_aload_n hx hb dX9_doesNow_53 rfl (lv_at hl 1 rfl) ?_
        refine gX9_7 hC hH.1 0 rfl (v := .ref (ad 1)) rfl dX9_doesNow_54 ?_
        refine lv_iconst (v := 0) hx hb dX9_doesNow_57 (by decide) ?_
        obtain ⟨v5, hv5, hf⟩ := ob hf
        obtain ⟨hv5a, hv5b⟩ := ldA_ok hv5
        refine a_ild hC hH.1 1 rfl hv5a hv5b dX9_doesNow_58 ?_
        refine lv_iload_n hx hb dX9_doesNow_59 rfl (lv_at hl 0 rfl) ?_
        obtain ⟨t6, ht6, hf⟩ := ob hf
        refine k_WVsv hC LX9_82 ⟨Nat.le_of_ble_eq_true rfl, Nat.le_of_ble_eq_true rfl⟩ ⟨Nat.zero_le _, Nat.zero_le _⟩ (cM_comes l E ad q0_why q0_detail q0_reasonNow q0_detailNow q0_w q0_undos q0_savedRow q0_mind q0_changes q0_firstChange q0_isSaved q0_at q0_line q0_lineLength q0_text q0_length q0_next q0_numbers q0_sort q0_done v5 v1 t6 ht6) rfl rfl hH rfl rfl rfl hl.1 rfl (Nat.le_of_ble_eq_true rfl) rfl dX9_doesNow_60 (fun H locs hz60 hH => ?_)
        have hH : Hp E (adr (wM E ad q0_why q0_detail q0_reasonNow q0_detailNow q0_w q0_undos q0_savedRow q0_mind q0_changes q0_firstChange q0_isSaved q0_at q0_line q0_lineLength q0_text q0_length q0_next q0_numbers q0_sort q0_done)) (wM E ad q0_why q0_detail q0_reasonNow q0_detailNow t6 q0_undos q0_savedRow q0_mind q0_changes q0_firstChange q0_isSaved q0_at q0_line q0_lineLength q0_text q0_length q0_next q0_numbers q0_sort q0_done) s.heap H locs := hH
        refine lv_goto (tgt := 118) hx hb dX9_doesNow_63 (by decide) ?_
        have hf := Option.some.inj hf
        subst hf
        exact e_Wv hC hH hr hlocks rfl dX9_doesNow_118
      · have hf := ite_f hf c11_112
        by_cases c11_115 : q0_sort = (115 : Int32)
        · have hf := ite_t hf c11_115
          refine lv_lookup (tgt := 89) (off := 78) hx hb dX9_doesNow_11 (by decide) (by rw [c11_115]; decide) (by decide) ?_
          refine lv_aload_n hx hb dX9_doesNow_89 rfl (lv_at hl 1 rfl) ?_
          refine lv_iload_n hx hb dX9_doesNow_90 rfl (lv_at hl 0 rfl) ?_
          obtain ⟨t7, ht7, hf⟩ := ob hf
          refine k_WVsi hC LX9_98 ⟨Nat.le_of_ble_eq_true rfl, Nat.le_of_ble_eq_true rfl⟩ ⟨Nat.zero_le _, Nat.zero_le _⟩ (cM_swaps l E ad q0_why q0_detail q0_reasonNow q0_detailNow q0_w q0_undos q0_savedRow q0_mind q0_changes q0_firstChange q0_isSaved q0_at q0_line q0_lineLength q0_text q0_length q0_next q0_numbers q0_sort q0_done v1 t7 ht7) rfl rfl hH rfl rfl rfl hl.1 rfl (Nat.le_of_ble_eq_true rfl) rfl dX9_doesNow_91 (fun H locs hz91 hH => ?_)
          have hH : Hp E (adr (wM E ad q0_why q0_detail q0_reasonNow q0_detailNow q0_w q0_undos q0_savedRow q0_mind q0_changes q0_firstChange q0_isSaved q0_at q0_line q0_lineLength q0_text q0_length q0_next q0_numbers q0_sort q0_done)) (wM E ad q0_why q0_detail q0_reasonNow q0_detailNow t7.2 q0_undos q0_savedRow q0_mind q0_changes q0_firstChange q0_isSaved q0_at q0_line q0_lineLength q0_text q0_length q0_next q0_numbers q0_sort q0_done) s.heap H locs := hH
          refine lv_pop hx hb dX9_doesNow_94 rfl ?_
          refine lv_goto (tgt := 118) hx hb dX9_doesNow_95 (by decide) ?_
          have hf := Option.some.inj hf
          subst hf
          exact e_Wv hC hH hr hlocks rfl dX9_doesNow_118
        · have hf := ite_f hf c11_115
          refine lv_lookup (tgt := 98) (off := 87) hx hb dX9_doesNow_11 (by decide) (by show Op.lookupswitch.offset [(105, 55), (111, 69), (112, 41), (115, 78)] _ _ = _; rw [lv_osw c11_105 (by decide), lv_osw c11_111 (by decide), lv_osw c11_112 (by decide), lv_osw c11_115 (by decide)]; rfl) (by decide) ?_
          refine lv_aload_n hx hb dX9_doesNow_98 rfl (lv_at hl 1 rfl) ?_
          refine lv_iload_n hx hb dX9_doesNow_99 rfl (lv_at hl 0 rfl) ?_
          refine lv_aload_n hx hb dX9_doesNow_100 rfl (lv_at hl 1 rfl) ?_
          refine gX9_213 hC hH.1 0 rfl (v := .int q0_sort) rfl dX9_doesNow_101 ?_
          refine lv_bipush (v := 109) hx hb dX9_doesNow_104 (by decide) ?_
          refine lv_icmp_ne (tgt := 113) hx hb dX9_doesNow_106 (by decide) (fun c8 => ?_) (fun c8 => ?_)
          · have hf := ite_f hf c8
            refine lv_iconst (v := 0) hx hb dX9_doesNow_113 (by decide) ?_
            obtain ⟨t9, ht9, hf⟩ := ob hf
            refine k_WVsi hC LX9_112 ⟨Nat.le_of_ble_eq_true rfl, Nat.le_of_ble_eq_true rfl⟩ ⟨Nat.zero_le _, Nat.zero_le _⟩ (cM_marks l E ad q0_why q0_detail q0_reasonNow q0_detailNow q0_w q0_undos q0_savedRow q0_mind q0_changes q0_firstChange q0_isSaved q0_at q0_line q0_lineLength q0_text q0_length q0_next q0_numbers q0_sort q0_done v1 (0 : Int32) t9 ht9) rfl rfl hH rfl rfl rfl hl.1 rfl (Nat.le_of_ble_eq_true rfl) rfl dX9_doesNow_114 (fun H locs hz114 hH => ?_)
            have hH : Hp E (adr (wM E ad q0_why q0_detail q0_reasonNow q0_detailNow q0_w q0_undos q0_savedRow q0_mind q0_changes q0_firstChange q0_isSaved q0_at q0_line q0_lineLength q0_text q0_length q0_next q0_numbers q0_sort q0_done)) (wM E ad q0_why q0_detail q0_reasonNow q0_detailNow t9.2 q0_undos q0_savedRow q0_mind q0_changes q0_firstChange q0_isSaved q0_at q0_line q0_lineLength q0_text q0_length q0_next q0_numbers q0_sort q0_done) s.heap H locs := hH
            refine lv_pop hx hb dX9_doesNow_117 rfl ?_
            have hf := Option.some.inj hf
            subst hf
            exact e_Wv hC hH hr hlocks rfl dX9_doesNow_118
          · have hf := ite_t hf c8
            refine lv_iconst (v := 1) hx hb dX9_doesNow_109 (by decide) ?_
            refine lv_goto (tgt := 114) hx hb dX9_doesNow_110 (by decide) ?_
            obtain ⟨t10, ht10, hf⟩ := ob hf
            refine k_WVsi hC LX9_112 ⟨Nat.le_of_ble_eq_true rfl, Nat.le_of_ble_eq_true rfl⟩ ⟨Nat.zero_le _, Nat.zero_le _⟩ (cM_marks l E ad q0_why q0_detail q0_reasonNow q0_detailNow q0_w q0_undos q0_savedRow q0_mind q0_changes q0_firstChange q0_isSaved q0_at q0_line q0_lineLength q0_text q0_length q0_next q0_numbers q0_sort q0_done v1 (1 : Int32) t10 ht10) rfl rfl hH rfl rfl rfl hl.1 rfl (Nat.le_of_ble_eq_true rfl) rfl dX9_doesNow_114 (fun H locs hz114 hH => ?_)
            have hH : Hp E (adr (wM E ad q0_why q0_detail q0_reasonNow q0_detailNow q0_w q0_undos q0_savedRow q0_mind q0_changes q0_firstChange q0_isSaved q0_at q0_line q0_lineLength q0_text q0_length q0_next q0_numbers q0_sort q0_done)) (wM E ad q0_why q0_detail q0_reasonNow q0_detailNow t10.2 q0_undos q0_savedRow q0_mind q0_changes q0_firstChange q0_isSaved q0_at q0_line q0_lineLength q0_text q0_length q0_next q0_numbers q0_sort q0_done) s.heap H locs := hH
            refine lv_pop hx hb dX9_doesNow_117 rfl ?_
            have hf := Option.some.inj hf
            subst hf
            exact e_Wv hC hH hr hlocks rfl dX9_doesNow_118
