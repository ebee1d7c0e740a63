abbrev rmM_notMark : Room := { frames := 1, cells := 0, slots := 0, locals := 22 }
set_option maxHeartbeats 4000000 in
set_option maxRecDepth 100000 in
theorem cM_notMark (l : Launch) (E : eE) (ad : Nat → Nat) (q0_why : Int32) (q0_detail : Int32) (q0_reasonNow : Int32) (q0_detailNow : Int32) (q0_w : (Nat → Int32)) (q0_undos : (Nat → Int32)) (q0_savedRow : (Nat → Int32)) (q0_mind : (Nat → Int32)) (q0_changes : Int32) (q0_firstChange : Int32) (q0_isSaved : Int32) (q0_at : (Nat → Int32)) (q0_line : (Nat → Int32)) (q0_lineLength : Int32) (q0_text : (Nat → Int32)) (q0_length : Int32) (q0_next : Int32) (q0_numbers : (Nat → Int32)) (q0_sort : Int32) (q0_done : Int32) (a1 : Int32) (a2 : Int32) (t : Int32 × Int32 × Int32) (hf : fM_notMark q0_reasonNow q0_detailNow q0_w a1 a2 = some t) : cW l E yX9_notMark cX9_notMark 3 (some .int) rmM_notMark [.ref (ad 0), .int a1, .int a2] (wM E ad q0_why q0_detail q0_reasonNow q0_detailNow q0_w q0_undos q0_savedRow q0_mind q0_changes q0_firstChange q0_isSaved q0_at q0_line q0_lineLength q0_text q0_length q0_next q0_numbers q0_sort q0_done) (some (.int t.1)) (wM E ad q0_why q0_detail t.2.1 t.2.2 q0_w q0_undos q0_savedRow q0_mind q0_changes q0_firstChange q0_isSaved q0_at q0_line q0_lineLength q0_text q0_length q0_next q0_numbers q0_sort q0_done) := by
  refine Met.ofW (cc := cX9_notMark) (maxL := 3) (ret := (some .int)) (by decide) rfl ?_
  intro p e s m args below meth c s₁ B hml hv
  obtain ⟨hargs, hP, hK, hD0⟩ := hv
  have hx := B.exec
  have hb := B.bytes
  have hr := B.returns
  have hts := atoms_spec (ws := ws_ yX9_notMark cX9_notMark 3 (some .int)) B.pre
  have hta : ∀ w ∈ lw_all, w.before args s = true := fun w h => hts w (List.mem_cons_of_mem _ h)
  have hown : s.vm.findClass RX9 = some m.cls := findClass_of_methodNamed B.named
  have hlocks := B.notSynchronized
  have hC : Cx p s m args c cX9_notMark 3 RX9 E := ⟨hx, hb, hml, hown, hta, hK⟩
  have hH : Hp E (adr (wM E ad q0_why q0_detail q0_reasonNow q0_detailNow q0_w q0_undos q0_savedRow q0_mind q0_changes q0_firstChange q0_isSaved q0_at q0_line q0_lineLength q0_text q0_length q0_next q0_numbers q0_sort q0_done)) (wM E ad q0_why q0_detail q0_reasonNow q0_detailNow q0_w q0_undos q0_savedRow q0_mind q0_changes q0_firstChange q0_isSaved q0_at q0_line q0_lineLength q0_text q0_length q0_next q0_numbers q0_sort q0_done) s.heap s.heap [] := Hp.start hP hD0
  obtain ⟨ls, he, hl⟩ := entry_ (m := m) (n := 3) hargs (Nat.le_of_ble_eq_true rfl)
  rw [he]
  have hl : lv_has ls 3 [(0, .ref (ad 0)), (1, .int a1), (2, .int a2)] := hl
  show W p l e rmM_notMark s m args below meth c s.heap [] 0 0 (MQ below (qW E (some .int) (some (.int t.1)) (wM E ad q0_why q0_detail q0_reasonNow q0_detailNow q0_w q0_undos q0_savedRow q0_mind q0_changes q0_firstChange q0_isSaved q0_at q0_line q0_lineLength q0_text q0_length q0_next q0_numbers q0_sort q0_done) (wM E ad q0_why q0_detail t.2.1 t.2.2 q0_w q0_undos q0_savedRow q0_mind q0_changes q0_firstChange q0_isSaved q0_at q0_line q0_lineLength q0_text q0_length q0_next q0_numbers q0_sort q0_done)) args s 0 0 (adr (wM E ad q0_why q0_detail q0_reasonNow q0_detailNow q0_w q0_undos q0_savedRow q0_mind q0_changes q0_firstChange q0_isSaved q0_at q0_line q0_lineLength q0_text q0_length q0_next q0_numbers q0_sort q0_done))) (F0 m 0 ls [])
  suffices hmain : ∀ (H : Heap) (locs : List Loc), Hp E (adr (wM E ad q0_why q0_detail q0_reasonNow q0_detailNow q0_w q0_undos q0_savedRow q0_mind q0_changes q0_firstChange q0_isSaved q0_at q0_line q0_lineLength q0_text q0_length q0_next q0_numbers q0_sort q0_done)) (wM E ad q0_why q0_detail q0_reasonNow q0_detailNow q0_w q0_undos q0_savedRow q0_mind q0_changes q0_firstChange q0_isSaved q0_at q0_line q0_lineLength q0_text q0_length q0_next q0_numbers q0_sort q0_done) s.heap H locs → W p l e rmM_notMark s m args below meth c H locs 0 0 (MQ below (qW E (some .int) (some (.int t.1)) (wM E ad q0_why q0_detail q0_reasonNow q0_detailNow q0_w q0_undos q0_savedRow q0_mind q0_changes q0_firstChange q0_isSaved q0_at q0_line q0_lineLength q0_text q0_length q0_next q0_numbers q0_sort q0_done) (wM E ad q0_why q0_detail t.2.1 t.2.2 q0_w q0_undos q0_savedRow q0_mind q0_changes q0_firstChange q0_isSaved q0_at q0_line q0_lineLength q0_text q0_length q0_next q0_numbers q0_sort q0_done)) args s 0 0 (adr (wM E ad q0_why q0_detail q0_reasonNow q0_detailNow q0_w q0_undos q0_savedRow q0_mind q0_changes q0_firstChange q0_isSaved q0_at q0_line q0_lineLength q0_text q0_length q0_next q0_numbers q0_sort q0_done))) (F0 m 0 ls []) from hmain _ _ hH
  clear hH
  intro H locs hH
  rw [fM_notMark] at hf
  refine lv_iload_n hx hb dX9_notMark_0 rfl (lv_at hl 1 rfl) ?_
  refine lv_iconst (v := 1) hx hb dX9_notMark_1 (by decide) ?_
  refine lv_bipush (v := 63) hx hb dX9_notMark_2 (by decide) ?_
  refine k_PSi hC LX9_60 ⟨Nat.le_of_ble_eq_true rfl, Nat.le_of_ble_eq_true rfl⟩ ⟨Nat.zero_le _, Nat.zero_le _⟩ (cM_isBetween l E a1 (1 : Int32) (63 : Int32) _ rfl) rfl rfl (vP_nil) hl.1 rfl (Nat.le_of_ble_eq_true rfl) rfl dX9_notMark_4 (fun hz4 => ?_)
  refine lv_if_ne (tgt := 13) hx hb dX9_notMark_7 (by decide) (fun c1 => ?_) (fun c1 => ?_)
  · have hf := ite_f hf c1
    refine lv_aload_n hx hb dX9_notMark_13 rfl (lv_at hl 0 rfl) ?_
    refine lv_iload_n hx hb dX9_notMark_14 rfl (lv_at hl 1 rfl) ?_
    obtain ⟨t2, ht2, hf⟩ := ob hf
    refine k_PVi hC LX9_101 ⟨Nat.le_of_ble_eq_true rfl, Nat.le_of_ble_eq_true rfl⟩ ⟨Nat.zero_le _, Nat.zero_le _⟩ (cM_hasMark l E ad q0_why q0_detail q0_reasonNow q0_detailNow q0_w q0_undos q0_savedRow q0_mind q0_changes q0_firstChange q0_isSaved q0_at q0_line q0_lineLength q0_text q0_length q0_next q0_numbers q0_sort q0_done a1 t2 ht2) rfl rfl hH.1 rfl rfl hl.1 rfl (Nat.le_of_ble_eq_true rfl) rfl dX9_notMark_15 (fun hz15 => ?_)
    refine lv_iload_n hx hb dX9_notMark_18 rfl (lv_at hl 2 rfl) ?_
    refine lv_icmp_ne (tgt := 31) hx hb dX9_notMark_19 (by decide) (fun c3 => ?_) (fun c3 => ?_)
    · have hf := ite_f hf c3
      refine lv_iconst (v := 0) hx hb dX9_notMark_31 (by decide) ?_
      have hf := Option.some.inj hf
      subst hf
      exact e_Wi hC hH hr hlocks rfl rfl dX9_notMark_32
    · have hf := ite_t hf c3
      refine lv_aload_n hx hb dX9_notMark_22 rfl (lv_at hl 0 rfl) ?_
      refine lv_iconst (v := 3) hx hb dX9_notMark_23 (by decide) ?_
      refine lv_iload_n hx hb dX9_notMark_24 rfl (lv_at hl 1 rfl) ?_
      obtain ⟨t4, ht4, hf⟩ := ob hf
      refine k_WVsi hC LX9_68 ⟨Nat.le_of_ble_eq_true rfl, Nat.le_of_ble_eq_true rfl⟩ ⟨Nat.zero_le _, Nat.zero_le _⟩ (cM_isNot l E ad q0_why q0_detail q0_reasonNow q0_detailNow q0_w q0_undos q0_savedRow q0_mind q0_changes q0_firstChange q0_isSaved q0_at q0_line q0_lineLength q0_text q0_length q0_next q0_numbers q0_sort q0_done (3 : Int32) a1 t4 ht4) rfl rfl hH rfl rfl rfl hl.1 rfl (Nat.le_of_ble_eq_true rfl) rfl dX9_notMark_25 (fun H locs hz25 hH => ?_)
      have hH : Hp E (adr (wM E ad q0_why q0_detail q0_reasonNow q0_detailNow q0_w q0_undos q0_savedRow q0_mind q0_changes q0_firstChange q0_isSaved q0_at q0_line q0_lineLength q0_text q0_length q0_next q0_numbers q0_sort q0_done)) (wM E ad q0_why q0_detail t4.2.1 t4.2.2 q0_w q0_undos q0_savedRow q0_mind q0_changes q0_firstChange q0_isSaved q0_at q0_line q0_lineLength q0_text q0_length q0_next q0_numbers q0_sort q0_done) s.heap H locs := hH
      refine lv_goto (tgt := 32) hx hb dX9_notMark_28 (by decide) ?_
      have hf := Option.some.inj hf
      subst hf
      exact e_Wi hC hH hr hlocks rfl rfl dX9_notMark_32
  · have hf := ite_t hf c1
    refine lv_bipush (v := (-11)) hx hb dX9_notMark_10 (by decide) ?_
    have hf := Option.some.inj hf
    subst hf
    exact e_Wi hC hH hr hlocks rfl rfl dX9_notMark_12
abbrev rmM_marks : Room := { frames := 1, cells := 0, slots := 0, locals := 22 }
set_option maxHeartbeats 4000000 in
set_option maxRecDepth 100000 in
theorem cM_marks (l : Launch) (E : eE) (ad : Nat → Nat) (q0_why : Int32) (q0_detail : Int32) (q0_reasonNow : Int32) (q0_detailNow : Int32) (q0_w : (Nat → Int32)) (q0_undos : (Nat → Int32)) (q0_savedRow : (Nat → Int32)) (q0_mind : (Nat → Int32)) (q0_changes : Int32) (q0_firstChange : Int32) (q0_isSaved : Int32) (q0_at : (Nat → Int32)) (q0_line : (Nat → Int32)) (q0_lineLength : Int32) (q0_text : (Nat → Int32)) (q0_length : Int32) (q0_next : Int32) (q0_numbers : (Nat → Int32)) (q0_sort : Int32) (q0_done : Int32) (a1 : Int32) (a2 : Int32) (t : Int32 × (Nat → Int32)) (hf : fM_marks q0_w a1 a2 = some t) : cW l E yX9_marks cX9_marks 3 (some .int) rmM_marks [.ref (ad 0), .int a1, .int a2] (wM E ad q0_why q0_detail q0_reasonNow q0_detailNow q0_w q0_undos q0_savedRow q0_mind q0_changes q0_firstChange q0_isSaved q0_at q0_line q0_lineLength q0_text q0_length q0_next q0_numbers q0_sort q0_done) (some (.int t.1)) (wM E ad q0_why q0_detail q0_reasonNow q0_detailNow t.2 q0_undos q0_savedRow q0_mind q0_changes q0_firstChange q0_isSaved q0_at q0_line q0_lineLength q0_text q0_length q0_next q0_numbers q0_sort q0_done) := by
  refine Met.ofW (cc := cX9_marks) (maxL := 3) (ret := (some .int)) (by decide) rfl ?_
  intro p e s m args below meth c s₁ B hml hv
  obtain ⟨hargs, hP, hK, hD0⟩ := hv
  have hx := B.exec
  have hb := B.bytes
  have hr := B.returns
  have hts := atoms_spec (ws := ws_ yX9_marks cX9_marks 3 (some .int)) B.pre
  have hta : ∀ w ∈ lw_all, w.before args s = true := fun w h => hts w (List.mem_cons_of_mem _ h)
  have hown : s.vm.findClass RX9 = some m.cls := findClass_of_methodNamed B.named
  have hlocks := B.notSynchronized
  have hC : Cx p s m args c cX9_marks 3 RX9 E := ⟨hx, hb, hml, hown, hta, hK⟩
  have hH : Hp E (adr (wM E ad q0_why q0_detail q0_reasonNow q0_detailNow q0_w q0_undos q0_savedRow q0_mind q0_changes q0_firstChange q0_isSaved q0_at q0_line q0_lineLength q0_text q0_length q0_next q0_numbers q0_sort q0_done)) (wM E ad q0_why q0_detail q0_reasonNow q0_detailNow q0_w q0_undos q0_savedRow q0_mind q0_changes q0_firstChange q0_isSaved q0_at q0_line q0_lineLength q0_text q0_length q0_next q0_numbers q0_sort q0_done) s.heap s.heap [] := Hp.start hP hD0
  obtain ⟨ls, he, hl⟩ := entry_ (m := m) (n := 3) hargs (Nat.le_of_ble_eq_true rfl)
  rw [he]
  have hl : lv_has ls 3 [(0, .ref (ad 0)), (1, .int a1), (2, .int a2)] := hl
  show W p l e rmM_marks s m args below meth c s.heap [] 0 0 (MQ below (qW E (some .int) (some (.int t.1)) (wM E ad q0_why q0_detail q0_reasonNow q0_detailNow q0_w q0_undos q0_savedRow q0_mind q0_changes q0_firstChange q0_isSaved q0_at q0_line q0_lineLength q0_text q0_length q0_next q0_numbers q0_sort q0_done) (wM E ad q0_why q0_detail q0_reasonNow q0_detailNow t.2 q0_undos q0_savedRow q0_mind q0_changes q0_firstChange q0_isSaved q0_at q0_line q0_lineLength q0_text q0_length q0_next q0_numbers q0_sort q0_done)) args s 0 0 (adr (wM E ad q0_why q0_detail q0_reasonNow q0_detailNow q0_w q0_undos q0_savedRow q0_mind q0_changes q0_firstChange q0_isSaved q0_at q0_line q0_lineLength q0_text q0_length q0_next q0_numbers q0_sort q0_done))) (F0 m 0 ls [])
  suffices hmain : ∀ (H : Heap) (locs : List Loc), Hp E (adr (wM E ad q0_why q0_detail q0_reasonNow q0_detailNow q0_w q0_undos q0_savedRow q0_mind q0_changes q0_firstChange q0_isSaved q0_at q0_line q0_lineLength q0_text q0_length q0_next q0_numbers q0_sort q0_done)) (wM E ad q0_why q0_detail q0_reasonNow q0_detailNow q0_w q0_undos q0_savedRow q0_mind q0_changes q0_firstChange q0_isSaved q0_at q0_line q0_lineLength q0_text q0_length q0_next q0_numbers q0_sort q0_done) s.heap H locs → W p l e rmM_marks s m args below meth c H locs 0 0 (MQ below (qW E (some .int) (some (.int t.1)) (wM E ad q0_why q0_detail q0_reasonNow q0_detailNow q0_w q0_undos q0_savedRow q0_mind q0_changes q0_firstChange q0_isSaved q0_at q0_line q0_lineLength q0_text q0_length q0_next q0_numbers q0_sort q0_done) (wM E ad q0_why q0_detail q0_reasonNow q0_detailNow t.2 q0_undos q0_savedRow q0_mind q0_changes q0_firstChange q0_isSaved q0_at q0_line q0_lineLength q0_text q0_length q0_next q0_numbers q0_sort q0_done)) args s 0 0 (adr (wM E ad q0_why q0_detail q0_reasonNow q0_detailNow q0_w q0_undos q0_savedRow q0_mind q0_changes q0_firstChange q0_isSaved q0_at q0_line q0_lineLength q0_text q0_length q0_next q0_numbers q0_sort q0_done))) (F0 m 0 ls []) from hmain _ _ hH
  clear hH
  intro H locs hH
  rw [fM_marks] at hf
  refine lv_aload_n hx hb dX9_marks_0 rfl (lv_at hl 0 rfl) ?_
  refine gX9_7 hC hH.1 0 rfl (v := .ref (ad 1)) rfl dX9_marks_1 ?_
  refine lv_bipush (v := 68) hx hb dX9_marks_4 (by decide) ?_
  refine lv_iload_n hx hb dX9_marks_6 rfl (lv_at hl 1 rfl) ?_
  refine lv_iadd hx hb dX9_marks_7 ?_
  refine lv_iload_n hx hb dX9_marks_8 rfl (lv_at hl 2 rfl) ?_
  refine lv_if_eq (tgt := 16) hx hb dX9_marks_9 (by decide) (fun c1 => ?_) (fun c1 => ?_)
  · have hf := ite_t hf c1
    refine lv_iconst (v := 0) hx hb dX9_marks_16 (by decide) ?_
    obtain ⟨g2, hg2, hf⟩ := ob hf
    obtain ⟨hg2a, hg2b⟩ := stA_ok hg2
    refine a_ist hC hH 1 rfl hg2a hg2b (W1 := wM E ad q0_why q0_detail q0_reasonNow q0_detailNow g2 q0_undos q0_savedRow q0_mind q0_changes q0_firstChange q0_isSaved q0_at q0_line q0_lineLength q0_text q0_length q0_next q0_numbers q0_sort q0_done) rfl dX9_marks_17 (fun H locs hH => ?_)
    refine lv_aload_n hx hb dX9_marks_18 rfl (lv_at hl 0 rfl) ?_
    obtain ⟨t3, ht3, hf⟩ := ob hf
    refine k_PVi hC LX9_104 ⟨Nat.le_of_ble_eq_true rfl, Nat.le_of_ble_eq_true rfl⟩ ⟨Nat.zero_le _, Nat.zero_le _⟩ (cM_marked l E ad q0_why q0_detail q0_reasonNow q0_detailNow g2 q0_undos q0_savedRow q0_mind q0_changes q0_firstChange q0_isSaved q0_at q0_line q0_lineLength q0_text q0_length q0_next q0_numbers q0_sort q0_done t3 ht3) rfl rfl hH.1 rfl rfl hl.1 rfl (Nat.le_of_ble_eq_true rfl) rfl dX9_marks_19 (fun hz19 => ?_)
    have hf := Option.some.inj hf
    subst hf
    exact e_Wi hC hH hr hlocks rfl rfl dX9_marks_22
  · have hf := ite_f hf c1
    refine lv_iconst (v := 1) hx hb dX9_marks_12 (by decide) ?_
    refine lv_goto (tgt := 17) hx hb dX9_marks_13 (by decide) ?_
    obtain ⟨g4, hg4, hf⟩ := ob hf
    obtain ⟨hg4a, hg4b⟩ := stA_ok hg4
    refine a_ist hC hH 1 rfl hg4a hg4b (W1 := wM E ad q0_why q0_detail q0_reasonNow q0_detailNow g4 q0_undos q0_savedRow q0_mind q0_changes q0_firstChange q0_isSaved q0_at q0_line q0_lineLength q0_text q0_length q0_next q0_numbers q0_sort q0_done) rfl dX9_marks_17 (fun H locs hH => ?_)
    refine lv_aload_n hx hb dX9_marks_18 rfl (lv_at hl 0 rfl) ?_
    obtain ⟨t5, ht5, hf⟩ := ob hf
    refine k_PVi hC LX9_104 ⟨Nat.le_of_ble_eq_true rfl, Nat.le_of_ble_eq_true rfl⟩ ⟨Nat.zero_le _, Nat.zero_le _⟩ (cM_marked l E ad q0_why q0_detail q0_reasonNow q0_detailNow g4 q0_undos q0_savedRow q0_mind q0_changes q0_firstChange q0_isSaved q0_at q0_line q0_lineLength q0_text q0_length q0_next q0_numbers q0_sort q0_done t5 ht5) rfl rfl hH.1 rfl rfl hl.1 rfl (Nat.le_of_ble_eq_true rfl) rfl dX9_marks_19 (fun hz19 => ?_)
    have hf := Option.some.inj hf
    subst hf
    exact e_Wi hC hH hr hlocks rfl rfl dX9_marks_22
abbrev rmM_mark : Room := { frames := 2, cells := 0, slots := 0, locals := 44 }
set_option maxHeartbeats 4000000 in
set_option maxRecDepth 100000 in
theorem cM_mark (l : Launch) (E : eE) (ad : Nat → Nat) (q0_why : Int32) (q0_detail : Int32) (q0_reasonNow : Int32) (q0_detailNow : Int32) (q0_w : (Nat → Int32)) (q0_undos : (Nat → Int32)) (q0_savedRow : (Nat → Int32)) (q0_mind : (Nat → Int32)) (q0_changes : Int32) (q0_firstChange : Int32) (q0_isSaved : Int32) (q0_at : (Nat → Int32)) (q0_line : (Nat → Int32)) (q0_lineLength : Int32) (q0_text : (Nat → Int32)) (q0_length : Int32) (q0_next : Int32) (q0_numbers : (Nat → Int32)) (q0_sort : Int32) (q0_done : Int32) (a1 : Int32) (a2 : Int32) (t : Int32 × Int32 × Int32 × Int32 × Int32 × (Nat → Int32) × (Nat → Int32) × (Nat → Int32) × Int32 × Int32) (hf : fM_mark q0_why q0_detail q0_reasonNow q0_detailNow q0_w q0_undos q0_mind q0_changes q0_firstChange a1 a2 = some t) : cW l E yX9_mark cX9_mark 4 (some .int) rmM_mark [.ref (ad 0), .int a1, .int a2] (wM E ad q0_why q0_detail q0_reasonNow q0_detailNow q0_w q0_undos q0_savedRow q0_mind q0_changes q0_firstChange q0_isSaved q0_at q0_line q0_lineLength q0_text q0_length q0_next q0_numbers q0_sort q0_done) (some (.int t.1)) (wM E ad t.2.1 t.2.2.1 t.2.2.2.1 t.2.2.2.2.1 t.2.2.2.2.2.1 t.2.2.2.2.2.2.1 q0_savedRow t.2.2.2.2.2.2.2.1 t.2.2.2.2.2.2.2.2.1 t.2.2.2.2.2.2.2.2.2 q0_isSaved q0_at q0_line q0_lineLength q0_text q0_length q0_next q0_numbers q0_sort q0_done) := by
  refine Met.ofW (cc := cX9_mark) (maxL := 4) (ret := (some .int)) (by decide) rfl ?_
  intro p e s m args below meth c s₁ B hml hv
  obtain ⟨hargs, hP, hK, hD0⟩ := hv
  have hx := B.exec
  have hb := B.bytes
  have hr := B.returns
  have hts := atoms_spec (ws := ws_ yX9_mark cX9_mark 4 (some .int)) B.pre
  have hta : ∀ w ∈ lw_all, w.before args s = true := fun w h => hts w (List.mem_cons_of_mem _ h)
  have hown : s.vm.findClass RX9 = some m.cls := findClass_of_methodNamed B.named
  have hlocks := B.notSynchronized
  have hC : Cx p s m args c cX9_mark 4 RX9 E := ⟨hx, hb, hml, hown, hta, hK⟩
  have hH : Hp E (adr (wM E ad q0_why q0_detail q0_reasonNow q0_detailNow q0_w q0_undos q0_savedRow q0_mind q0_changes q0_firstChange q0_isSaved q0_at q0_line q0_lineLength q0_text q0_length q0_next q0_numbers q0_sort q0_done)) (wM E ad q0_why q0_detail q0_reasonNow q0_detailNow q0_w q0_undos q0_savedRow q0_mind q0_changes q0_firstChange q0_isSaved q0_at q0_line q0_lineLength q0_text q0_length q0_next q0_numbers q0_sort q0_done) s.heap s.heap [] := Hp.start hP hD0
  obtain ⟨ls, he, hl⟩ := entry_ (m := m) (n := 4) hargs (Nat.le_of_ble_eq_true rfl)
  rw [he]
  have hl : lv_has ls 4 [(0, .ref (ad 0)), (1, .int a1), (2, .int a2)] := hl
  show W p l e rmM_mark s m args below meth c s.heap [] 0 0 (MQ below (qW E (some .int) (some (.int t.1)) (wM E ad q0_why q0_detail q0_reasonNow q0_detailNow q0_w q0_undos q0_savedRow q0_mind q0_changes q0_firstChange q0_isSaved q0_at q0_line q0_lineLength q0_text q0_length q0_next q0_numbers q0_sort q0_done) (wM E ad t.2.1 t.2.2.1 t.2.2.2.1 t.2.2.2.2.1 t.2.2.2.2.2.1 t.2.2.2.2.2.2.1 q0_savedRow t.2.2.2.2.2.2.2.1 t.2.2.2.2.2.2.2.2.1 t.2.2.2.2.2.2.2.2.2 q0_isSaved q0_at q0_line q0_lineLength q0_text q0_length q0_next q0_numbers q0_sort q0_done)) args s 0 0 (adr (wM E ad q0_why q0_detail q0_reasonNow q0_detailNow q0_w q0_undos q0_savedRow q0_mind q0_changes q0_firstChange q0_isSaved q0_at q0_line q0_lineLength q0_text q0_length q0_next q0_numbers q0_sort q0_done))) (F0 m 0 ls [])
  suffices hmain : ∀ (H : Heap) (locs : List Loc), Hp E (adr (wM E ad q0_why q0_detail q0_reasonNow q0_detailNow q0_w q0_undos q0_savedRow q0_mind q0_changes q0_firstChange q0_isSaved q0_at q0_line q0_lineLength q0_text q0_length q0_next q0_numbers q0_sort q0_done)) (wM E ad q0_why q0_detail q0_reasonNow q0_detailNow q0_w q0_undos q0_savedRow q0_mind q0_changes q0_firstChange q0_isSaved q0_at q0_line q0_lineLength q0_text q0_length q0_next q0_numbers q0_sort q0_done) s.heap H locs → W p l e rmM_mark s m args below meth c H locs 0 0 (MQ below (qW E (some .int) (some (.int t.1)) (wM E ad q0_why q0_detail q0_reasonNow q0_detailNow q0_w q0_undos q0_savedRow q0_mind q0_changes q0_firstChange q0_isSaved q0_at q0_line q0_lineLength q0_text q0_length q0_next q0_numbers q0_sort q0_done) (wM E ad t.2.1 t.2.2.1 t.2.2.2.1 t.2.2.2.2.1 t.2.2.2.2.2.1 t.2.2.2.2.2.2.1 q0_savedRow t.2.2.2.2.2.2.2.1 t.2.2.2.2.2.2.2.2.1 t.2.2.2.2.2.2.2.2.2 q0_isSaved q0_at q0_line q0_lineLength q0_text q0_length q0_next q0_numbers q0_sort q0_done)) args s 0 0 (adr (wM E ad q0_why q0_detail q0_reasonNow q0_detailNow q0_w q0_undos q0_savedRow q0_mind q0_changes q0_firstChange q0_isSaved q0_at q0_line q0_lineLength q0_text q0_length q0_next q0_numbers q0_sort q0_done))) (F0 m 0 ls []) from hmain _ _ hH
  clear hH
  intro H locs hH
  rw [fM_mark] at hf
  refine lv_aload_n hx hb dX9_mark_0 rfl (lv_at hl 0 rfl) ?_
  refine lv_iload_n hx hb dX9_mark_1 rfl (lv_at hl 1 rfl) ?_
  refine lv_iload_n hx hb dX9_mark_2 rfl (lv_at hl 2 rfl) ?_
  obtain ⟨t1, ht1, hf⟩ := ob hf
  refine k_WVsi hC LX9_108 ⟨Nat.le_of_ble_eq_true rfl, Nat.le_of_ble_eq_true rfl⟩ ⟨Nat.zero_le _, Nat.zero_le _⟩ (cM_notMark l E ad q0_why q0_detail q0_reasonNow q0_detailNow q0_w q0_undos q0_savedRow q0_mind q0_changes q0_firstChange q0_isSaved q0_at q0_line q0_lineLength q0_text q0_length q0_next q0_numbers q0_sort q0_done a1 a2 t1 ht1) rfl rfl hH rfl rfl rfl hl.1 rfl (Nat.le_of_ble_eq_true rfl) rfl dX9_mark_3 (fun H locs hz3 hH => ?_)
  have hH : Hp E (adr (wM E ad q0_why q0_detail q0_reasonNow q0_detailNow q0_w q0_undos q0_savedRow q0_mind q0_changes q0_firstChange q0_isSaved q0_at q0_line q0_lineLength q0_text q0_length q0_next q0_numbers q0_sort q0_done)) (wM E ad q0_why q0_detail t1.2.1 t1.2.2 q0_w q0_undos q0_savedRow q0_mind q0_changes q0_firstChange q0_isSaved q0_at q0_line q0_lineLength q0_text q0_length q0_next q0_numbers q0_sort q0_done) s.heap H locs := hH
  refine lv_istore_n (lv' := [(3, .int t1.1), (0, .ref (ad 0)), (1, .int a1), (2, .int a2)]) hx hb dX9_mark_6 rfl hl (by decide) rfl (fun ls hl => ?_)
  refine lv_iload_n hx hb dX9_mark_7 rfl (lv_at hl 0 rfl) ?_
  refine lv_if_eq (tgt := 17) hx hb dX9_mark_8 (by decide) (fun c2 => ?_) (fun c2 => ?_)
  · have hf := ite_t hf c2
    refine lv_aload_n hx hb dX9_mark_17 rfl (lv_at hl 1 rfl) ?_
    obtain ⟨t3, ht3, hf⟩ := ob hf
    refine k_WVsv hC LX9_79 ⟨Nat.le_of_ble_eq_true rfl, Nat.le_of_ble_eq_true rfl⟩ ⟨Nat.zero_le _, Nat.zero_le _⟩ (cM_remembers l E ad q0_why q0_detail t1.2.1 t1.2.2 q0_w q0_undos q0_savedRow q0_mind q0_changes q0_firstChange q0_isSaved q0_at q0_line q0_lineLength q0_text q0_length q0_next q0_numbers q0_sort q0_done t3 ht3) rfl rfl hH rfl rfl rfl hl.1 rfl (Nat.le_of_ble_eq_true rfl) rfl dX9_mark_18 (fun H locs hz18 hH => ?_)
    have hH : Hp E (adr (wM E ad q0_why q0_detail q0_reasonNow q0_detailNow q0_w q0_undos q0_savedRow q0_mind q0_changes q0_firstChange q0_isSaved q0_at q0_line q0_lineLength q0_text q0_length q0_next q0_numbers q0_sort q0_done)) (wM E ad q0_why q0_detail t1.2.1 t1.2.2 q0_w t3.1 q0_savedRow t3.2.1 t3.2.2.1 t3.2.2.2 q0_isSaved q0_at q0_line q0_lineLength q0_text q0_length q0_next q0_numbers q0_sort q0_done) s.heap H locs := hH
    refine lv_aload_n hx hb dX9_mark_21 rfl (lv_at hl 1 rfl) ?_
    refine lv_iload_n hx hb dX9_mark_22 rfl (lv_at hl 2 rfl) ?_
    refine lv_iload_n hx hb dX9_mark_23 rfl (lv_at hl 3 rfl) ?_
    obtain ⟨t4, ht4, hf⟩ := ob hf
    refine k_WVsi hC LX9_112 ⟨Nat.le_of_ble_eq_true rfl, Nat.le_of_ble_eq_true rfl⟩ ⟨Nat.zero_le _, Nat.zero_le _⟩ (cM_marks l E ad q0_why q0_detail t1.2.1 t1.2.2 q0_w t3.1 q0_savedRow t3.2.1 t3.2.2.1 t3.2.2.2 q0_isSaved q0_at q0_line q0_lineLength q0_text q0_length q0_next q0_numbers q0_sort q0_done a1 a2 t4 ht4) rfl rfl hH rfl rfl rfl hl.1 rfl (Nat.le_of_ble_eq_true rfl) rfl dX9_mark_24 (fun H locs hz24 hH => ?_)
    have hH : Hp E (adr (wM E ad q0_why q0_detail q0_reasonNow q0_detailNow q0_w q0_undos q0_savedRow q0_mind q0_changes q0_firstChange q0_isSaved q0_at q0_line q0_lineLength q0_text q0_length q0_next q0_numbers q0_sort q0_done)) (wM E ad q0_why q0_detail t1.2.1 t1.2.2 t4.2 t3.1 q0_savedRow t3.2.1 t3.2.2.1 t3.2.2.2 q0_isSaved q0_at q0_line q0_lineLength q0_text q0_length q0_next q0_numbers q0_sort q0_done) s.heap H locs := hH
    have hf := Option.some.inj hf
    subst hf
    exact e_Wi hC hH hr hlocks rfl rfl dX9_mark_27
  · have hf := ite_f hf c2
    refine lv_aload_n hx hb dX9_mark_11 rfl (lv_at hl 1 rfl) ?_
    refine lv_iload_n hx hb dX9_mark_12 rfl (lv_at hl 0 rfl) ?_
    obtain ⟨t5, ht5, hf⟩ := ob hf
    refine k_WVsi hC LX9_75 ⟨Nat.le_of_ble_eq_true rfl, Nat.le_of_ble_eq_true rfl⟩ ⟨Nat.zero_le _, Nat.zero_le _⟩ (cM_refuses l E ad q0_why q0_detail t1.2.1 t1.2.2 q0_w q0_undos q0_savedRow q0_mind q0_changes q0_firstChange q0_isSaved q0_at q0_line q0_lineLength q0_text q0_length q0_next q0_numbers q0_sort q0_done t1.1 t5 ht5) rfl rfl hH rfl rfl rfl hl.1 rfl (Nat.le_of_ble_eq_true rfl) rfl dX9_mark_13 (fun H locs hz13 hH => ?_)
    have hH : Hp E (adr (wM E ad q0_why q0_detail q0_reasonNow q0_detailNow q0_w q0_undos q0_savedRow q0_mind q0_changes q0_firstChange q0_isSaved q0_at q0_line q0_lineLength q0_text q0_length q0_next q0_numbers q0_sort q0_done)) (wM E ad t5.2.1 t5.2.2 t1.2.1 t1.2.2 q0_w q0_undos q0_savedRow q0_mind q0_changes q0_firstChange q0_isSaved q0_at q0_line q0_lineLength q0_text q0_length q0_next q0_numbers q0_sort q0_done) s.heap H locs := hH
    have hf := Option.some.inj hf
    subst hf
    exact e_Wi hC hH hr hlocks rfl rfl dX9_mark_16
abbrev rmM_begins : Room := { frames := 1, cells := 0, slots := 0, locals := 21 }
set_option maxHeartbeats 4000000 in
set_option maxRecDepth 100000 in
theorem cM_begins (l : Launch) (E : eE) (ad : Nat → Nat) (q0_why : Int32) (q0_detail : Int32) (q0_reasonNow : Int32) (q0_detailNow : Int32) (q0_w : (Nat → Int32)) (q0_undos : (Nat → Int32)) (q0_savedRow : (Nat → Int32)) (q0_mind : (Nat → Int32)) (q0_changes : Int32) (q0_firstChange : Int32) (q0_isSaved : Int32) (q0_at : (Nat → Int32)) (q0_line : (Nat → Int32)) (q0_lineLength : Int32) (q0_text : (Nat → Int32)) (q0_length : Int32) (q0_next : Int32) (q0_numbers : (Nat → Int32)) (q0_sort : Int32) (q0_done : Int32) (a1 : Int32) (r : Int32) (hf : fM_begins q0_w a1 = some r) : cP l E yX9_begins cX9_begins 2 (some .boolean) rmM_begins [.ref (ad 0), .int a1] (wM E ad q0_why q0_detail q0_reasonNow q0_detailNow q0_w q0_undos q0_savedRow q0_mind q0_changes q0_firstChange q0_isSaved q0_at q0_line q0_lineLength q0_text q0_length q0_next q0_numbers q0_sort q0_done) (some (.int r)) := by
  refine Met.ofW (cc := cX9_begins) (maxL := 2) (ret := (some .boolean)) (by decide) rfl ?_
  intro p e s m args below meth c s₁ B hml hv
  obtain ⟨hargs, hP, hK⟩ := hv
  have hx := B.exec
  have hb := B.bytes
  have hr := B.returns
  have hts := atoms_spec (ws := ws_ yX9_begins cX9_begins 2 (some .boolean)) B.pre
  have hta : ∀ w ∈ lw_all, w.before args s = true := fun w h => hts w (List.mem_cons_of_mem _ h)
  have hown : s.vm.findClass RX9 = some m.cls := findClass_of_methodNamed B.named
  have hlocks := B.notSynchronized
  have hC : Cx p s m args c cX9_begins 2 RX9 E := ⟨hx, hb, hml, hown, hta, hK⟩
  obtain ⟨ls, he, hl⟩ := entry_ (m := m) (n := 2) hargs (Nat.le_of_ble_eq_true rfl)
  rw [he]
  have hl : lv_has ls 2 [(0, .ref (ad 0)), (1, .int a1)] := hl
  show W p l e rmM_begins s m args below meth c s.heap [] 0 0 (MQ below (qP (some .boolean) (some (.int r))) args s 0 0 (fun _ => False)) (F0 m 0 ls [])
  rw [fM_begins] at hf
  refine lv_iload_n hx hb dX9_begins_0 rfl (lv_at hl 1 rfl) ?_
  refine lv_if_eq (tgt := 12) hx hb dX9_begins_1 (by decide) (fun c1 => ?_) (fun c1 => ?_)
  · have hf := ite_t hf c1
    refine lv_iconst (v := 1) hx hb dX9_begins_12 (by decide) ?_
    refine lv_goto (tgt := 17) hx hb dX9_begins_13 (by decide) ?_
    have hf := Option.some.inj hf
    exact e_Pz hC hr hlocks hf rfl dX9_begins_17
  · have hf := ite_f hf c1
    refine lv_aload_n hx hb dX9_begins_4 rfl (lv_at hl 0 rfl) ?_
    refine lv_iload_n hx hb dX9_begins_5 rfl (lv_at hl 1 rfl) ?_
    obtain ⟨t2, ht2, hf⟩ := ob hf
    refine k_PVi hC LX9_101 ⟨Nat.le_of_ble_eq_true rfl, Nat.le_of_ble_eq_true rfl⟩ ⟨Nat.zero_le _, Nat.zero_le _⟩ (cM_hasMark l E ad q0_why q0_detail q0_reasonNow q0_detailNow q0_w q0_undos q0_savedRow q0_mind q0_changes q0_firstChange q0_isSaved q0_at q0_line q0_lineLength q0_text q0_length q0_next q0_numbers q0_sort q0_done a1 t2 ht2) rfl rfl hP rfl rfl hl.1 rfl (Nat.le_of_ble_eq_true rfl) rfl dX9_begins_6 (fun hz6 => ?_)
    refine lv_if_eq (tgt := 16) hx hb dX9_begins_9 (by decide) (fun c3 => ?_) (fun c3 => ?_)
    · have hf := ite_t hf c3
      refine lv_iconst (v := 0) hx hb dX9_begins_16 (by decide) ?_
      have hf := Option.some.inj hf
      exact e_Pz hC hr hlocks hf rfl dX9_begins_17
    · have hf := ite_f hf c3
      refine lv_iconst (v := 1) hx hb dX9_begins_12 (by decide) ?_
      refine lv_goto (tgt := 17) hx hb dX9_begins_13 (by decide) ?_
      have hf := Option.some.inj hf
      exact e_Pz hC hr hlocks hf rfl dX9_begins_17
abbrev rmM_bagsUpTo : Room := { frames := 2, cells := 0, slots := 0, locals := 42 }
set_option maxHeartbeats 4000000 in
set_option maxRecDepth 100000 in
theorem cM_bagsUpTo (l : Launch) (E : eE) (ad : Nat → Nat) (q0_why : Int32) (q0_detail : Int32) (q0_reasonNow : Int32) (q0_detailNow : Int32) (q0_w : (Nat → Int32)) (q0_undos : (Nat → Int32)) (q0_savedRow : (Nat → Int32)) (q0_mind : (Nat → Int32)) (q0_changes : Int32) (q0_firstChange : Int32) (q0_isSaved : Int32) (q0_at : (Nat → Int32)) (q0_line : (Nat → Int32)) (q0_lineLength : Int32) (q0_text : (Nat → Int32)) (q0_length : Int32) (q0_next : Int32) (q0_numbers : (Nat → Int32)) (q0_sort : Int32) (q0_done : Int32) (a1 : Int32) (r : Int32) (hf : fM_bagsUpTo q0_w a1 = some r) : cP l E yX9_bagsUpTo cX9_bagsUpTo 4 (some .int) rmM_bagsUpTo [.ref (ad 0), .int a1] (wM E ad q0_why q0_detail q0_reasonNow q0_detailNow q0_w q0_undos q0_savedRow q0_mind q0_changes q0_firstChange q0_isSaved q0_at q0_line q0_lineLength q0_text q0_length q0_next q0_numbers q0_sort q0_done) (some (.int r)) := by
  refine Met.ofW (cc := cX9_bagsUpTo) (maxL := 4) (ret := (some .int)) (by decide) rfl ?_
  intro p e s m args below meth c s₁ B hml hv
  obtain ⟨hargs, hP, hK⟩ := hv
  have hx := B.exec
  have hb := B.bytes
  have hr := B.returns
  have hts := atoms_spec (ws := ws_ yX9_bagsUpTo cX9_bagsUpTo 4 (some .int)) B.pre
  have hta : ∀ w ∈ lw_all, w.before args s = true := fun w h => hts w (List.mem_cons_of_mem _ h)
  have hown : s.vm.findClass RX9 = some m.cls := findClass_of_methodNamed B.named
  have hlocks := B.notSynchronized
  have hC : Cx p s m args c cX9_bagsUpTo 4 RX9 E := ⟨hx, hb, hml, hown, hta, hK⟩
  obtain ⟨ls, he, hl⟩ := entry_ (m := m) (n := 4) hargs (Nat.le_of_ble_eq_true rfl)
  rw [he]
  have hl : lv_has ls 4 [(0, .ref (ad 0)), (1, .int a1)] := hl
  show W p l e rmM_bagsUpTo s m args below meth c s.heap [] 0 0 (MQ below (qP (some .int) (some (.int r))) args s 0 0 (fun _ => False)) (F0 m 0 ls [])
  have L4 : ∀ (n : Nat) (a1 : Int32) (a2 : Int32) (a3 : Int32) (ls : Array Slot), lv_has ls 4 [(0, .ref (ad 0)), (1, .int a1), (2, .int a2), (3, .int a3)] → fM_bagsUpTo_4 n q0_w a1 a2 a3 = some r → W p l e rmM_bagsUpTo s m args below meth c s.heap [] 0 0 (MQ below (qP (some .int) (some (.int r))) args s 0 0 (fun _ => False)) (F0 m 4 ls []) := by
    intro n
    induction n with
    | zero => intro a1 a2 a3 ls hl hf; cases hf
    | succ n ih =>
      intro a1 a2 a3 ls hl hf
      rw [fM_bagsUpTo_4] at hf
      refine lv_iload_n hx hb dX9_bagsUpTo_4 rfl (lv_at hl 3 rfl) ?_
      refine lv_iload_n hx hb dX9_bagsUpTo_5 rfl (lv_at hl 1 rfl) ?_
      refine lv_icmp_gt (tgt := 31) hx hb dX9_bagsUpTo_6 (by decide) (fun c1 => ?_) (fun c1 => ?_)
      · have hf := ite_t hf c1
        refine lv_iload_n hx hb dX9_bagsUpTo_31 rfl (lv_at hl 2 rfl) ?_
        have hf := Option.some.inj hf
        exact e_Pi hC hr hlocks hf dX9_bagsUpTo_32
      · have hf := ite_f hf c1
        refine lv_iload_n hx hb dX9_bagsUpTo_9 rfl (lv_at hl 2 rfl) ?_
        refine lv_aload_n hx hb dX9_bagsUpTo_10 rfl (lv_at hl 0 rfl) ?_
        refine lv_iload_n hx hb dX9_bagsUpTo_11 rfl (lv_at hl 3 rfl) ?_
        obtain ⟨t2, ht2, hf⟩ := ob hf
        refine k_PVi hC LX9_115 ⟨Nat.le_of_ble_eq_true rfl, Nat.le_of_ble_eq_true rfl⟩ ⟨Nat.zero_le _, Nat.zero_le _⟩ (cM_begins l E ad q0_why q0_detail q0_reasonNow q0_detailNow q0_w q0_undos q0_savedRow q0_mind q0_changes q0_firstChange q0_isSaved q0_at q0_line q0_lineLength q0_text q0_length q0_next q0_numbers q0_sort q0_done a3 t2 ht2) rfl rfl hP rfl rfl hl.1 rfl (Nat.le_of_ble_eq_true rfl) rfl dX9_bagsUpTo_12 (fun hz12 => ?_)
        refine lv_if_eq (tgt := 22) hx hb dX9_bagsUpTo_15 (by decide) (fun c3 => ?_) (fun c3 => ?_)
        · have hf := ite_t hf c3
          refine lv_iconst (v := 0) hx hb dX9_bagsUpTo_22 (by decide) ?_
          refine lv_iadd hx hb dX9_bagsUpTo_23 ?_
          refine lv_istore_n (lv' := [(2, .int (a2 + (0 : Int32))), (0, .ref (ad 0)), (1, .int a1), (3, .int a3)]) hx hb dX9_bagsUpTo_24 rfl hl (by decide) rfl (fun ls hl => ?_)
          refine lv_iinc (v := (a3 + (1 : Int32))) (lv' := [(3, .int (a3 + (1 : Int32))), (2, .int (a2 + (0 : Int32))), (0, .ref (ad 0)), (1, .int a1)]) hx hb dX9_bagsUpTo_25 hl (k := 3) rfl rfl (by decide) rfl (fun ls hl => ?_)
          refine lv_goto (tgt := 4) hx hb dX9_bagsUpTo_28 (by decide) ?_
          exact ih a1 (a2 + (0 : Int32)) (a3 + (1 : Int32)) ls (lv_sub hl [2, 3, 1, 0] rfl) hf
        · have hf := ite_f hf c3
          refine lv_iconst (v := 1) hx hb dX9_bagsUpTo_18 (by decide) ?_
          refine lv_goto (tgt := 23) hx hb dX9_bagsUpTo_19 (by decide) ?_
          refine lv_iadd hx hb dX9_bagsUpTo_23 ?_
          refine lv_istore_n (lv' := [(2, .int (a2 + (1 : Int32))), (0, .ref (ad 0)), (1, .int a1), (3, .int a3)]) hx hb dX9_bagsUpTo_24 rfl hl (by decide) rfl (fun ls hl => ?_)
          refine lv_iinc (v := (a3 + (1 : Int32))) (lv' := [(3, .int (a3 + (1 : Int32))), (2, .int (a2 + (1 : Int32))), (0, .ref (ad 0)), (1, .int a1)]) hx hb dX9_bagsUpTo_25 hl (k := 3) rfl rfl (by decide) rfl (fun ls hl => ?_)
          refine lv_goto (tgt := 4) hx hb dX9_bagsUpTo_28 (by decide) ?_
          exact ih a1 (a2 + (1 : Int32)) (a3 + (1 : Int32)) ls (lv_sub hl [2, 3, 1, 0] rfl) hf
  rw [fM_bagsUpTo] at hf
  refine lv_iconst (v := 0) hx hb dX9_bagsUpTo_0 (by decide) ?_
  refine lv_istore_n (lv' := [(2, .int (0 : Int32)), (0, .ref (ad 0)), (1, .int a1)]) hx hb dX9_bagsUpTo_1 rfl hl (by decide) rfl (fun ls hl => ?_)
  refine lv_iconst (v := 0) hx hb dX9_bagsUpTo_2 (by decide) ?_
  refine lv_istore_n (lv' := [(3, .int (0 : Int32)), (2, .int (0 : Int32)), (0, .ref (ad 0)), (1, .int a1)]) hx hb dX9_bagsUpTo_3 rfl hl (by decide) rfl (fun ls hl => ?_)
  exact L4 FU a1 (0 : Int32) (0 : Int32) ls (lv_sub hl [2, 3, 1, 0] rfl) hf
abbrev rmM_bags : Room := { frames := 3, cells := 0, slots := 0, locals := 65 }
set_option maxHeartbeats 4000000 in
set_option maxRecDepth 100000 in
theorem cM_bags (l : Launch) (E : eE) (ad : Nat → Nat) (q0_why : Int32) (q0_detail : Int32) (q0_reasonNow : Int32) (q0_detailNow : Int32) (q0_w : (Nat → Int32)) (q0_undos : (Nat → Int32)) (q0_savedRow : (Nat → Int32)) (q0_mind : (Nat → Int32)) (q0_changes : Int32) (q0_firstChange : Int32) (q0_isSaved : Int32) (q0_at : (Nat → Int32)) (q0_line : (Nat → Int32)) (q0_lineLength : Int32) (q0_text : (Nat → Int32)) (q0_length : Int32) (q0_next : Int32) (q0_numbers : (Nat → Int32)) (q0_sort : Int32) (q0_done : Int32) (r : Int32) (hf : fM_bags q0_w = some r) : cP l E yX9_bags cX9_bags 1 (some .int) rmM_bags [.ref (ad 0)] (wM E ad q0_why q0_detail q0_reasonNow q0_detailNow q0_w q0_undos q0_savedRow q0_mind q0_changes q0_firstChange q0_isSaved q0_at q0_line q0_lineLength q0_text q0_length q0_next q0_numbers q0_sort q0_done) (some (.int r)) := by
  refine Met.ofW (cc := cX9_bags) (maxL := 1) (ret := (some .int)) (by decide) rfl ?_
  intro p e s m args below meth c s₁ B hml hv
  obtain ⟨hargs, hP, hK⟩ := hv
  have hx := B.exec
  have hb := B.bytes
  have hr := B.returns
  have hts := atoms_spec (ws := ws_ yX9_bags cX9_bags 1 (some .int)) B.pre
  have hta : ∀ w ∈ lw_all, w.before args s = true := fun w h => hts w (List.mem_cons_of_mem _ h)
  have hown : s.vm.findClass RX9 = some m.cls := findClass_of_methodNamed B.named
  have hlocks := B.notSynchronized
  have hC : Cx p s m args c cX9_bags 1 RX9 E := ⟨hx, hb, hml, hown, hta, hK⟩
  obtain ⟨ls, he, hl⟩ := entry_ (m := m) (n := 1) hargs (Nat.le_of_ble_eq_true rfl)
  rw [he]
  have hl : lv_has ls 1 [(0, .ref (ad 0))] := hl
  show W p l e rmM_bags s m args below meth c s.heap [] 0 0 (MQ below (qP (some .int) (some (.int r))) args s 0 0 (fun _ => False)) (F0 m 0 ls [])
  rw [fM_bags] at hf
  refine lv_aload_n hx hb dX9_bags_0 rfl (lv_at hl 0 rfl) ?_
  refine lv_aload_n hx hb dX9_bags_1 rfl (lv_at hl 0 rfl) ?_
  refine gX9_7 hC hP 0 rfl (v := .ref (ad 1)) rfl dX9_bags_2 ?_
  refine lv_iconst (v := 0) hx hb dX9_bags_5 (by decide) ?_
  obtain ⟨v1, hv1, hf⟩ := ob hf
  obtain ⟨hv1a, hv1b⟩ := ldA_ok hv1
  refine a_ild hC hP 1 rfl hv1a hv1b dX9_bags_6 ?_
  refine lv_iconst (v := 1) hx hb dX9_bags_7 (by decide) ?_
  refine lv_isub hx hb dX9_bags_8 ?_
  obtain ⟨t2, ht2, hf⟩ := ob hf
  refine k_PVi hC LX9_118 ⟨Nat.le_of_ble_eq_true rfl, Nat.le_of_ble_eq_true rfl⟩ ⟨Nat.zero_le _, Nat.zero_le _⟩ (cM_bagsUpTo l E ad q0_why q0_detail q0_reasonNow q0_detailNow q0_w q0_undos q0_savedRow q0_mind q0_changes q0_firstChange q0_isSaved q0_at q0_line q0_lineLength q0_text q0_length q0_next q0_numbers q0_sort q0_done (v1 - (1 : Int32)) t2 ht2) rfl rfl hP rfl rfl hl.1 rfl (Nat.le_of_ble_eq_true rfl) rfl dX9_bags_9 (fun hz9 => ?_)
  have hf := Option.some.inj hf
  exact e_Pi hC hr hlocks hf dX9_bags_12
abbrev rmM_beginOf : Room := { frames := 3, cells := 0, slots := 0, locals := 65 }
set_option maxHeartbeats 4000000 in
set_option maxRecDepth 100000 in
theorem cM_beginOf (l : Launch) (E : eE) (ad : Nat → Nat) (q0_why : Int32) (q0_detail : Int32) (q0_reasonNow : Int32) (q0_detailNow : Int32) (q0_w : (Nat → Int32)) (q0_undos : (Nat → Int32)) (q0_savedRow : (Nat → Int32)) (q0_mind : (Nat → Int32)) (q0_changes : Int32) (q0_firstChange : Int32) (q0_isSaved : Int32) (q0_at : (Nat → Int32)) (q0_line : (Nat → Int32)) (q0_lineLength : Int32) (q0_text : (Nat → Int32)) (q0_length : Int32) (q0_next : Int32) (q0_numbers : (Nat → Int32)) (q0_sort : Int32) (q0_done : Int32) (a1 : Int32) (r : Int32) (hf : fM_beginOf q0_w a1 = some r) : cP l E yX9_beginOf cX9_beginOf 3 (some .int) rmM_beginOf [.ref (ad 0), .int a1] (wM E ad q0_why q0_detail q0_reasonNow q0_detailNow q0_w q0_undos q0_savedRow q0_mind q0_changes q0_firstChange q0_isSaved q0_at q0_line q0_lineLength q0_text q0_length q0_next q0_numbers q0_sort q0_done) (some (.int r)) := by
  refine Met.ofW (cc := cX9_beginOf) (maxL := 3) (ret := (some .int)) (by decide) rfl ?_
  intro p e s m args below meth c s₁ B hml hv
  obtain ⟨hargs, hP, hK⟩ := hv
  have hx := B.exec
  have hb := B.bytes
  have hr := B.returns
  have hts := atoms_spec (ws := ws_ yX9_beginOf cX9_beginOf 3 (some .int)) B.pre
  have hta : ∀ w ∈ lw_all, w.before args s = true := fun w h => hts w (List.mem_cons_of_mem _ h)
  have hown : s.vm.findClass RX9 = some m.cls := findClass_of_methodNamed B.named
  have hlocks := B.notSynchronized
  have hC : Cx p s m args c cX9_beginOf 3 RX9 E := ⟨hx, hb, hml, hown, hta, hK⟩
  obtain ⟨ls, he, hl⟩ := entry_ (m := m) (n := 3) hargs (Nat.le_of_ble_eq_true rfl)
  rw [he]
  have hl : lv_has ls 3 [(0, .ref (ad 0)), (1, .int a1)] := hl
  show W p l e rmM_beginOf s m args below meth c s.heap [] 0 0 (MQ below (qP (some .int) (some (.int r))) args s 0 0 (fun _ => False)) (F0 m 0 ls [])
  have L2 : ∀ (n : Nat) (a1 : Int32) (a2 : Int32) (ls : Array Slot), lv_has ls 3 [(0, .ref (ad 0)), (1, .int a1), (2, .int a2)] → fM_beginOf_2 n q0_w a1 a2 = some r → W p l e rmM_beginOf s m args below meth c s.heap [] 0 0 (MQ below (qP (some .int) (some (.int r))) args s 0 0 (fun _ => False)) (F0 m 2 ls []) := by
    intro n
    induction n with
    | zero => intro a1 a2 ls hl hf; cases hf
    | succ n ih =>
      intro a1 a2 ls hl hf
      rw [fM_beginOf_2] at hf
      refine lv_iload_n hx hb dX9_beginOf_2 rfl (lv_at hl 2 rfl) ?_
      refine lv_aload_n hx hb dX9_beginOf_3 rfl (lv_at hl 0 rfl) ?_
      refine gX9_7 hC hP 0 rfl (v := .ref (ad 1)) rfl dX9_beginOf_4 ?_
      refine lv_iconst (v := 0) hx hb dX9_beginOf_7 (by decide) ?_
      obtain ⟨v1, hv1, hf⟩ := ob hf
      obtain ⟨hv1a, hv1b⟩ := ldA_ok hv1
      refine a_ild hC hP 1 rfl hv1a hv1b dX9_beginOf_8 ?_
      refine lv_icmp_ge (tgt := 27) hx hb dX9_beginOf_9 (by decide) (fun c2 => ?_) (fun c2 => ?_)
      · have hf := ite_t hf c2
        refine lv_iload_n hx hb dX9_beginOf_27 rfl (lv_at hl 2 rfl) ?_
        have hf := Option.some.inj hf
        exact e_Pi hC hr hlocks hf dX9_beginOf_28
      · have hf := ite_f hf c2
        refine lv_aload_n hx hb dX9_beginOf_12 rfl (lv_at hl 0 rfl) ?_
        refine lv_iload_n hx hb dX9_beginOf_13 rfl (lv_at hl 2 rfl) ?_
        obtain ⟨t3, ht3, hf⟩ := ob hf
        refine k_PVi hC LX9_118 ⟨Nat.le_of_ble_eq_true rfl, Nat.le_of_ble_eq_true rfl⟩ ⟨Nat.zero_le _, Nat.zero_le _⟩ (cM_bagsUpTo l E ad q0_why q0_detail q0_reasonNow q0_detailNow q0_w q0_undos q0_savedRow q0_mind q0_changes q0_firstChange q0_isSaved q0_at q0_line q0_lineLength q0_text q0_length q0_next q0_numbers q0_sort q0_done a2 t3 ht3) rfl rfl hP rfl rfl hl.1 rfl (Nat.le_of_ble_eq_true rfl) rfl dX9_beginOf_14 (fun hz14 => ?_)
        refine lv_iload_n hx hb dX9_beginOf_17 rfl (lv_at hl 1 rfl) ?_
        refine lv_icmp_gt (tgt := 27) hx hb dX9_beginOf_18 (by decide) (fun c4 => ?_) (fun c4 => ?_)
        · have hf := ite_t hf c4
          refine lv_iload_n hx hb dX9_beginOf_27 rfl (lv_at hl 2 rfl) ?_
          have hf := Option.some.inj hf
          exact e_Pi hC hr hlocks hf dX9_beginOf_28
        · have hf := ite_f hf c4
          refine lv_iinc (v := (a2 + (1 : Int32))) (lv' := [(2, .int (a2 + (1 : Int32))), (0, .ref (ad 0)), (1, .int a1)]) hx hb dX9_beginOf_21 hl (k := 2) rfl rfl (by decide) rfl (fun ls hl => ?_)
          refine lv_goto (tgt := 2) hx hb dX9_beginOf_24 (by decide) ?_
          exact ih a1 (a2 + (1 : Int32)) ls (lv_sub hl [1, 2, 0] rfl) hf
  rw [fM_beginOf] at hf
  refine lv_iconst (v := 0) hx hb dX9_beginOf_0 (by decide) ?_
  refine lv_istore_n (lv' := [(2, .int (0 : Int32)), (0, .ref (ad 0)), (1, .int a1)]) hx hb dX9_beginOf_1 rfl hl (by decide) rfl (fun ls hl => ?_)
  exact L2 FU a1 (0 : Int32) ls (lv_sub hl [1, 2, 0] rfl) hf
abbrev rmM_findsRows : Room := { frames := 1, cells := 0, slots := 0, locals := 21 }
set_option maxHeartbeats 4000000 in
set_option maxRecDepth 100000 in
theorem cM_findsRows (l : Launch) (E : eE) (ad : Nat → Nat) (q0_why : Int32) (q0_detail : Int32) (q0_reasonNow : Int32) (q0_detailNow : Int32) (q0_w : (Nat → Int32)) (q0_undos : (Nat → Int32)) (q0_savedRow : (Nat → Int32)) (q0_mind : (Nat → Int32)) (q0_changes : Int32) (q0_firstChange : Int32) (q0_isSaved : Int32) (q0_at : (Nat → Int32)) (q0_line : (Nat → Int32)) (q0_lineLength : Int32) (q0_text : (Nat → Int32)) (q0_length : Int32) (q0_next : Int32) (q0_numbers : (Nat → Int32)) (q0_sort : Int32) (q0_done : Int32) (t : (Nat → Int32)) (hf : fM_findsRows q0_w q0_at = some t) : cW l E yX9_findsRows cX9_findsRows 7 none rmM_findsRows [.ref (ad 0)] (wM E ad q0_why q0_detail q0_reasonNow q0_detailNow q0_w q0_undos q0_savedRow q0_mind q0_changes q0_firstChange q0_isSaved q0_at q0_line q0_lineLength q0_text q0_length q0_next q0_numbers q0_sort q0_done) none (wM E ad q0_why q0_detail q0_reasonNow q0_detailNow q0_w q0_undos q0_savedRow q0_mind q0_changes q0_firstChange q0_isSaved t q0_line q0_lineLength q0_text q0_length q0_next q0_numbers q0_sort q0_done) := by
  refine Met.ofW (cc := cX9_findsRows) (maxL := 7) (ret := none) (by decide) rfl ?_
  intro p e s m args below meth c s₁ B hml hv
  obtain ⟨hargs, hP, hK, hD0⟩ := hv
  have hx := B.exec
  have hb := B.bytes
  have hr := B.returns
  have hts := atoms_spec (ws := ws_ yX9_findsRows cX9_findsRows 7 none) B.pre
  have hta : ∀ w ∈ lw_all, w.before args s = true := fun w h => hts w (List.mem_cons_of_mem _ h)
  have hown : s.vm.findClass RX9 = some m.cls := findClass_of_methodNamed B.named
  have hlocks := B.notSynchronized
  have hC : Cx p s m args c cX9_findsRows 7 RX9 E := ⟨hx, hb, hml, hown, hta, hK⟩
  have hH : Hp E (adr (wM E ad q0_why q0_detail q0_reasonNow q0_detailNow q0_w q0_undos q0_savedRow q0_mind q0_changes q0_firstChange q0_isSaved q0_at q0_line q0_lineLength q0_text q0_length q0_next q0_numbers q0_sort q0_done)) (wM E ad q0_why q0_detail q0_reasonNow q0_detailNow q0_w q0_undos q0_savedRow q0_mind q0_changes q0_firstChange q0_isSaved q0_at q0_line q0_lineLength q0_text q0_length q0_next q0_numbers q0_sort q0_done) s.heap s.heap [] := Hp.start hP hD0
  obtain ⟨ls, he, hl⟩ := entry_ (m := m) (n := 7) hargs (Nat.le_of_ble_eq_true rfl)
  rw [he]
  have hl : lv_has ls 7 [(0, .ref (ad 0))] := hl
  show W p l e rmM_findsRows s m args below meth c s.heap [] 0 0 (MQ below (qW E none none (wM E ad q0_why q0_detail q0_reasonNow q0_detailNow q0_w q0_undos q0_savedRow q0_mind q0_changes q0_firstChange q0_isSaved q0_at q0_line q0_lineLength q0_text q0_length q0_next q0_numbers q0_sort q0_done) (wM E ad q0_why q0_detail q0_reasonNow q0_detailNow q0_w q0_undos q0_savedRow q0_mind q0_changes q0_firstChange q0_isSaved t q0_line q0_lineLength q0_text q0_length q0_next q0_numbers q0_sort q0_done)) args s 0 0 (adr (wM E ad q0_why q0_detail q0_reasonNow q0_detailNow q0_w q0_undos q0_savedRow q0_mind q0_changes q0_firstChange q0_isSaved q0_at q0_line q0_lineLength q0_text q0_length q0_next q0_numbers q0_sort q0_done))) (F0 m 0 ls [])
  suffices hmain : ∀ (H : Heap) (locs : List Loc), Hp E (adr (wM E ad q0_why q0_detail q0_reasonNow q0_detailNow q0_w q0_undos q0_savedRow q0_mind q0_changes q0_firstChange q0_isSaved q0_at q0_line q0_lineLength q0_text q0_length q0_next q0_numbers q0_sort q0_done)) (wM E ad q0_why q0_detail q0_reasonNow q0_detailNow q0_w q0_undos q0_savedRow q0_mind q0_changes q0_firstChange q0_isSaved q0_at q0_line q0_lineLength q0_text q0_length q0_next q0_numbers q0_sort q0_done) s.heap H locs → W p l e rmM_findsRows s m args below meth c H locs 0 0 (MQ below (qW E none none (wM E ad q0_why q0_detail q0_reasonNow q0_detailNow q0_w q0_undos q0_savedRow q0_mind q0_changes q0_firstChange q0_isSaved q0_at q0_line q0_lineLength q0_text q0_length q0_next q0_numbers q0_sort q0_done) (wM E ad q0_why q0_detail q0_reasonNow q0_detailNow q0_w q0_undos q0_savedRow q0_mind q0_changes q0_firstChange q0_isSaved t q0_line q0_lineLength q0_text q0_length q0_next q0_numbers q0_sort q0_done)) args s 0 0 (adr (wM E ad q0_why q0_detail q0_reasonNow q0_detailNow q0_w q0_undos q0_savedRow q0_mind q0_changes q0_firstChange q0_isSaved q0_at q0_line q0_lineLength q0_text q0_length q0_next q0_numbers q0_sort q0_done))) (F0 m 0 ls []) from hmain _ _ hH
  clear hH
  have L51 : ∀ (n : Nat) (y0_11 : (Nat → Int32)) (a1 : Int32) (a2 : Int32) (a3 : Int32) (a4 : Int32) (a5 : Int32) (ls : Array Slot), lv_has ls 7 [(0, .ref (ad 0)), (1, .int a1), (2, .int a2), (3, .int a3), (4, .int a4), (5, .int a5)] → ∀ (H : Heap) (locs : List Loc), Hp E (adr (wM E ad q0_why q0_detail q0_reasonNow q0_detailNow q0_w q0_undos q0_savedRow q0_mind q0_changes q0_firstChange q0_isSaved q0_at q0_line q0_lineLength q0_text q0_length q0_next q0_numbers q0_sort q0_done)) (wM E ad q0_why q0_detail q0_reasonNow q0_detailNow q0_w q0_undos q0_savedRow q0_mind q0_changes q0_firstChange q0_isSaved y0_11 q0_line q0_lineLength q0_text q0_length q0_next q0_numbers q0_sort q0_done) s.heap H locs → ∀ (o : Int32 × (Nat → Int32)), fM_findsRows_51 n q0_w y0_11 a1 a2 a3 a4 a5 = some o → (∀ (ls : Array Slot), lv_has ls 7 [(0, .ref (ad 0)), (1, .int a1), (2, .int a2), (3, .int o.1), (4, .int a4)] → ∀ (H : Heap) (locs : List Loc), Hp E (adr (wM E ad q0_why q0_detail q0_reasonNow q0_detailNow q0_w q0_undos q0_savedRow q0_mind q0_changes q0_firstChange q0_isSaved q0_at q0_line q0_lineLength q0_text q0_length q0_next q0_numbers q0_sort q0_done)) (wM E ad q0_why q0_detail q0_reasonNow q0_detailNow q0_w q0_undos q0_savedRow q0_mind q0_changes q0_firstChange q0_isSaved o.2 q0_line q0_lineLength q0_text q0_length q0_next q0_numbers q0_sort q0_done) s.heap H locs → W p l e rmM_findsRows s m args below meth c H locs 0 0 (MQ below (qW E none none (wM E ad q0_why q0_detail q0_reasonNow q0_detailNow q0_w q0_undos q0_savedRow q0_mind q0_changes q0_firstChange q0_isSaved q0_at q0_line q0_lineLength q0_text q0_length q0_next q0_numbers q0_sort q0_done) (wM E ad q0_why q0_detail q0_reasonNow q0_detailNow q0_w q0_undos q0_savedRow q0_mind q0_changes q0_firstChange q0_isSaved t q0_line q0_lineLength q0_text q0_length q0_next q0_numbers q0_sort q0_done)) args s 0 0 (adr (wM E ad q0_why q0_detail q0_reasonNow q0_detailNow q0_w q0_undos q0_savedRow q0_mind q0_changes q0_firstChange q0_isSaved q0_at q0_line q0_lineLength q0_text q0_length q0_next q0_numbers q0_sort q0_done))) (F0 m 110 ls [])) → W p l e rmM_findsRows s m args below meth c H locs 0 0 (MQ below (qW E none none (wM E ad q0_why q0_detail q0_reasonNow q0_detailNow q0_w q0_undos q0_savedRow q0_mind q0_changes q0_firstChange q0_isSaved q0_at q0_line q0_lineLength q0_text q0_length q0_next q0_numbers q0_sort q0_done) (wM E ad q0_why q0_detail q0_reasonNow q0_detailNow q0_w q0_undos q0_savedRow q0_mind q0_changes q0_firstChange q0_isSaved t q0_line q0_lineLength q0_text q0_length q0_next q0_numbers q0_sort q0_done)) args s 0 0 (adr (wM E ad q0_why q0_detail q0_reasonNow q0_detailNow q0_w q0_undos q0_savedRow q0_mind q0_changes q0_firstChange q0_isSaved q0_at q0_line q0_lineLength q0_text q0_length q0_next q0_numbers q0_sort q0_done))) (F0 m 51 ls []) := by
    intro n
    induction n with
    | zero => intro y0_11 a1 a2 a3 a4 a5 ls hl H locs hH o hf hk; cases hf
    | succ n ih =>
      intro y0_11 a1 a2 a3 a4 a5 ls hl H locs hH o hf hk
      rw [fM_findsRows_51] at hf
      refine lv_iload hx hb dX9_findsRows_51 (lv_at hl 5 rfl) ?_
      refine lv_iload_n hx hb dX9_findsRows_53 rfl (lv_at hl 1 rfl) ?_
      refine lv_icmp_ge (tgt := 110) hx hb dX9_findsRows_54 (by decide) (fun c5 => ?_) (fun c5 => ?_)
      · have hf := ite_t hf c5
        cases hf
        exact hk ls (lv_sub hl [0, 1, 2, 3, 4] rfl) _ _ hH
      · have hf := ite_f hf c5
        refine lv_aload_n hx hb dX9_findsRows_57 rfl (lv_at hl 0 rfl) ?_
        refine gX9_22 hC hH.1 0 rfl (v := .ref (ad 5)) rfl dX9_findsRows_58 ?_
        refine lv_bipush (v := 64) hx hb dX9_findsRows_61 (by decide) ?_
        refine lv_iload_n hx hb dX9_findsRows_63 rfl (lv_at hl 2 rfl) ?_
        refine lv_iconst (v := 1) hx hb dX9_findsRows_64 (by decide) ?_
        refine lv_isub hx hb dX9_findsRows_65 ?_
        refine lv_imul hx hb dX9_findsRows_66 ?_
        refine lv_iload hx hb dX9_findsRows_67 (lv_at hl 5 rfl) ?_
        refine lv_iadd hx hb dX9_findsRows_69 ?_
        obtain ⟨v6, hv6, hf⟩ := ob hf
        obtain ⟨hv6a, hv6b⟩ := ldA_ok hv6
        refine a_ild hC hH.1 5 rfl hv6a hv6b dX9_findsRows_70 ?_
        refine lv_istore (lv' := [(6, .int v6), (0, .ref (ad 0)), (1, .int a1), (2, .int a2), (3, .int a3), (4, .int a4), (5, .int a5)]) hx hb dX9_findsRows_71 hl (by decide) rfl (fun ls hl => ?_)
        refine lv_aload_n hx hb dX9_findsRows_73 rfl (lv_at hl 1 rfl) ?_
        refine lv_iload hx hb dX9_findsRows_74 (lv_at hl 0 rfl) ?_
        obtain ⟨t7, ht7, hf⟩ := ob hf
        refine k_PVi hC LX9_86 ⟨Nat.le_of_ble_eq_true rfl, Nat.le_of_ble_eq_true rfl⟩ ⟨Nat.zero_le _, Nat.zero_le _⟩ (cM_is l E ad q0_why q0_detail q0_reasonNow q0_detailNow q0_w q0_undos q0_savedRow q0_mind q0_changes q0_firstChange q0_isSaved y0_11 q0_line q0_lineLength q0_text q0_length q0_next q0_numbers q0_sort q0_done v6 t7 ht7) rfl rfl hH.1 rfl rfl hl.1 rfl (Nat.le_of_ble_eq_true rfl) rfl dX9_findsRows_76 (fun hz76 => ?_)
        refine lv_iload_n hx hb dX9_findsRows_79 rfl (lv_at hl 3 rfl) ?_
        refine lv_iconst (v := 1) hx hb dX9_findsRows_80 (by decide) ?_
        refine lv_isub hx hb dX9_findsRows_81 ?_
        refine k_PSi hC LX9_121 ⟨Nat.le_of_ble_eq_true rfl, Nat.le_of_ble_eq_true rfl⟩ ⟨Nat.zero_le _, Nat.zero_le _⟩ (cM_bitOf l E t7 (a2 - (1 : Int32)) _ rfl) rfl rfl (vP_nil) hl.1 rfl (Nat.le_of_ble_eq_true rfl) rfl dX9_findsRows_82 (fun hz82 => ?_)
        refine lv_iload hx hb dX9_findsRows_85 (lv_at hl 5 rfl) ?_
        refine lv_icmp_eq (tgt := 93) hx hb dX9_findsRows_87 (by decide) (fun c8 => ?_) (fun c8 => ?_)
        · have hf := ite_t hf c8
          refine lv_aload_n hx hb dX9_findsRows_93 rfl (lv_at hl 1 rfl) ?_
          refine gX9_22 hC hH.1 0 rfl (v := .ref (ad 5)) rfl dX9_findsRows_94 ?_
          refine lv_iload_n hx hb dX9_findsRows_97 rfl (lv_at hl 4 rfl) ?_
          refine lv_iload hx hb dX9_findsRows_98 (lv_at hl 0 rfl) ?_
          obtain ⟨g9, hg9, hf⟩ := ob hf
          obtain ⟨hg9a, hg9b⟩ := stA_ok hg9
          refine a_ist hC hH 5 rfl hg9a hg9b (W1 := wM E ad q0_why q0_detail q0_reasonNow q0_detailNow q0_w q0_undos q0_savedRow q0_mind q0_changes q0_firstChange q0_isSaved g9 q0_line q0_lineLength q0_text q0_length q0_next q0_numbers q0_sort q0_done) rfl dX9_findsRows_100 (fun H locs hH => ?_)
          refine lv_iinc (v := (a3 + (1 : Int32))) (lv' := [(3, .int (a3 + (1 : Int32))), (6, .int v6), (0, .ref (ad 0)), (1, .int a1), (2, .int a2), (4, .int a4), (5, .int a5)]) hx hb dX9_findsRows_101 hl (k := 4) rfl rfl (by decide) rfl (fun ls hl => ?_)
          refine lv_iinc (v := (a5 + (1 : Int32))) (lv' := [(5, .int (a5 + (1 : Int32))), (3, .int (a3 + (1 : Int32))), (6, .int v6), (0, .ref (ad 0)), (1, .int a1), (2, .int a2), (4, .int a4)]) hx hb dX9_findsRows_104 hl (k := 6) rfl rfl (by decide) rfl (fun ls hl => ?_)
          refine lv_goto (tgt := 51) hx hb dX9_findsRows_107 (by decide) ?_
          exact ih g9 a1 a2 (a3 + (1 : Int32)) a4 (a5 + (1 : Int32)) ls (lv_sub hl [3, 4, 5, 1, 6, 0] rfl) _ _ hH _ hf hk
        · have hf := ite_f hf c8
          refine lv_goto (tgt := 104) hx hb dX9_findsRows_90 (by decide) ?_
          refine lv_iinc (v := (a5 + (1 : Int32))) (lv' := [(5, .int (a5 + (1 : Int32))), (6, .int v6), (0, .ref (ad 0)), (1, .int a1), (2, .int a2), (3, .int a3), (4, .int a4)]) hx hb dX9_findsRows_104 hl (k := 6) rfl rfl (by decide) rfl (fun ls hl => ?_)
          refine lv_goto (tgt := 51) hx hb dX9_findsRows_107 (by decide) ?_
          exact ih y0_11 a1 a2 a3 a4 (a5 + (1 : Int32)) ls (lv_sub hl [2, 3, 4, 5, 6, 0] rfl) _ _ hH _ hf hk
  have L42 : ∀ (n : Nat) (y0_11 : (Nat → Int32)) (a1 : Int32) (a2 : Int32) (a3 : Int32) (a4 : Int32) (ls : Array Slot), lv_has ls 7 [(0, .ref (ad 0)), (1, .int a1), (2, .int a2), (3, .int a3), (4, .int a4)] → ∀ (H : Heap) (locs : List Loc), Hp E (adr (wM E ad q0_why q0_detail q0_reasonNow q0_detailNow q0_w q0_undos q0_savedRow q0_mind q0_changes q0_firstChange q0_isSaved q0_at q0_line q0_lineLength q0_text q0_length q0_next q0_numbers q0_sort q0_done)) (wM E ad q0_why q0_detail q0_reasonNow q0_detailNow q0_w q0_undos q0_savedRow q0_mind q0_changes q0_firstChange q0_isSaved y0_11 q0_line q0_lineLength q0_text q0_length q0_next q0_numbers q0_sort q0_done) s.heap H locs → ∀ (o : (Nat → Int32)), fM_findsRows_42 n q0_w y0_11 a1 a2 a3 a4 = some o → (∀ (ls : Array Slot), lv_has ls 7 [(0, .ref (ad 0)), (1, .int a1), (2, .int a2)] → ∀ (H : Heap) (locs : List Loc), Hp E (adr (wM E ad q0_why q0_detail q0_reasonNow q0_detailNow q0_w q0_undos q0_savedRow q0_mind q0_changes q0_firstChange q0_isSaved q0_at q0_line q0_lineLength q0_text q0_length q0_next q0_numbers q0_sort q0_done)) (wM E ad q0_why q0_detail q0_reasonNow q0_detailNow q0_w q0_undos q0_savedRow q0_mind q0_changes q0_firstChange q0_isSaved o q0_line q0_lineLength q0_text q0_length q0_next q0_numbers q0_sort q0_done) s.heap H locs → W p l e rmM_findsRows s m args below meth c H locs 0 0 (MQ below (qW E none none (wM E ad q0_why q0_detail q0_reasonNow q0_detailNow q0_w q0_undos q0_savedRow q0_mind q0_changes q0_firstChange q0_isSaved q0_at q0_line q0_lineLength q0_text q0_length q0_next q0_numbers q0_sort q0_done) (wM E ad q0_why q0_detail q0_reasonNow q0_detailNow q0_w q0_undos q0_savedRow q0_mind q0_changes q0_firstChange q0_isSaved t q0_line q0_lineLength q0_text q0_length q0_next q0_numbers q0_sort q0_done)) args s 0 0 (adr (wM E ad q0_why q0_detail q0_reasonNow q0_detailNow q0_w q0_undos q0_savedRow q0_mind q0_changes q0_firstChange q0_isSaved q0_at q0_line q0_lineLength q0_text q0_length q0_next q0_numbers q0_sort q0_done))) (F0 m 116 ls [])) → W p l e rmM_findsRows s m args below meth c H locs 0 0 (MQ below (qW E none none (wM E ad q0_why q0_detail q0_reasonNow q0_detailNow q0_w q0_undos q0_savedRow q0_mind q0_changes q0_firstChange q0_isSaved q0_at q0_line q0_lineLength q0_text q0_length q0_next q0_numbers q0_sort q0_done) (wM E ad q0_why q0_detail q0_reasonNow q0_detailNow q0_w q0_undos q0_savedRow q0_mind q0_changes q0_firstChange q0_isSaved t q0_line q0_lineLength q0_text q0_length q0_next q0_numbers q0_sort q0_done)) args s 0 0 (adr (wM E ad q0_why q0_detail q0_reasonNow q0_detailNow q0_w q0_undos q0_savedRow q0_mind q0_changes q0_firstChange q0_isSaved q0_at q0_line q0_lineLength q0_text q0_length q0_next q0_numbers q0_sort q0_done))) (F0 m 42 ls []) := by
    intro n
    induction n with
    | zero => intro y0_11 a1 a2 a3 a4 ls hl H locs hH o hf hk; cases hf
    | succ n ih =>
      intro y0_11 a1 a2 a3 a4 ls hl H locs hH o hf hk
      rw [fM_findsRows_42] at hf
      refine lv_iload hx hb dX9_findsRows_42 (lv_at hl 4 rfl) ?_
      refine lv_iconst (v := 2) hx hb dX9_findsRows_44 (by decide) ?_
      refine lv_icmp_ge (tgt := 116) hx hb dX9_findsRows_45 (by decide) (fun c4 => ?_) (fun c4 => ?_)
      · have hf := ite_t hf c4
        cases hf
        exact hk ls (lv_sub hl [0, 1, 2] rfl) _ _ hH
      · have hf := ite_f hf c4
        refine lv_iconst (v := 0) hx hb dX9_findsRows_48 (by decide) ?_
        refine lv_istore (lv' := [(5, .int (0 : Int32)), (0, .ref (ad 0)), (1, .int a1), (2, .int a2), (3, .int a3), (4, .int a4)]) hx hb dX9_findsRows_49 hl (by decide) rfl (fun ls hl => ?_)
        obtain ⟨o10, ho10, hf⟩ := ob hf
        refine L51 FU y0_11 a1 a2 a3 a4 (0 : Int32) ls (lv_sub hl [1, 2, 3, 4, 5, 0] rfl) _ _ hH o10 ho10 (fun ls hl H locs hH => ?_)
        refine lv_iinc (v := (a4 + (1 : Int32))) (lv' := [(4, .int (a4 + (1 : Int32))), (0, .ref (ad 0)), (1, .int a1), (2, .int a2), (3, .int o10.1)]) hx hb dX9_findsRows_110 hl (k := 4) rfl rfl (by decide) rfl (fun ls hl => ?_)
        refine lv_goto (tgt := 42) hx hb dX9_findsRows_113 (by decide) ?_
        exact ih o10.2 a1 a2 o10.1 (a4 + (1 : Int32)) ls (lv_sub hl [1, 2, 3, 4, 0] rfl) _ _ hH _ hf hk
  have L29 : ∀ (n : Nat) (y0_11 : (Nat → Int32)) (a1 : Int32) (a2 : Int32) (ls : Array Slot), lv_has ls 7 [(0, .ref (ad 0)), (1, .int a1), (2, .int a2)] → ∀ (H : Heap) (locs : List Loc), Hp E (adr (wM E ad q0_why q0_detail q0_reasonNow q0_detailNow q0_w q0_undos q0_savedRow q0_mind q0_changes q0_firstChange q0_isSaved q0_at q0_line q0_lineLength q0_text q0_length q0_next q0_numbers q0_sort q0_done)) (wM E ad q0_why q0_detail q0_reasonNow q0_detailNow q0_w q0_undos q0_savedRow q0_mind q0_changes q0_firstChange q0_isSaved y0_11 q0_line q0_lineLength q0_text q0_length q0_next q0_numbers q0_sort q0_done) s.heap H locs → fM_findsRows_29 n q0_w y0_11 a1 a2 = some t → W p l e rmM_findsRows s m args below meth c H locs 0 0 (MQ below (qW E none none (wM E ad q0_why q0_detail q0_reasonNow q0_detailNow q0_w q0_undos q0_savedRow q0_mind q0_changes q0_firstChange q0_isSaved q0_at q0_line q0_lineLength q0_text q0_length q0_next q0_numbers q0_sort q0_done) (wM E ad q0_why q0_detail q0_reasonNow q0_detailNow q0_w q0_undos q0_savedRow q0_mind q0_changes q0_firstChange q0_isSaved t q0_line q0_lineLength q0_text q0_length q0_next q0_numbers q0_sort q0_done)) args s 0 0 (adr (wM E ad q0_why q0_detail q0_reasonNow q0_detailNow q0_w q0_undos q0_savedRow q0_mind q0_changes q0_firstChange q0_isSaved q0_at q0_line q0_lineLength q0_text q0_length q0_next q0_numbers q0_sort q0_done))) (F0 m 29 ls []) := by
    intro n
    induction n with
    | zero => intro y0_11 a1 a2 ls hl H locs hH hf; cases hf
    | succ n ih =>
      intro y0_11 a1 a2 ls hl H locs hH hf
      rw [fM_findsRows_29] at hf
      refine lv_iload_n hx hb dX9_findsRows_29 rfl (lv_at hl 2 rfl) ?_
      refine lv_iconst (v := 5) hx hb dX9_findsRows_30 (by decide) ?_
      refine lv_icmp_ge (tgt := 122) hx hb dX9_findsRows_31 (by decide) (fun c3 => ?_) (fun c3 => ?_)
      · have hf := ite_t hf c3
        have hf := Option.some.inj hf
        subst hf
        exact e_Wv hC hH hr hlocks rfl dX9_findsRows_122
      · have hf := ite_f hf c3
        refine lv_bipush (v := 64) hx hb dX9_findsRows_34 (by decide) ?_
        refine lv_iload_n hx hb dX9_findsRows_36 rfl (lv_at hl 2 rfl) ?_
        refine lv_imul hx hb dX9_findsRows_37 ?_
        refine lv_istore_n (lv' := [(3, .int ((64 : Int32) * a2)), (0, .ref (ad 0)), (1, .int a1), (2, .int a2)]) hx hb dX9_findsRows_38 rfl hl (by decide) rfl (fun ls hl => ?_)
        refine lv_iconst (v := 0) hx hb dX9_findsRows_39 (by decide) ?_
        refine lv_istore (lv' := [(4, .int (0 : Int32)), (3, .int ((64 : Int32) * a2)), (0, .ref (ad 0)), (1, .int a1), (2, .int a2)]) hx hb dX9_findsRows_40 hl (by decide) rfl (fun ls hl => ?_)
        obtain ⟨o11, ho11, hf⟩ := ob hf
        refine L42 FU y0_11 a1 a2 ((64 : Int32) * a2) (0 : Int32) ls (lv_sub hl [2, 3, 4, 1, 0] rfl) _ _ hH o11 ho11 (fun ls hl H locs hH => ?_)
        refine lv_iinc (v := (a2 + (1 : Int32))) (lv' := [(2, .int (a2 + (1 : Int32))), (0, .ref (ad 0)), (1, .int a1)]) hx hb dX9_findsRows_116 hl (k := 2) rfl rfl (by decide) rfl (fun ls hl => ?_)
        refine lv_goto (tgt := 29) hx hb dX9_findsRows_119 (by decide) ?_
        exact ih o11 a1 (a2 + (1 : Int32)) ls (lv_sub hl [1, 2, 0] rfl) _ _ hH hf
  have L9 : ∀ (n : Nat) (y0_11 : (Nat → Int32)) (a1 : Int32) (a2 : Int32) (ls : Array Slot), lv_has ls 7 [(0, .ref (ad 0)), (1, .int a1), (2, .int a2)] → ∀ (H : Heap) (locs : List Loc), Hp E (adr (wM E ad q0_why q0_detail q0_reasonNow q0_detailNow q0_w q0_undos q0_savedRow q0_mind q0_changes q0_firstChange q0_isSaved q0_at q0_line q0_lineLength q0_text q0_length q0_next q0_numbers q0_sort q0_done)) (wM E ad q0_why q0_detail q0_reasonNow q0_detailNow q0_w q0_undos q0_savedRow q0_mind q0_changes q0_firstChange q0_isSaved y0_11 q0_line q0_lineLength q0_text q0_length q0_next q0_numbers q0_sort q0_done) s.heap H locs → fM_findsRows_9 n q0_w y0_11 a1 a2 = some t → W p l e rmM_findsRows s m args below meth c H locs 0 0 (MQ below (qW E none none (wM E ad q0_why q0_detail q0_reasonNow q0_detailNow q0_w q0_undos q0_savedRow q0_mind q0_changes q0_firstChange q0_isSaved q0_at q0_line q0_lineLength q0_text q0_length q0_next q0_numbers q0_sort q0_done) (wM E ad q0_why q0_detail q0_reasonNow q0_detailNow q0_w q0_undos q0_savedRow q0_mind q0_changes q0_firstChange q0_isSaved t q0_line q0_lineLength q0_text q0_length q0_next q0_numbers q0_sort q0_done)) args s 0 0 (adr (wM E ad q0_why q0_detail q0_reasonNow q0_detailNow q0_w q0_undos q0_savedRow q0_mind q0_changes q0_firstChange q0_isSaved q0_at q0_line q0_lineLength q0_text q0_length q0_next q0_numbers q0_sort q0_done))) (F0 m 9 ls []) := by
    intro n
    induction n with
    | zero => intro y0_11 a1 a2 ls hl H locs hH hf; cases hf
    | succ n ih =>
      intro y0_11 a1 a2 ls hl H locs hH hf
      rw [fM_findsRows_9] at hf
      refine lv_iload_n hx hb dX9_findsRows_9 rfl (lv_at hl 2 rfl) ?_
      refine lv_iload_n hx hb dX9_findsRows_10 rfl (lv_at hl 1 rfl) ?_
      refine lv_icmp_ge (tgt := 27) hx hb dX9_findsRows_11 (by decide) (fun c2 => ?_) (fun c2 => ?_)
      · have hf := ite_t hf c2
        refine lv_iconst (v := 1) hx hb dX9_findsRows_27 (by decide) ?_
        refine lv_istore_n (lv' := [(2, .int (1 : Int32)), (0, .ref (ad 0)), (1, .int a1)]) hx hb dX9_findsRows_28 rfl hl (by decide) rfl (fun ls hl => ?_)
        exact L29 FU y0_11 a1 (1 : Int32) ls (lv_sub hl [1, 2, 0] rfl) _ _ hH hf
      · have hf := ite_f hf c2
        refine lv_aload_n hx hb dX9_findsRows_14 rfl (lv_at hl 0 rfl) ?_
        refine gX9_22 hC hH.1 0 rfl (v := .ref (ad 5)) rfl dX9_findsRows_15 ?_
        refine lv_iload_n hx hb dX9_findsRows_18 rfl (lv_at hl 2 rfl) ?_
        refine lv_iload_n hx hb dX9_findsRows_19 rfl (lv_at hl 2 rfl) ?_
        obtain ⟨g12, hg12, hf⟩ := ob hf
        obtain ⟨hg12a, hg12b⟩ := stA_ok hg12
        refine a_ist hC hH 5 rfl hg12a hg12b (W1 := wM E ad q0_why q0_detail q0_reasonNow q0_detailNow q0_w q0_undos q0_savedRow q0_mind q0_changes q0_firstChange q0_isSaved g12 q0_line q0_lineLength q0_text q0_length q0_next q0_numbers q0_sort q0_done) rfl dX9_findsRows_20 (fun H locs hH => ?_)
        refine lv_iinc (v := (a2 + (1 : Int32))) (lv' := [(2, .int (a2 + (1 : Int32))), (0, .ref (ad 0)), (1, .int a1)]) hx hb dX9_findsRows_21 hl (k := 2) rfl rfl (by decide) rfl (fun ls hl => ?_)
        refine lv_goto (tgt := 9) hx hb dX9_findsRows_24 (by decide) ?_
        exact ih g12 a1 (a2 + (1 : Int32)) ls (lv_sub hl [1, 2, 0] rfl) _ _ hH hf
  intro H locs hH
  rw [fM_findsRows] at hf
  refine lv_aload_n hx hb dX9_findsRows_0 rfl (lv_at hl 0 rfl) ?_
  refine gX9_7 hC hH.1 0 rfl (v := .ref (ad 1)) rfl dX9_findsRows_1 ?_
  refine lv_iconst (v := 0) hx hb dX9_findsRows_4 (by decide) ?_
  obtain ⟨v1, hv1, hf⟩ := ob hf
  obtain ⟨hv1a, hv1b⟩ := ldA_ok hv1
  refine a_ild hC hH.1 1 rfl hv1a hv1b dX9_findsRows_5 ?_
  refine lv_istore_n (lv' := [(1, .int v1), (0, .ref (ad 0))]) hx hb dX9_findsRows_6 rfl hl (by decide) rfl (fun ls hl => ?_)
  refine lv_iconst (v := 0) hx hb dX9_findsRows_7 (by decide) ?_
  refine lv_istore_n (lv' := [(2, .int (0 : Int32)), (1, .int v1), (0, .ref (ad 0))]) hx hb dX9_findsRows_8 rfl hl (by decide) rfl (fun ls hl => ?_)
  exact L9 FU q0_at v1 (0 : Int32) ls (lv_sub hl [2, 1, 0] rfl) _ _ hH hf
abbrev rmM_bitAt : Room := { frames := 1, cells := 0, slots := 0, locals := 21 }
set_option maxHeartbeats 4000000 in
set_option maxRecDepth 100000 in
theorem cM_bitAt (l : Launch) (E : eE) (ad : Nat → Nat) (q0_why : Int32) (q0_detail : Int32) (q0_reasonNow : Int32) (q0_detailNow : Int32) (q0_w : (Nat → Int32)) (q0_undos : (Nat → Int32)) (q0_savedRow : (Nat → Int32)) (q0_mind : (Nat → Int32)) (q0_changes : Int32) (q0_firstChange : Int32) (q0_isSaved : Int32) (q0_at : (Nat → Int32)) (q0_line : (Nat → Int32)) (q0_lineLength : Int32) (q0_text : (Nat → Int32)) (q0_length : Int32) (q0_next : Int32) (q0_numbers : (Nat → Int32)) (q0_sort : Int32) (q0_done : Int32) (a1 : Int32) (a2 : Int32) (r : Int32) (hf : fM_bitAt q0_w q0_at a1 a2 = some r) : cP l E yX9_bitAt cX9_bitAt 3 (some .int) rmM_bitAt [.ref (ad 0), .int a1, .int a2] (wM E ad q0_why q0_detail q0_reasonNow q0_detailNow q0_w q0_undos q0_savedRow q0_mind q0_changes q0_firstChange q0_isSaved q0_at q0_line q0_lineLength q0_text q0_length q0_next q0_numbers q0_sort q0_done) (some (.int r)) := by
  refine Met.ofW (cc := cX9_bitAt) (maxL := 3) (ret := (some .int)) (by decide) rfl ?_
  intro p e s m args below meth c s₁ B hml hv
  obtain ⟨hargs, hP, hK⟩ := hv
  have hx := B.exec
  have hb := B.bytes
  have hr := B.returns
  have hts := atoms_spec (ws := ws_ yX9_bitAt cX9_bitAt 3 (some .int)) B.pre
  have hta : ∀ w ∈ lw_all, w.before args s = true := fun w h => hts w (List.mem_cons_of_mem _ h)
  have hown : s.vm.findClass RX9 = some m.cls := findClass_of_methodNamed B.named
  have hlocks := B.notSynchronized
  have hC : Cx p s m args c cX9_bitAt 3 RX9 E := ⟨hx, hb, hml, hown, hta, hK⟩
  obtain ⟨ls, he, hl⟩ := entry_ (m := m) (n := 3) hargs (Nat.le_of_ble_eq_true rfl)
  rw [he]
  have hl : lv_has ls 3 [(0, .ref (ad 0)), (1, .int a1), (2, .int a2)] := hl
  show W p l e rmM_bitAt s m args below meth c s.heap [] 0 0 (MQ below (qP (some .int) (some (.int r))) args s 0 0 (fun _ => False)) (F0 m 0 ls [])
  rw [fM_bitAt] at hf
  refine lv_aload_n hx hb dX9_bitAt_0 rfl (lv_at hl 0 rfl) ?_
  refine lv_aload_n hx hb dX9_bitAt_1 rfl (lv_at hl 0 rfl) ?_
  refine gX9_22 hC hP 0 rfl (v := .ref (ad 5)) rfl dX9_bitAt_2 ?_
  refine lv_bipush (v := 64) hx hb dX9_bitAt_5 (by decide) ?_
  refine lv_iload_n hx hb dX9_bitAt_7 rfl (lv_at hl 1 rfl) ?_
  refine lv_imul hx hb dX9_bitAt_8 ?_
  refine lv_iload_n hx hb dX9_bitAt_9 rfl (lv_at hl 2 rfl) ?_
  refine lv_iadd hx hb dX9_bitAt_10 ?_
  obtain ⟨v1, hv1, hf⟩ := ob hf
  obtain ⟨hv1a, hv1b⟩ := ldA_ok hv1
  refine a_ild hC hP 5 rfl hv1a hv1b dX9_bitAt_11 ?_
  obtain ⟨t2, ht2, hf⟩ := ob hf
  refine k_PVi hC LX9_86 ⟨Nat.le_of_ble_eq_true rfl, Nat.le_of_ble_eq_true rfl⟩ ⟨Nat.zero_le _, Nat.zero_le _⟩ (cM_is l E ad q0_why q0_detail q0_reasonNow q0_detailNow q0_w q0_undos q0_savedRow q0_mind q0_changes q0_firstChange q0_isSaved q0_at q0_line q0_lineLength q0_text q0_length q0_next q0_numbers q0_sort q0_done v1 t2 ht2) rfl rfl hP rfl rfl hl.1 rfl (Nat.le_of_ble_eq_true rfl) rfl dX9_bitAt_12 (fun hz12 => ?_)
  refine lv_iload_n hx hb dX9_bitAt_15 rfl (lv_at hl 1 rfl) ?_
  refine k_PSi hC LX9_121 ⟨Nat.le_of_ble_eq_true rfl, Nat.le_of_ble_eq_true rfl⟩ ⟨Nat.zero_le _, Nat.zero_le _⟩ (cM_bitOf l E t2 a1 _ rfl) rfl rfl (vP_nil) hl.1 rfl (Nat.le_of_ble_eq_true rfl) rfl dX9_bitAt_16 (fun hz16 => ?_)
  have hf := Option.some.inj hf
  exact e_Pi hC hr hlocks hf dX9_bitAt_19
abbrev rmM_bit : Room := { frames := 2, cells := 0, slots := 0, locals := 47 }
set_option maxHeartbeats 4000000 in
set_option maxRecDepth 100000 in
theorem cM_bit (l : Launch) (E : eE) (ad : Nat → Nat) (q0_why : Int32) (q0_detail : Int32) (q0_reasonNow : Int32) (q0_detailNow : Int32) (q0_w : (Nat → Int32)) (q0_undos : (Nat → Int32)) (q0_savedRow : (Nat → Int32)) (q0_mind : (Nat → Int32)) (q0_changes : Int32) (q0_firstChange : Int32) (q0_isSaved : Int32) (q0_at : (Nat → Int32)) (q0_line : (Nat → Int32)) (q0_lineLength : Int32) (q0_text : (Nat → Int32)) (q0_length : Int32) (q0_next : Int32) (q0_numbers : (Nat → Int32)) (q0_sort : Int32) (q0_done : Int32) (a1 : Int32) (a2 : Int32) (t : Int32 × (Nat → Int32)) (hf : fM_bit q0_w q0_at a1 a2 = some t) : cW l E yX9_bit cX9_bit 3 (some .int) rmM_bit [.ref (ad 0), .int a1, .int a2] (wM E ad q0_why q0_detail q0_reasonNow q0_detailNow q0_w q0_undos q0_savedRow q0_mind q0_changes q0_firstChange q0_isSaved q0_at q0_line q0_lineLength q0_text q0_length q0_next q0_numbers q0_sort q0_done) (some (.int t.1)) (wM E ad q0_why q0_detail q0_reasonNow q0_detailNow q0_w q0_undos q0_savedRow q0_mind q0_changes q0_firstChange q0_isSaved t.2 q0_line q0_lineLength q0_text q0_length q0_next q0_numbers q0_sort q0_done) := by
  refine Met.ofW (cc := cX9_bit) (maxL := 3) (ret := (some .int)) (by decide) rfl ?_
  intro p e s m args below meth c s₁ B hml hv
  obtain ⟨hargs, hP, hK, hD0⟩ := hv
  have hx := B.exec
  have hb := B.bytes
  have hr := B.returns
  have hts := atoms_spec (ws := ws_ yX9_bit cX9_bit 3 (some .int)) B.pre
  have hta : ∀ w ∈ lw_all, w.before args s = true := fun w h => hts w (List.mem_cons_of_mem _ h)
  have hown : s.vm.findClass RX9 = some m.cls := findClass_of_methodNamed B.named
  have hlocks := B.notSynchronized
  have hC : Cx p s m args c cX9_bit 3 RX9 E := ⟨hx, hb, hml, hown, hta, hK⟩
  have hH : Hp E (adr (wM E ad q0_why q0_detail q0_reasonNow q0_detailNow q0_w q0_undos q0_savedRow q0_mind q0_changes q0_firstChange q0_isSaved q0_at q0_line q0_lineLength q0_text q0_length q0_next q0_numbers q0_sort q0_done)) (wM E ad q0_why q0_detail q0_reasonNow q0_detailNow q0_w q0_undos q0_savedRow q0_mind q0_changes q0_firstChange q0_isSaved q0_at q0_line q0_lineLength q0_text q0_length q0_next q0_numbers q0_sort q0_done) s.heap s.heap [] := Hp.start hP hD0
  obtain ⟨ls, he, hl⟩ := entry_ (m := m) (n := 3) hargs (Nat.le_of_ble_eq_true rfl)
  rw [he]
  have hl : lv_has ls 3 [(0, .ref (ad 0)), (1, .int a1), (2, .int a2)] := hl
  show W p l e rmM_bit s m args below meth c s.heap [] 0 0 (MQ below (qW E (some .int) (some (.int t.1)) (wM E ad q0_why q0_detail q0_reasonNow q0_detailNow q0_w q0_undos q0_savedRow q0_mind q0_changes q0_firstChange q0_isSaved q0_at q0_line q0_lineLength q0_text q0_length q0_next q0_numbers q0_sort q0_done) (wM E ad q0_why q0_detail q0_reasonNow q0_detailNow q0_w q0_undos q0_savedRow q0_mind q0_changes q0_firstChange q0_isSaved t.2 q0_line q0_lineLength q0_text q0_length q0_next q0_numbers q0_sort q0_done)) args s 0 0 (adr (wM E ad q0_why q0_detail q0_reasonNow q0_detailNow q0_w q0_undos q0_savedRow q0_mind q0_changes q0_firstChange q0_isSaved q0_at q0_line q0_lineLength q0_text q0_length q0_next q0_numbers q0_sort q0_done))) (F0 m 0 ls [])
  suffices hmain : ∀ (H : Heap) (locs : List Loc), Hp E (adr (wM E ad q0_why q0_detail q0_reasonNow q0_detailNow q0_w q0_undos q0_savedRow q0_mind q0_changes q0_firstChange q0_isSaved q0_at q0_line q0_lineLength q0_text q0_length q0_next q0_numbers q0_sort q0_done)) (wM E ad q0_why q0_detail q0_reasonNow q0_detailNow q0_w q0_undos q0_savedRow q0_mind q0_changes q0_firstChange q0_isSaved q0_at q0_line q0_lineLength q0_text q0_length q0_next q0_numbers q0_sort q0_done) s.heap H locs → W p l e rmM_bit s m args below meth c H locs 0 0 (MQ below (qW E (some .int) (some (.int t.1)) (wM E ad q0_why q0_detail q0_reasonNow q0_detailNow q0_w q0_undos q0_savedRow q0_mind q0_changes q0_firstChange q0_isSaved q0_at q0_line q0_lineLength q0_text q0_length q0_next q0_numbers q0_sort q0_done) (wM E ad q0_why q0_detail q0_reasonNow q0_detailNow q0_w q0_undos q0_savedRow q0_mind q0_changes q0_firstChange q0_isSaved t.2 q0_line q0_lineLength q0_text q0_length q0_next q0_numbers q0_sort q0_done)) args s 0 0 (adr (wM E ad q0_why q0_detail q0_reasonNow q0_detailNow q0_w q0_undos q0_savedRow q0_mind q0_changes q0_firstChange q0_isSaved q0_at q0_line q0_lineLength q0_text q0_length q0_next q0_numbers q0_sort q0_done))) (F0 m 0 ls []) from hmain _ _ hH
  clear hH
  intro H locs hH
  rw [fM_bit] at hf
  refine lv_iload_n hx hb dX9_bit_0 rfl (lv_at hl 1 rfl) ?_
  refine k_PSi hC LX9_124 ⟨Nat.le_of_ble_eq_true rfl, Nat.le_of_ble_eq_true rfl⟩ ⟨Nat.zero_le _, Nat.zero_le _⟩ (cM_isRow l E a1 _ rfl) rfl rfl (vP_nil) hl.1 rfl (Nat.le_of_ble_eq_true rfl) rfl dX9_bit_1 (fun hz1 => ?_)
  refine lv_if_eq (tgt := 15) hx hb dX9_bit_4 (by decide) (fun c1 => ?_) (fun c1 => ?_)
  · have hf := ite_t hf c1
    refine lv_bipush (v := (-11)) hx hb dX9_bit_15 (by decide) ?_
    have hf := Option.some.inj hf
    subst hf
    exact e_Wi hC hH hr hlocks rfl rfl dX9_bit_17
  · have hf := ite_f hf c1
    refine lv_aload_n hx hb dX9_bit_7 rfl (lv_at hl 0 rfl) ?_
    refine lv_iload_n hx hb dX9_bit_8 rfl (lv_at hl 2 rfl) ?_
    obtain ⟨t2, ht2, hf⟩ := ob hf
    refine k_PVi hC LX9_89 ⟨Nat.le_of_ble_eq_true rfl, Nat.le_of_ble_eq_true rfl⟩ ⟨Nat.zero_le _, Nat.zero_le _⟩ (cM_isLetter l E ad q0_why q0_detail q0_reasonNow q0_detailNow q0_w q0_undos q0_savedRow q0_mind q0_changes q0_firstChange q0_isSaved q0_at q0_line q0_lineLength q0_text q0_length q0_next q0_numbers q0_sort q0_done a2 t2 ht2) rfl rfl hH.1 rfl rfl hl.1 rfl (Nat.le_of_ble_eq_true rfl) rfl dX9_bit_9 (fun hz9 => ?_)
    refine lv_if_ne (tgt := 18) hx hb dX9_bit_12 (by decide) (fun c3 => ?_) (fun c3 => ?_)
    · have hf := ite_f hf c3
      refine lv_aload_n hx hb dX9_bit_18 rfl (lv_at hl 0 rfl) ?_
      obtain ⟨t4, ht4, hf⟩ := ob hf
      refine k_WVsv hC LX9_127 ⟨Nat.le_of_ble_eq_true rfl, Nat.le_of_ble_eq_true rfl⟩ ⟨Nat.zero_le _, Nat.zero_le _⟩ (cM_findsRows l E ad q0_why q0_detail q0_reasonNow q0_detailNow q0_w q0_undos q0_savedRow q0_mind q0_changes q0_firstChange q0_isSaved q0_at q0_line q0_lineLength q0_text q0_length q0_next q0_numbers q0_sort q0_done t4 ht4) rfl rfl hH rfl rfl rfl hl.1 rfl (Nat.le_of_ble_eq_true rfl) rfl dX9_bit_19 (fun H locs hz19 hH => ?_)
      have hH : Hp E (adr (wM E ad q0_why q0_detail q0_reasonNow q0_detailNow q0_w q0_undos q0_savedRow q0_mind q0_changes q0_firstChange q0_isSaved q0_at q0_line q0_lineLength q0_text q0_length q0_next q0_numbers q0_sort q0_done)) (wM E ad q0_why q0_detail q0_reasonNow q0_detailNow q0_w q0_undos q0_savedRow q0_mind q0_changes q0_firstChange q0_isSaved t4 q0_line q0_lineLength q0_text q0_length q0_next q0_numbers q0_sort q0_done) s.heap H locs := hH
      refine lv_aload_n hx hb dX9_bit_22 rfl (lv_at hl 0 rfl) ?_
      refine lv_iload_n hx hb dX9_bit_23 rfl (lv_at hl 1 rfl) ?_
      refine lv_iload_n hx hb dX9_bit_24 rfl (lv_at hl 2 rfl) ?_
      obtain ⟨t5, ht5, hf⟩ := ob hf
      refine k_PVi hC LX9_130 ⟨Nat.le_of_ble_eq_true rfl, Nat.le_of_ble_eq_true rfl⟩ ⟨Nat.zero_le _, Nat.zero_le _⟩ (cM_bitAt l E ad q0_why q0_detail q0_reasonNow q0_detailNow q0_w q0_undos q0_savedRow q0_mind q0_changes q0_firstChange q0_isSaved t4 q0_line q0_lineLength q0_text q0_length q0_next q0_numbers q0_sort q0_done a1 a2 t5 ht5) rfl rfl hH.1 rfl rfl hl.1 rfl (Nat.le_of_ble_eq_true rfl) rfl dX9_bit_25 (fun hz25 => ?_)
      have hf := Option.some.inj hf
      subst hf
      exact e_Wi hC hH hr hlocks rfl rfl dX9_bit_28
    · have hf := ite_t hf c3
      refine lv_bipush (v := (-11)) hx hb dX9_bit_15 (by decide) ?_
      have hf := Option.some.inj hf
      subst hf
      exact e_Wi hC hH hr hlocks rfl rfl dX9_bit_17
