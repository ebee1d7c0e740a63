abbrev rmM_comes : Room := { frames := 0, cells := 0, slots := 0, locals := 0 }
set_option maxHeartbeats 4000000 in
set_option maxRecDepth 100000 in
theorem cM_comes (l : Launch) (E : eE) (ad : Nat → Nat) (q0_why : Int32) (q0_detail : Int32) (q0_reasonNow : Int32) (q0_detailNow : Int32) (q0_w : (Nat → Int32)) (q0_undos : (Nat → Int32)) (q0_savedRow : (Nat → Int32)) (q0_mind : (Nat → Int32)) (q0_changes : Int32) (q0_firstChange : Int32) (q0_isSaved : Int32) (q0_at : (Nat → Int32)) (q0_line : (Nat → Int32)) (q0_lineLength : Int32) (q0_text : (Nat → Int32)) (q0_length : Int32) (q0_next : Int32) (q0_numbers : (Nat → Int32)) (q0_sort : Int32) (q0_done : Int32) (a1 : Int32) (a2 : Int32) (t : (Nat → Int32)) (hf : fM_comes q0_w a1 a2 = some t) : cW l E yX9_comes cX9_comes 4 none rmM_comes [.ref (ad 0), .int a1, .int a2] (wM E ad q0_why q0_detail q0_reasonNow q0_detailNow q0_w q0_undos q0_savedRow q0_mind q0_changes q0_firstChange q0_isSaved q0_at q0_line q0_lineLength q0_text q0_length q0_next q0_numbers q0_sort q0_done) none (wM E ad q0_why q0_detail q0_reasonNow q0_detailNow t q0_undos q0_savedRow q0_mind q0_changes q0_firstChange q0_isSaved q0_at q0_line q0_lineLength q0_text q0_length q0_next q0_numbers q0_sort q0_done) := by
  refine Met.ofW (cc := cX9_comes) (maxL := 4) (ret := none) (by decide) rfl ?_
  intro p e s m args below meth c s₁ B hml hv
  obtain ⟨hargs, hP, hK, hD0⟩ := hv
  have hx := B.exec
  have hb := B.bytes
  have hr := B.returns
  have hts := atoms_spec (ws := ws_ yX9_comes cX9_comes 4 none) B.pre
  have hta : ∀ w ∈ lw_all, w.before args s = true := fun w h => hts w (List.mem_cons_of_mem _ h)
  have hown : s.vm.findClass RX9 = some m.cls := findClass_of_methodNamed B.named
  have hlocks := B.notSynchronized
  have hC : Cx p s m args c cX9_comes 4 RX9 E := ⟨hx, hb, hml, hown, hta, hK⟩
  have hH : Hp E (adr (wM E ad q0_why q0_detail q0_reasonNow q0_detailNow q0_w q0_undos q0_savedRow q0_mind q0_changes q0_firstChange q0_isSaved q0_at q0_line q0_lineLength q0_text q0_length q0_next q0_numbers q0_sort q0_done)) (wM E ad q0_why q0_detail q0_reasonNow q0_detailNow q0_w q0_undos q0_savedRow q0_mind q0_changes q0_firstChange q0_isSaved q0_at q0_line q0_lineLength q0_text q0_length q0_next q0_numbers q0_sort q0_done) s.heap s.heap [] := Hp.start hP hD0
  obtain ⟨ls, he, hl⟩ := entry_ (m := m) (n := 4) hargs (Nat.le_of_ble_eq_true rfl)
  rw [he]
  have hl : lv_has ls 4 [(0, .ref (ad 0)), (1, .int a1), (2, .int a2)] := hl
  show W p l e rmM_comes s m args below meth c s.heap [] 0 0 (MQ below (qW E none none (wM E ad q0_why q0_detail q0_reasonNow q0_detailNow q0_w q0_undos q0_savedRow q0_mind q0_changes q0_firstChange q0_isSaved q0_at q0_line q0_lineLength q0_text q0_length q0_next q0_numbers q0_sort q0_done) (wM E ad q0_why q0_detail q0_reasonNow q0_detailNow t q0_undos q0_savedRow q0_mind q0_changes q0_firstChange q0_isSaved q0_at q0_line q0_lineLength q0_text q0_length q0_next q0_numbers q0_sort q0_done)) args s 0 0 (adr (wM E ad q0_why q0_detail q0_reasonNow q0_detailNow q0_w q0_undos q0_savedRow q0_mind q0_changes q0_firstChange q0_isSaved q0_at q0_line q0_lineLength q0_text q0_length q0_next q0_numbers q0_sort q0_done))) (F0 m 0 ls [])
  suffices hmain : ∀ (H : Heap) (locs : List Loc), Hp E (adr (wM E ad q0_why q0_detail q0_reasonNow q0_detailNow q0_w q0_undos q0_savedRow q0_mind q0_changes q0_firstChange q0_isSaved q0_at q0_line q0_lineLength q0_text q0_length q0_next q0_numbers q0_sort q0_done)) (wM E ad q0_why q0_detail q0_reasonNow q0_detailNow q0_w q0_undos q0_savedRow q0_mind q0_changes q0_firstChange q0_isSaved q0_at q0_line q0_lineLength q0_text q0_length q0_next q0_numbers q0_sort q0_done) s.heap H locs → W p l e rmM_comes s m args below meth c H locs 0 0 (MQ below (qW E none none (wM E ad q0_why q0_detail q0_reasonNow q0_detailNow q0_w q0_undos q0_savedRow q0_mind q0_changes q0_firstChange q0_isSaved q0_at q0_line q0_lineLength q0_text q0_length q0_next q0_numbers q0_sort q0_done) (wM E ad q0_why q0_detail q0_reasonNow q0_detailNow t q0_undos q0_savedRow q0_mind q0_changes q0_firstChange q0_isSaved q0_at q0_line q0_lineLength q0_text q0_length q0_next q0_numbers q0_sort q0_done)) args s 0 0 (adr (wM E ad q0_why q0_detail q0_reasonNow q0_detailNow q0_w q0_undos q0_savedRow q0_mind q0_changes q0_firstChange q0_isSaved q0_at q0_line q0_lineLength q0_text q0_length q0_next q0_numbers q0_sort q0_done))) (F0 m 0 ls []) from hmain _ _ hH
  clear hH
  have L7 : ∀ (n : Nat) (y0_4 : (Nat → Int32)) (a1 : Int32) (a2 : Int32) (a3 : Int32) (ls : Array Slot), lv_has ls 4 [(0, .ref (ad 0)), (1, .int a1), (2, .int a2), (3, .int a3)] → ∀ (H : Heap) (locs : List Loc), Hp E (adr (wM E ad q0_why q0_detail q0_reasonNow q0_detailNow q0_w q0_undos q0_savedRow q0_mind q0_changes q0_firstChange q0_isSaved q0_at q0_line q0_lineLength q0_text q0_length q0_next q0_numbers q0_sort q0_done)) (wM E ad q0_why q0_detail q0_reasonNow q0_detailNow y0_4 q0_undos q0_savedRow q0_mind q0_changes q0_firstChange q0_isSaved q0_at q0_line q0_lineLength q0_text q0_length q0_next q0_numbers q0_sort q0_done) s.heap H locs → fM_comes_7 n y0_4 a1 a2 a3 = some t → W p l e rmM_comes s m args below meth c H locs 0 0 (MQ below (qW E none none (wM E ad q0_why q0_detail q0_reasonNow q0_detailNow q0_w q0_undos q0_savedRow q0_mind q0_changes q0_firstChange q0_isSaved q0_at q0_line q0_lineLength q0_text q0_length q0_next q0_numbers q0_sort q0_done) (wM E ad q0_why q0_detail q0_reasonNow q0_detailNow t q0_undos q0_savedRow q0_mind q0_changes q0_firstChange q0_isSaved q0_at q0_line q0_lineLength q0_text q0_length q0_next q0_numbers q0_sort q0_done)) args s 0 0 (adr (wM E ad q0_why q0_detail q0_reasonNow q0_detailNow q0_w q0_undos q0_savedRow q0_mind q0_changes q0_firstChange q0_isSaved q0_at q0_line q0_lineLength q0_text q0_length q0_next q0_numbers q0_sort q0_done))) (F0 m 7 ls []) := by
    intro n
    induction n with
    | zero => intro y0_4 a1 a2 a3 ls hl H locs hH hf; cases hf
    | succ n ih =>
      intro y0_4 a1 a2 a3 ls hl H locs hH hf
      rw [fM_comes_7] at hf
      refine lv_iload_n hx hb dX9_comes_7 rfl (lv_at hl 3 rfl) ?_
      refine lv_iload_n hx hb dX9_comes_8 rfl (lv_at hl 1 rfl) ?_
      refine lv_icmp_le (tgt := 36) hx hb dX9_comes_9 (by decide) (fun c2 => ?_) (fun c2 => ?_)
      · have hf := ite_t hf c2
        refine lv_aload_n hx hb dX9_comes_36 rfl (lv_at hl 0 rfl) ?_
        refine gX9_7 hC hH.1 0 rfl (v := .ref (ad 1)) rfl dX9_comes_37 ?_
        refine lv_iconst (v := 4) hx hb dX9_comes_40 (by decide) ?_
        refine lv_iload_n hx hb dX9_comes_41 rfl (lv_at hl 1 rfl) ?_
        refine lv_iadd hx hb dX9_comes_42 ?_
        refine lv_iload_n hx hb dX9_comes_43 rfl (lv_at hl 2 rfl) ?_
        obtain ⟨g3, hg3, hf⟩ := ob hf
        obtain ⟨hg3a, hg3b⟩ := stA_ok hg3
        refine a_ist hC hH 1 rfl hg3a hg3b (W1 := wM E ad q0_why q0_detail q0_reasonNow q0_detailNow g3 q0_undos q0_savedRow q0_mind q0_changes q0_firstChange q0_isSaved q0_at q0_line q0_lineLength q0_text q0_length q0_next q0_numbers q0_sort q0_done) rfl dX9_comes_44 (fun H locs hH => ?_)
        refine lv_aload_n hx hb dX9_comes_45 rfl (lv_at hl 0 rfl) ?_
        refine gX9_7 hC hH.1 0 rfl (v := .ref (ad 1)) rfl dX9_comes_46 ?_
        refine lv_iconst (v := 0) hx hb dX9_comes_49 (by decide) ?_
        refine lv_dup2_11 hx hb dX9_comes_50 rfl rfl ?_
        obtain ⟨v4, hv4, hf⟩ := ob hf
        obtain ⟨hv4a, hv4b⟩ := ldA_ok hv4
        refine a_ild hC hH.1 1 rfl hv4a hv4b dX9_comes_51 ?_
        refine lv_iconst (v := 1) hx hb dX9_comes_52 (by decide) ?_
        refine lv_iadd hx hb dX9_comes_53 ?_
        obtain ⟨g5, hg5, hf⟩ := ob hf
        obtain ⟨hg5a, hg5b⟩ := stA_ok hg5
        refine a_ist hC hH 1 rfl hg5a hg5b (W1 := wM E ad q0_why q0_detail q0_reasonNow q0_detailNow g5 q0_undos q0_savedRow q0_mind q0_changes q0_firstChange q0_isSaved q0_at q0_line q0_lineLength q0_text q0_length q0_next q0_numbers q0_sort q0_done) rfl dX9_comes_54 (fun H locs hH => ?_)
        refine lv_aload_n hx hb dX9_comes_55 rfl (lv_at hl 0 rfl) ?_
        refine gX9_7 hC hH.1 0 rfl (v := .ref (ad 1)) rfl dX9_comes_56 ?_
        refine lv_iconst (v := 1) hx hb dX9_comes_59 (by decide) ?_
        refine lv_dup2_11 hx hb dX9_comes_60 rfl rfl ?_
        obtain ⟨v6, hv6, hf⟩ := ob hf
        obtain ⟨hv6a, hv6b⟩ := ldA_ok hv6
        refine a_ild hC hH.1 1 rfl hv6a hv6b dX9_comes_61 ?_
        refine lv_iconst (v := 1) hx hb dX9_comes_62 (by decide) ?_
        refine lv_iadd hx hb dX9_comes_63 ?_
        obtain ⟨g7, hg7, hf⟩ := ob hf
        obtain ⟨hg7a, hg7b⟩ := stA_ok hg7
        refine a_ist hC hH 1 rfl hg7a hg7b (W1 := wM E ad q0_why q0_detail q0_reasonNow q0_detailNow g7 q0_undos q0_savedRow q0_mind q0_changes q0_firstChange q0_isSaved q0_at q0_line q0_lineLength q0_text q0_length q0_next q0_numbers q0_sort q0_done) rfl dX9_comes_64 (fun H locs hH => ?_)
        have hf := Option.some.inj hf
        subst hf
        exact e_Wv hC hH hr hlocks rfl dX9_comes_65
      · have hf := ite_f hf c2
        refine lv_aload_n hx hb dX9_comes_12 rfl (lv_at hl 0 rfl) ?_
        refine gX9_7 hC hH.1 0 rfl (v := .ref (ad 1)) rfl dX9_comes_13 ?_
        refine lv_iconst (v := 4) hx hb dX9_comes_16 (by decide) ?_
        refine lv_iload_n hx hb dX9_comes_17 rfl (lv_at hl 3 rfl) ?_
        refine lv_iadd hx hb dX9_comes_18 ?_
        refine lv_aload_n hx hb dX9_comes_19 rfl (lv_at hl 0 rfl) ?_
        refine gX9_7 hC hH.1 0 rfl (v := .ref (ad 1)) rfl dX9_comes_20 ?_
        refine lv_iconst (v := 4) hx hb dX9_comes_23 (by decide) ?_
        refine lv_iload_n hx hb dX9_comes_24 rfl (lv_at hl 3 rfl) ?_
        refine lv_iadd hx hb dX9_comes_25 ?_
        refine lv_iconst (v := 1) hx hb dX9_comes_26 (by decide) ?_
        refine lv_isub hx hb dX9_comes_27 ?_
        obtain ⟨v8, hv8, hf⟩ := ob hf
        obtain ⟨hv8a, hv8b⟩ := ldA_ok hv8
        refine a_ild hC hH.1 1 rfl hv8a hv8b dX9_comes_28 ?_
        obtain ⟨g9, hg9, hf⟩ := ob hf
        obtain ⟨hg9a, hg9b⟩ := stA_ok hg9
        refine a_ist hC hH 1 rfl hg9a hg9b (W1 := wM E ad q0_why q0_detail q0_reasonNow q0_detailNow g9 q0_undos q0_savedRow q0_mind q0_changes q0_firstChange q0_isSaved q0_at q0_line q0_lineLength q0_text q0_length q0_next q0_numbers q0_sort q0_done) rfl dX9_comes_29 (fun H locs hH => ?_)
        refine lv_iinc (v := (a3 + (-1 : Int32))) (lv' := [(3, .int (a3 + (-1 : Int32))), (0, .ref (ad 0)), (1, .int a1), (2, .int a2)]) hx hb dX9_comes_30 hl (k := 3) rfl rfl (by decide) rfl (fun ls hl => ?_)
        refine lv_goto (tgt := 7) hx hb dX9_comes_33 (by decide) ?_
        exact ih g9 a1 a2 (a3 + (-1 : Int32)) ls (lv_sub hl [1, 2, 3, 0] rfl) _ _ hH hf
  intro H locs hH
  rw [fM_comes] at hf
  refine lv_aload_n hx hb dX9_comes_0 rfl (lv_at hl 0 rfl) ?_
  refine gX9_7 hC hH.1 0 rfl (v := .ref (ad 1)) rfl dX9_comes_1 ?_
  refine lv_iconst (v := 0) hx hb dX9_comes_4 (by decide) ?_
  obtain ⟨v1, hv1, hf⟩ := ob hf
  obtain ⟨hv1a, hv1b⟩ := ldA_ok hv1
  refine a_ild hC hH.1 1 rfl hv1a hv1b dX9_comes_5 ?_
  refine lv_istore_n (lv' := [(3, .int v1), (0, .ref (ad 0)), (1, .int a1), (2, .int a2)]) hx hb dX9_comes_6 rfl hl (by decide) rfl (fun ls hl => ?_)
  exact L7 FU q0_w a1 a2 v1 ls (lv_sub hl [1, 2, 3, 0] rfl) _ _ hH hf
abbrev rmM_put : Room := { frames := 3, cells := 0, slots := 0, locals := 64 }
set_option maxHeartbeats 4000000 in
set_option maxRecDepth 100000 in
theorem cM_put (l : Launch) (E : eE) (ad : Nat → Nat) (q0_why : Int32) (q0_detail : Int32) (q0_reasonNow : Int32) (q0_detailNow : Int32) (q0_w : (Nat → Int32)) (q0_undos : (Nat → Int32)) (q0_savedRow : (Nat → Int32)) (q0_mind : (Nat → Int32)) (q0_changes : Int32) (q0_firstChange : Int32) (q0_isSaved : Int32) (q0_at : (Nat → Int32)) (q0_line : (Nat → Int32)) (q0_lineLength : Int32) (q0_text : (Nat → Int32)) (q0_length : Int32) (q0_next : Int32) (q0_numbers : (Nat → Int32)) (q0_sort : Int32) (q0_done : Int32) (a1 : Int32) (t : Int32 × Int32 × Int32 × Int32 × Int32 × (Nat → Int32) × (Nat → Int32) × (Nat → Int32) × Int32 × Int32) (hf : fM_put q0_why q0_detail q0_reasonNow q0_detailNow q0_w q0_undos q0_mind q0_changes q0_firstChange a1 = some t) : cW l E yX9_put cX9_put 3 (some .int) rmM_put [.ref (ad 0), .int a1] (wM E ad q0_why q0_detail q0_reasonNow q0_detailNow q0_w q0_undos q0_savedRow q0_mind q0_changes q0_firstChange q0_isSaved q0_at q0_line q0_lineLength q0_text q0_length q0_next q0_numbers q0_sort q0_done) (some (.int t.1)) (wM E ad t.2.1 t.2.2.1 t.2.2.2.1 t.2.2.2.2.1 t.2.2.2.2.2.1 t.2.2.2.2.2.2.1 q0_savedRow t.2.2.2.2.2.2.2.1 t.2.2.2.2.2.2.2.2.1 t.2.2.2.2.2.2.2.2.2 q0_isSaved q0_at q0_line q0_lineLength q0_text q0_length q0_next q0_numbers q0_sort q0_done) := by
  refine Met.ofW (cc := cX9_put) (maxL := 3) (ret := (some .int)) (by decide) rfl ?_
  intro p e s m args below meth c s₁ B hml hv
  obtain ⟨hargs, hP, hK, hD0⟩ := hv
  have hx := B.exec
  have hb := B.bytes
  have hr := B.returns
  have hts := atoms_spec (ws := ws_ yX9_put cX9_put 3 (some .int)) B.pre
  have hta : ∀ w ∈ lw_all, w.before args s = true := fun w h => hts w (List.mem_cons_of_mem _ h)
  have hown : s.vm.findClass RX9 = some m.cls := findClass_of_methodNamed B.named
  have hlocks := B.notSynchronized
  have hC : Cx p s m args c cX9_put 3 RX9 E := ⟨hx, hb, hml, hown, hta, hK⟩
  have hH : Hp E (adr (wM E ad q0_why q0_detail q0_reasonNow q0_detailNow q0_w q0_undos q0_savedRow q0_mind q0_changes q0_firstChange q0_isSaved q0_at q0_line q0_lineLength q0_text q0_length q0_next q0_numbers q0_sort q0_done)) (wM E ad q0_why q0_detail q0_reasonNow q0_detailNow q0_w q0_undos q0_savedRow q0_mind q0_changes q0_firstChange q0_isSaved q0_at q0_line q0_lineLength q0_text q0_length q0_next q0_numbers q0_sort q0_done) s.heap s.heap [] := Hp.start hP hD0
  obtain ⟨ls, he, hl⟩ := entry_ (m := m) (n := 3) hargs (Nat.le_of_ble_eq_true rfl)
  rw [he]
  have hl : lv_has ls 3 [(0, .ref (ad 0)), (1, .int a1)] := hl
  show W p l e rmM_put s m args below meth c s.heap [] 0 0 (MQ below (qW E (some .int) (some (.int t.1)) (wM E ad q0_why q0_detail q0_reasonNow q0_detailNow q0_w q0_undos q0_savedRow q0_mind q0_changes q0_firstChange q0_isSaved q0_at q0_line q0_lineLength q0_text q0_length q0_next q0_numbers q0_sort q0_done) (wM E ad t.2.1 t.2.2.1 t.2.2.2.1 t.2.2.2.2.1 t.2.2.2.2.2.1 t.2.2.2.2.2.2.1 q0_savedRow t.2.2.2.2.2.2.2.1 t.2.2.2.2.2.2.2.2.1 t.2.2.2.2.2.2.2.2.2 q0_isSaved q0_at q0_line q0_lineLength q0_text q0_length q0_next q0_numbers q0_sort q0_done)) args s 0 0 (adr (wM E ad q0_why q0_detail q0_reasonNow q0_detailNow q0_w q0_undos q0_savedRow q0_mind q0_changes q0_firstChange q0_isSaved q0_at q0_line q0_lineLength q0_text q0_length q0_next q0_numbers q0_sort q0_done))) (F0 m 0 ls [])
  suffices hmain : ∀ (H : Heap) (locs : List Loc), Hp E (adr (wM E ad q0_why q0_detail q0_reasonNow q0_detailNow q0_w q0_undos q0_savedRow q0_mind q0_changes q0_firstChange q0_isSaved q0_at q0_line q0_lineLength q0_text q0_length q0_next q0_numbers q0_sort q0_done)) (wM E ad q0_why q0_detail q0_reasonNow q0_detailNow q0_w q0_undos q0_savedRow q0_mind q0_changes q0_firstChange q0_isSaved q0_at q0_line q0_lineLength q0_text q0_length q0_next q0_numbers q0_sort q0_done) s.heap H locs → W p l e rmM_put s m args below meth c H locs 0 0 (MQ below (qW E (some .int) (some (.int t.1)) (wM E ad q0_why q0_detail q0_reasonNow q0_detailNow q0_w q0_undos q0_savedRow q0_mind q0_changes q0_firstChange q0_isSaved q0_at q0_line q0_lineLength q0_text q0_length q0_next q0_numbers q0_sort q0_done) (wM E ad t.2.1 t.2.2.1 t.2.2.2.1 t.2.2.2.2.1 t.2.2.2.2.2.1 t.2.2.2.2.2.2.1 q0_savedRow t.2.2.2.2.2.2.2.1 t.2.2.2.2.2.2.2.2.1 t.2.2.2.2.2.2.2.2.2 q0_isSaved q0_at q0_line q0_lineLength q0_text q0_length q0_next q0_numbers q0_sort q0_done)) args s 0 0 (adr (wM E ad q0_why q0_detail q0_reasonNow q0_detailNow q0_w q0_undos q0_savedRow q0_mind q0_changes q0_firstChange q0_isSaved q0_at q0_line q0_lineLength q0_text q0_length q0_next q0_numbers q0_sort q0_done))) (F0 m 0 ls []) from hmain _ _ hH
  clear hH
  intro H locs hH
  rw [fM_put] at hf
  refine lv_aload_n hx hb dX9_put_0 rfl (lv_at hl 0 rfl) ?_
  refine lv_aload_n hx hb dX9_put_1 rfl (lv_at hl 0 rfl) ?_
  refine gX9_7 hC hH.1 0 rfl (v := .ref (ad 1)) rfl dX9_put_2 ?_
  refine lv_iconst (v := 0) hx hb dX9_put_5 (by decide) ?_
  obtain ⟨v1, hv1, hf⟩ := ob hf
  obtain ⟨hv1a, hv1b⟩ := ldA_ok hv1
  refine a_ild hC hH.1 1 rfl hv1a hv1b dX9_put_6 ?_
  refine lv_iload_n hx hb dX9_put_7 rfl (lv_at hl 1 rfl) ?_
  obtain ⟨t2, ht2, hf⟩ := ob hf
  refine k_WVsi hC LX9_72 ⟨Nat.le_of_ble_eq_true rfl, Nat.le_of_ble_eq_true rfl⟩ ⟨Nat.zero_le _, Nat.zero_le _⟩ (cM_notInsert l E ad q0_why q0_detail q0_reasonNow q0_detailNow q0_w q0_undos q0_savedRow q0_mind q0_changes q0_firstChange q0_isSaved q0_at q0_line q0_lineLength q0_text q0_length q0_next q0_numbers q0_sort q0_done v1 a1 t2 ht2) rfl rfl hH rfl rfl rfl hl.1 rfl (Nat.le_of_ble_eq_true rfl) rfl dX9_put_8 (fun H locs hz8 hH => ?_)
  have hH : Hp E (adr (wM E ad q0_why q0_detail q0_reasonNow q0_detailNow q0_w q0_undos q0_savedRow q0_mind q0_changes q0_firstChange q0_isSaved q0_at q0_line q0_lineLength q0_text q0_length q0_next q0_numbers q0_sort q0_done)) (wM E ad q0_why q0_detail t2.2.1 t2.2.2 q0_w q0_undos q0_savedRow q0_mind q0_changes q0_firstChange q0_isSaved q0_at q0_line q0_lineLength q0_text q0_length q0_next q0_numbers q0_sort q0_done) s.heap H locs := hH
  refine lv_istore_n (lv' := [(2, .int t2.1), (0, .ref (ad 0)), (1, .int a1)]) hx hb dX9_put_11 rfl hl (by decide) rfl (fun ls hl => ?_)
  refine lv_iload_n hx hb dX9_put_12 rfl (lv_at hl 0 rfl) ?_
  refine lv_if_eq (tgt := 22) hx hb dX9_put_13 (by decide) (fun c3 => ?_) (fun c3 => ?_)
  · have hf := ite_t hf c3
    refine lv_aload_n hx hb dX9_put_22 rfl (lv_at hl 1 rfl) ?_
    obtain ⟨t4, ht4, hf⟩ := ob hf
    refine k_WVsv hC LX9_79 ⟨Nat.le_of_ble_eq_true rfl, Nat.le_of_ble_eq_true rfl⟩ ⟨Nat.zero_le _, Nat.zero_le _⟩ (cM_remembers l E ad q0_why q0_detail t2.2.1 t2.2.2 q0_w q0_undos q0_savedRow q0_mind q0_changes q0_firstChange q0_isSaved q0_at q0_line q0_lineLength q0_text q0_length q0_next q0_numbers q0_sort q0_done t4 ht4) rfl rfl hH rfl rfl rfl hl.1 rfl (Nat.le_of_ble_eq_true rfl) rfl dX9_put_23 (fun H locs hz23 hH => ?_)
    have hH : Hp E (adr (wM E ad q0_why q0_detail q0_reasonNow q0_detailNow q0_w q0_undos q0_savedRow q0_mind q0_changes q0_firstChange q0_isSaved q0_at q0_line q0_lineLength q0_text q0_length q0_next q0_numbers q0_sort q0_done)) (wM E ad q0_why q0_detail t2.2.1 t2.2.2 q0_w t4.1 q0_savedRow t4.2.1 t4.2.2.1 t4.2.2.2 q0_isSaved q0_at q0_line q0_lineLength q0_text q0_length q0_next q0_numbers q0_sort q0_done) s.heap H locs := hH
    refine lv_aload_n hx hb dX9_put_26 rfl (lv_at hl 1 rfl) ?_
    refine lv_aload_n hx hb dX9_put_27 rfl (lv_at hl 1 rfl) ?_
    refine gX9_7 hC hH.1 0 rfl (v := .ref (ad 1)) rfl dX9_put_28 ?_
    refine lv_iconst (v := 0) hx hb dX9_put_31 (by decide) ?_
    obtain ⟨v5, hv5, hf⟩ := ob hf
    obtain ⟨hv5a, hv5b⟩ := ldA_ok hv5
    refine a_ild hC hH.1 1 rfl hv5a hv5b dX9_put_32 ?_
    refine lv_iload_n hx hb dX9_put_33 rfl (lv_at hl 2 rfl) ?_
    obtain ⟨t6, ht6, hf⟩ := ob hf
    refine k_WVsv hC LX9_82 ⟨Nat.le_of_ble_eq_true rfl, Nat.le_of_ble_eq_true rfl⟩ ⟨Nat.zero_le _, Nat.zero_le _⟩ (cM_comes l E ad q0_why q0_detail t2.2.1 t2.2.2 q0_w t4.1 q0_savedRow t4.2.1 t4.2.2.1 t4.2.2.2 q0_isSaved q0_at q0_line q0_lineLength q0_text q0_length q0_next q0_numbers q0_sort q0_done v5 a1 t6 ht6) rfl rfl hH rfl rfl rfl hl.1 rfl (Nat.le_of_ble_eq_true rfl) rfl dX9_put_34 (fun H locs hz34 hH => ?_)
    have hH : Hp E (adr (wM E ad q0_why q0_detail q0_reasonNow q0_detailNow q0_w q0_undos q0_savedRow q0_mind q0_changes q0_firstChange q0_isSaved q0_at q0_line q0_lineLength q0_text q0_length q0_next q0_numbers q0_sort q0_done)) (wM E ad q0_why q0_detail t2.2.1 t2.2.2 t6 t4.1 q0_savedRow t4.2.1 t4.2.2.1 t4.2.2.2 q0_isSaved q0_at q0_line q0_lineLength q0_text q0_length q0_next q0_numbers q0_sort q0_done) s.heap H locs := hH
    refine lv_aload_n hx hb dX9_put_37 rfl (lv_at hl 1 rfl) ?_
    refine gX9_7 hC hH.1 0 rfl (v := .ref (ad 1)) rfl dX9_put_38 ?_
    refine lv_iconst (v := 0) hx hb dX9_put_41 (by decide) ?_
    obtain ⟨v7, hv7, hf⟩ := ob hf
    obtain ⟨hv7a, hv7b⟩ := ldA_ok hv7
    refine a_ild hC hH.1 1 rfl hv7a hv7b dX9_put_42 ?_
    refine lv_iconst (v := 1) hx hb dX9_put_43 (by decide) ?_
    refine lv_isub hx hb dX9_put_44 ?_
    have hf := Option.some.inj hf
    subst hf
    exact e_Wi hC hH hr hlocks rfl rfl dX9_put_45
  · have hf := ite_f hf c3
    refine lv_aload_n hx hb dX9_put_16 rfl (lv_at hl 1 rfl) ?_
    refine lv_iload_n hx hb dX9_put_17 rfl (lv_at hl 0 rfl) ?_
    obtain ⟨t8, ht8, hf⟩ := ob hf
    refine k_WVsi hC LX9_75 ⟨Nat.le_of_ble_eq_true rfl, Nat.le_of_ble_eq_true rfl⟩ ⟨Nat.zero_le _, Nat.zero_le _⟩ (cM_refuses l E ad q0_why q0_detail t2.2.1 t2.2.2 q0_w q0_undos q0_savedRow q0_mind q0_changes q0_firstChange q0_isSaved q0_at q0_line q0_lineLength q0_text q0_length q0_next q0_numbers q0_sort q0_done t2.1 t8 ht8) rfl rfl hH rfl rfl rfl hl.1 rfl (Nat.le_of_ble_eq_true rfl) rfl dX9_put_18 (fun H locs hz18 hH => ?_)
    have hH : Hp E (adr (wM E ad q0_why q0_detail q0_reasonNow q0_detailNow q0_w q0_undos q0_savedRow q0_mind q0_changes q0_firstChange q0_isSaved q0_at q0_line q0_lineLength q0_text q0_length q0_next q0_numbers q0_sort q0_done)) (wM E ad t8.2.1 t8.2.2 t2.2.1 t2.2.2 q0_w q0_undos q0_savedRow q0_mind q0_changes q0_firstChange q0_isSaved q0_at q0_line q0_lineLength q0_text q0_length q0_next q0_numbers q0_sort q0_done) s.heap H locs := hH
    have hf := Option.some.inj hf
    subst hf
    exact e_Wi hC hH hr hlocks rfl rfl dX9_put_21
abbrev rmM_insert : Room := { frames := 3, cells := 0, slots := 0, locals := 64 }
set_option maxHeartbeats 4000000 in
set_option maxRecDepth 100000 in
theorem cM_insert (l : Launch) (E : eE) (ad : Nat → Nat) (q0_why : Int32) (q0_detail : Int32) (q0_reasonNow : Int32) (q0_detailNow : Int32) (q0_w : (Nat → Int32)) (q0_undos : (Nat → Int32)) (q0_savedRow : (Nat → Int32)) (q0_mind : (Nat → Int32)) (q0_changes : Int32) (q0_firstChange : Int32) (q0_isSaved : Int32) (q0_at : (Nat → Int32)) (q0_line : (Nat → Int32)) (q0_lineLength : Int32) (q0_text : (Nat → Int32)) (q0_length : Int32) (q0_next : Int32) (q0_numbers : (Nat → Int32)) (q0_sort : Int32) (q0_done : Int32) (a1 : Int32) (a2 : Int32) (t : Int32 × Int32 × Int32 × Int32 × Int32 × (Nat → Int32) × (Nat → Int32) × (Nat → Int32) × Int32 × Int32) (hf : fM_insert q0_why q0_detail q0_reasonNow q0_detailNow q0_w q0_undos q0_mind q0_changes q0_firstChange a1 a2 = some t) : cW l E yX9_insert cX9_insert 4 (some .int) rmM_insert [.ref (ad 0), .int a1, .int a2] (wM E ad q0_why q0_detail q0_reasonNow q0_detailNow q0_w q0_undos q0_savedRow q0_mind q0_changes q0_firstChange q0_isSaved q0_at q0_line q0_lineLength q0_text q0_length q0_next q0_numbers q0_sort q0_done) (some (.int t.1)) (wM E ad t.2.1 t.2.2.1 t.2.2.2.1 t.2.2.2.2.1 t.2.2.2.2.2.1 t.2.2.2.2.2.2.1 q0_savedRow t.2.2.2.2.2.2.2.1 t.2.2.2.2.2.2.2.2.1 t.2.2.2.2.2.2.2.2.2 q0_isSaved q0_at q0_line q0_lineLength q0_text q0_length q0_next q0_numbers q0_sort q0_done) := by
  refine Met.ofW (cc := cX9_insert) (maxL := 4) (ret := (some .int)) (by decide) rfl ?_
  intro p e s m args below meth c s₁ B hml hv
  obtain ⟨hargs, hP, hK, hD0⟩ := hv
  have hx := B.exec
  have hb := B.bytes
  have hr := B.returns
  have hts := atoms_spec (ws := ws_ yX9_insert cX9_insert 4 (some .int)) B.pre
  have hta : ∀ w ∈ lw_all, w.before args s = true := fun w h => hts w (List.mem_cons_of_mem _ h)
  have hown : s.vm.findClass RX9 = some m.cls := findClass_of_methodNamed B.named
  have hlocks := B.notSynchronized
  have hC : Cx p s m args c cX9_insert 4 RX9 E := ⟨hx, hb, hml, hown, hta, hK⟩
  have hH : Hp E (adr (wM E ad q0_why q0_detail q0_reasonNow q0_detailNow q0_w q0_undos q0_savedRow q0_mind q0_changes q0_firstChange q0_isSaved q0_at q0_line q0_lineLength q0_text q0_length q0_next q0_numbers q0_sort q0_done)) (wM E ad q0_why q0_detail q0_reasonNow q0_detailNow q0_w q0_undos q0_savedRow q0_mind q0_changes q0_firstChange q0_isSaved q0_at q0_line q0_lineLength q0_text q0_length q0_next q0_numbers q0_sort q0_done) s.heap s.heap [] := Hp.start hP hD0
  obtain ⟨ls, he, hl⟩ := entry_ (m := m) (n := 4) hargs (Nat.le_of_ble_eq_true rfl)
  rw [he]
  have hl : lv_has ls 4 [(0, .ref (ad 0)), (1, .int a1), (2, .int a2)] := hl
  show W p l e rmM_insert s m args below meth c s.heap [] 0 0 (MQ below (qW E (some .int) (some (.int t.1)) (wM E ad q0_why q0_detail q0_reasonNow q0_detailNow q0_w q0_undos q0_savedRow q0_mind q0_changes q0_firstChange q0_isSaved q0_at q0_line q0_lineLength q0_text q0_length q0_next q0_numbers q0_sort q0_done) (wM E ad t.2.1 t.2.2.1 t.2.2.2.1 t.2.2.2.2.1 t.2.2.2.2.2.1 t.2.2.2.2.2.2.1 q0_savedRow t.2.2.2.2.2.2.2.1 t.2.2.2.2.2.2.2.2.1 t.2.2.2.2.2.2.2.2.2 q0_isSaved q0_at q0_line q0_lineLength q0_text q0_length q0_next q0_numbers q0_sort q0_done)) args s 0 0 (adr (wM E ad q0_why q0_detail q0_reasonNow q0_detailNow q0_w q0_undos q0_savedRow q0_mind q0_changes q0_firstChange q0_isSaved q0_at q0_line q0_lineLength q0_text q0_length q0_next q0_numbers q0_sort q0_done))) (F0 m 0 ls [])
  suffices hmain : ∀ (H : Heap) (locs : List Loc), Hp E (adr (wM E ad q0_why q0_detail q0_reasonNow q0_detailNow q0_w q0_undos q0_savedRow q0_mind q0_changes q0_firstChange q0_isSaved q0_at q0_line q0_lineLength q0_text q0_length q0_next q0_numbers q0_sort q0_done)) (wM E ad q0_why q0_detail q0_reasonNow q0_detailNow q0_w q0_undos q0_savedRow q0_mind q0_changes q0_firstChange q0_isSaved q0_at q0_line q0_lineLength q0_text q0_length q0_next q0_numbers q0_sort q0_done) s.heap H locs → W p l e rmM_insert s m args below meth c H locs 0 0 (MQ below (qW E (some .int) (some (.int t.1)) (wM E ad q0_why q0_detail q0_reasonNow q0_detailNow q0_w q0_undos q0_savedRow q0_mind q0_changes q0_firstChange q0_isSaved q0_at q0_line q0_lineLength q0_text q0_length q0_next q0_numbers q0_sort q0_done) (wM E ad t.2.1 t.2.2.1 t.2.2.2.1 t.2.2.2.2.1 t.2.2.2.2.2.1 t.2.2.2.2.2.2.1 q0_savedRow t.2.2.2.2.2.2.2.1 t.2.2.2.2.2.2.2.2.1 t.2.2.2.2.2.2.2.2.2 q0_isSaved q0_at q0_line q0_lineLength q0_text q0_length q0_next q0_numbers q0_sort q0_done)) args s 0 0 (adr (wM E ad q0_why q0_detail q0_reasonNow q0_detailNow q0_w q0_undos q0_savedRow q0_mind q0_changes q0_firstChange q0_isSaved q0_at q0_line q0_lineLength q0_text q0_length q0_next q0_numbers q0_sort q0_done))) (F0 m 0 ls []) from hmain _ _ hH
  clear hH
  intro H locs hH
  rw [fM_insert] at hf
  refine lv_aload_n hx hb dX9_insert_0 rfl (lv_at hl 0 rfl) ?_
  refine lv_iload_n hx hb dX9_insert_1 rfl (lv_at hl 1 rfl) ?_
  refine lv_iload_n hx hb dX9_insert_2 rfl (lv_at hl 2 rfl) ?_
  obtain ⟨t1, ht1, hf⟩ := ob hf
  refine k_WVsi hC LX9_72 ⟨Nat.le_of_ble_eq_true rfl, Nat.le_of_ble_eq_true rfl⟩ ⟨Nat.zero_le _, Nat.zero_le _⟩ (cM_notInsert l E ad q0_why q0_detail q0_reasonNow q0_detailNow q0_w q0_undos q0_savedRow q0_mind q0_changes q0_firstChange q0_isSaved q0_at q0_line q0_lineLength q0_text q0_length q0_next q0_numbers q0_sort q0_done a1 a2 t1 ht1) rfl rfl hH rfl rfl rfl hl.1 rfl (Nat.le_of_ble_eq_true rfl) rfl dX9_insert_3 (fun H locs hz3 hH => ?_)
  have hH : Hp E (adr (wM E ad q0_why q0_detail q0_reasonNow q0_detailNow q0_w q0_undos q0_savedRow q0_mind q0_changes q0_firstChange q0_isSaved q0_at q0_line q0_lineLength q0_text q0_length q0_next q0_numbers q0_sort q0_done)) (wM E ad q0_why q0_detail t1.2.1 t1.2.2 q0_w q0_undos q0_savedRow q0_mind q0_changes q0_firstChange q0_isSaved q0_at q0_line q0_lineLength q0_text q0_length q0_next q0_numbers q0_sort q0_done) s.heap H locs := hH
  refine lv_istore_n (lv' := [(3, .int t1.1), (0, .ref (ad 0)), (1, .int a1), (2, .int a2)]) hx hb dX9_insert_6 rfl hl (by decide) rfl (fun ls hl => ?_)
  refine lv_iload_n hx hb dX9_insert_7 rfl (lv_at hl 0 rfl) ?_
  refine lv_if_eq (tgt := 17) hx hb dX9_insert_8 (by decide) (fun c2 => ?_) (fun c2 => ?_)
  · have hf := ite_t hf c2
    refine lv_aload_n hx hb dX9_insert_17 rfl (lv_at hl 1 rfl) ?_
    obtain ⟨t3, ht3, hf⟩ := ob hf
    refine k_WVsv hC LX9_79 ⟨Nat.le_of_ble_eq_true rfl, Nat.le_of_ble_eq_true rfl⟩ ⟨Nat.zero_le _, Nat.zero_le _⟩ (cM_remembers l E ad q0_why q0_detail t1.2.1 t1.2.2 q0_w q0_undos q0_savedRow q0_mind q0_changes q0_firstChange q0_isSaved q0_at q0_line q0_lineLength q0_text q0_length q0_next q0_numbers q0_sort q0_done t3 ht3) rfl rfl hH rfl rfl rfl hl.1 rfl (Nat.le_of_ble_eq_true rfl) rfl dX9_insert_18 (fun H locs hz18 hH => ?_)
    have hH : Hp E (adr (wM E ad q0_why q0_detail q0_reasonNow q0_detailNow q0_w q0_undos q0_savedRow q0_mind q0_changes q0_firstChange q0_isSaved q0_at q0_line q0_lineLength q0_text q0_length q0_next q0_numbers q0_sort q0_done)) (wM E ad q0_why q0_detail t1.2.1 t1.2.2 q0_w t3.1 q0_savedRow t3.2.1 t3.2.2.1 t3.2.2.2 q0_isSaved q0_at q0_line q0_lineLength q0_text q0_length q0_next q0_numbers q0_sort q0_done) s.heap H locs := hH
    refine lv_aload_n hx hb dX9_insert_21 rfl (lv_at hl 1 rfl) ?_
    refine lv_iload_n hx hb dX9_insert_22 rfl (lv_at hl 2 rfl) ?_
    refine lv_iload_n hx hb dX9_insert_23 rfl (lv_at hl 3 rfl) ?_
    obtain ⟨t4, ht4, hf⟩ := ob hf
    refine k_WVsv hC LX9_82 ⟨Nat.le_of_ble_eq_true rfl, Nat.le_of_ble_eq_true rfl⟩ ⟨Nat.zero_le _, Nat.zero_le _⟩ (cM_comes l E ad q0_why q0_detail t1.2.1 t1.2.2 q0_w t3.1 q0_savedRow t3.2.1 t3.2.2.1 t3.2.2.2 q0_isSaved q0_at q0_line q0_lineLength q0_text q0_length q0_next q0_numbers q0_sort q0_done a1 a2 t4 ht4) rfl rfl hH rfl rfl rfl hl.1 rfl (Nat.le_of_ble_eq_true rfl) rfl dX9_insert_24 (fun H locs hz24 hH => ?_)
    have hH : Hp E (adr (wM E ad q0_why q0_detail q0_reasonNow q0_detailNow q0_w q0_undos q0_savedRow q0_mind q0_changes q0_firstChange q0_isSaved q0_at q0_line q0_lineLength q0_text q0_length q0_next q0_numbers q0_sort q0_done)) (wM E ad q0_why q0_detail t1.2.1 t1.2.2 t4 t3.1 q0_savedRow t3.2.1 t3.2.2.1 t3.2.2.2 q0_isSaved q0_at q0_line q0_lineLength q0_text q0_length q0_next q0_numbers q0_sort q0_done) s.heap H locs := hH
    refine lv_aload_n hx hb dX9_insert_27 rfl (lv_at hl 1 rfl) ?_
    refine gX9_7 hC hH.1 0 rfl (v := .ref (ad 1)) rfl dX9_insert_28 ?_
    refine lv_iconst (v := 0) hx hb dX9_insert_31 (by decide) ?_
    obtain ⟨v5, hv5, hf⟩ := ob hf
    obtain ⟨hv5a, hv5b⟩ := ldA_ok hv5
    refine a_ild hC hH.1 1 rfl hv5a hv5b dX9_insert_32 ?_
    have hf := Option.some.inj hf
    subst hf
    exact e_Wi hC hH hr hlocks rfl rfl dX9_insert_33
  · have hf := ite_f hf c2
    refine lv_aload_n hx hb dX9_insert_11 rfl (lv_at hl 1 rfl) ?_
    refine lv_iload_n hx hb dX9_insert_12 rfl (lv_at hl 0 rfl) ?_
    obtain ⟨t6, ht6, hf⟩ := ob hf
    refine k_WVsi hC LX9_75 ⟨Nat.le_of_ble_eq_true rfl, Nat.le_of_ble_eq_true rfl⟩ ⟨Nat.zero_le _, Nat.zero_le _⟩ (cM_refuses l E ad q0_why q0_detail t1.2.1 t1.2.2 q0_w q0_undos q0_savedRow q0_mind q0_changes q0_firstChange q0_isSaved q0_at q0_line q0_lineLength q0_text q0_length q0_next q0_numbers q0_sort q0_done t1.1 t6 ht6) rfl rfl hH rfl rfl rfl hl.1 rfl (Nat.le_of_ble_eq_true rfl) rfl dX9_insert_13 (fun H locs hz13 hH => ?_)
    have hH : Hp E (adr (wM E ad q0_why q0_detail q0_reasonNow q0_detailNow q0_w q0_undos q0_savedRow q0_mind q0_changes q0_firstChange q0_isSaved q0_at q0_line q0_lineLength q0_text q0_length q0_next q0_numbers q0_sort q0_done)) (wM E ad t6.2.1 t6.2.2 t1.2.1 t1.2.2 q0_w q0_undos q0_savedRow q0_mind q0_changes q0_firstChange q0_isSaved q0_at q0_line q0_lineLength q0_text q0_length q0_next q0_numbers q0_sort q0_done) s.heap H locs := hH
    have hf := Option.some.inj hf
    subst hf
    exact e_Wi hC hH hr hlocks rfl rfl dX9_insert_16
abbrev rmM_goes : Room := { frames := 1, cells := 0, slots := 0, locals := 21 }
set_option maxHeartbeats 4000000 in
set_option maxRecDepth 100000 in
theorem cM_goes (l : Launch) (E : eE) (ad : Nat → Nat) (q0_why : Int32) (q0_detail : Int32) (q0_reasonNow : Int32) (q0_detailNow : Int32) (q0_w : (Nat → Int32)) (q0_undos : (Nat → Int32)) (q0_savedRow : (Nat → Int32)) (q0_mind : (Nat → Int32)) (q0_changes : Int32) (q0_firstChange : Int32) (q0_isSaved : Int32) (q0_at : (Nat → Int32)) (q0_line : (Nat → Int32)) (q0_lineLength : Int32) (q0_text : (Nat → Int32)) (q0_length : Int32) (q0_next : Int32) (q0_numbers : (Nat → Int32)) (q0_sort : Int32) (q0_done : Int32) (a1 : Int32) (t : Int32 × (Nat → Int32)) (hf : fM_goes q0_w a1 = some t) : cW l E yX9_goes cX9_goes 4 (some .int) rmM_goes [.ref (ad 0), .int a1] (wM E ad q0_why q0_detail q0_reasonNow q0_detailNow q0_w q0_undos q0_savedRow q0_mind q0_changes q0_firstChange q0_isSaved q0_at q0_line q0_lineLength q0_text q0_length q0_next q0_numbers q0_sort q0_done) (some (.int t.1)) (wM E ad q0_why q0_detail q0_reasonNow q0_detailNow t.2 q0_undos q0_savedRow q0_mind q0_changes q0_firstChange q0_isSaved q0_at q0_line q0_lineLength q0_text q0_length q0_next q0_numbers q0_sort q0_done) := by
  refine Met.ofW (cc := cX9_goes) (maxL := 4) (ret := (some .int)) (by decide) rfl ?_
  intro p e s m args below meth c s₁ B hml hv
  obtain ⟨hargs, hP, hK, hD0⟩ := hv
  have hx := B.exec
  have hb := B.bytes
  have hr := B.returns
  have hts := atoms_spec (ws := ws_ yX9_goes cX9_goes 4 (some .int)) B.pre
  have hta : ∀ w ∈ lw_all, w.before args s = true := fun w h => hts w (List.mem_cons_of_mem _ h)
  have hown : s.vm.findClass RX9 = some m.cls := findClass_of_methodNamed B.named
  have hlocks := B.notSynchronized
  have hC : Cx p s m args c cX9_goes 4 RX9 E := ⟨hx, hb, hml, hown, hta, hK⟩
  have hH : Hp E (adr (wM E ad q0_why q0_detail q0_reasonNow q0_detailNow q0_w q0_undos q0_savedRow q0_mind q0_changes q0_firstChange q0_isSaved q0_at q0_line q0_lineLength q0_text q0_length q0_next q0_numbers q0_sort q0_done)) (wM E ad q0_why q0_detail q0_reasonNow q0_detailNow q0_w q0_undos q0_savedRow q0_mind q0_changes q0_firstChange q0_isSaved q0_at q0_line q0_lineLength q0_text q0_length q0_next q0_numbers q0_sort q0_done) s.heap s.heap [] := Hp.start hP hD0
  obtain ⟨ls, he, hl⟩ := entry_ (m := m) (n := 4) hargs (Nat.le_of_ble_eq_true rfl)
  rw [he]
  have hl : lv_has ls 4 [(0, .ref (ad 0)), (1, .int a1)] := hl
  show W p l e rmM_goes s m args below meth c s.heap [] 0 0 (MQ below (qW E (some .int) (some (.int t.1)) (wM E ad q0_why q0_detail q0_reasonNow q0_detailNow q0_w q0_undos q0_savedRow q0_mind q0_changes q0_firstChange q0_isSaved q0_at q0_line q0_lineLength q0_text q0_length q0_next q0_numbers q0_sort q0_done) (wM E ad q0_why q0_detail q0_reasonNow q0_detailNow t.2 q0_undos q0_savedRow q0_mind q0_changes q0_firstChange q0_isSaved q0_at q0_line q0_lineLength q0_text q0_length q0_next q0_numbers q0_sort q0_done)) args s 0 0 (adr (wM E ad q0_why q0_detail q0_reasonNow q0_detailNow q0_w q0_undos q0_savedRow q0_mind q0_changes q0_firstChange q0_isSaved q0_at q0_line q0_lineLength q0_text q0_length q0_next q0_numbers q0_sort q0_done))) (F0 m 0 ls [])
  suffices hmain : ∀ (H : Heap) (locs : List Loc), Hp E (adr (wM E ad q0_why q0_detail q0_reasonNow q0_detailNow q0_w q0_undos q0_savedRow q0_mind q0_changes q0_firstChange q0_isSaved q0_at q0_line q0_lineLength q0_text q0_length q0_next q0_numbers q0_sort q0_done)) (wM E ad q0_why q0_detail q0_reasonNow q0_detailNow q0_w q0_undos q0_savedRow q0_mind q0_changes q0_firstChange q0_isSaved q0_at q0_line q0_lineLength q0_text q0_length q0_next q0_numbers q0_sort q0_done) s.heap H locs → W p l e rmM_goes s m args below meth c H locs 0 0 (MQ below (qW E (some .int) (some (.int t.1)) (wM E ad q0_why q0_detail q0_reasonNow q0_detailNow q0_w q0_undos q0_savedRow q0_mind q0_changes q0_firstChange q0_isSaved q0_at q0_line q0_lineLength q0_text q0_length q0_next q0_numbers q0_sort q0_done) (wM E ad q0_why q0_detail q0_reasonNow q0_detailNow t.2 q0_undos q0_savedRow q0_mind q0_changes q0_firstChange q0_isSaved q0_at q0_line q0_lineLength q0_text q0_length q0_next q0_numbers q0_sort q0_done)) args s 0 0 (adr (wM E ad q0_why q0_detail q0_reasonNow q0_detailNow q0_w q0_undos q0_savedRow q0_mind q0_changes q0_firstChange q0_isSaved q0_at q0_line q0_lineLength q0_text q0_length q0_next q0_numbers q0_sort q0_done))) (F0 m 0 ls []) from hmain _ _ hH
  clear hH
  have L28 : ∀ (n : Nat) (y0_4 : (Nat → Int32)) (a2 : Int32) (a3 : Int32) (ls : Array Slot), lv_has ls 4 [(0, .ref (ad 0)), (2, .int a2), (3, .int a3)] → ∀ (H : Heap) (locs : List Loc), Hp E (adr (wM E ad q0_why q0_detail q0_reasonNow q0_detailNow q0_w q0_undos q0_savedRow q0_mind q0_changes q0_firstChange q0_isSaved q0_at q0_line q0_lineLength q0_text q0_length q0_next q0_numbers q0_sort q0_done)) (wM E ad q0_why q0_detail q0_reasonNow q0_detailNow y0_4 q0_undos q0_savedRow q0_mind q0_changes q0_firstChange q0_isSaved q0_at q0_line q0_lineLength q0_text q0_length q0_next q0_numbers q0_sort q0_done) s.heap H locs → fM_goes_28 n y0_4 a2 a3 = some t → W p l e rmM_goes s m args below meth c H locs 0 0 (MQ below (qW E (some .int) (some (.int t.1)) (wM E ad q0_why q0_detail q0_reasonNow q0_detailNow q0_w q0_undos q0_savedRow q0_mind q0_changes q0_firstChange q0_isSaved q0_at q0_line q0_lineLength q0_text q0_length q0_next q0_numbers q0_sort q0_done) (wM E ad q0_why q0_detail q0_reasonNow q0_detailNow t.2 q0_undos q0_savedRow q0_mind q0_changes q0_firstChange q0_isSaved q0_at q0_line q0_lineLength q0_text q0_length q0_next q0_numbers q0_sort q0_done)) args s 0 0 (adr (wM E ad q0_why q0_detail q0_reasonNow q0_detailNow q0_w q0_undos q0_savedRow q0_mind q0_changes q0_firstChange q0_isSaved q0_at q0_line q0_lineLength q0_text q0_length q0_next q0_numbers q0_sort q0_done))) (F0 m 28 ls []) := by
    intro n
    induction n with
    | zero => intro y0_4 a2 a3 ls hl H locs hH hf; cases hf
    | succ n ih =>
      intro y0_4 a2 a3 ls hl H locs hH hf
      rw [fM_goes_28] at hf
      refine lv_iload_n hx hb dX9_goes_28 rfl (lv_at hl 2 rfl) ?_
      refine lv_aload_n hx hb dX9_goes_29 rfl (lv_at hl 0 rfl) ?_
      refine gX9_7 hC hH.1 0 rfl (v := .ref (ad 1)) rfl dX9_goes_30 ?_
      refine lv_iconst (v := 0) hx hb dX9_goes_33 (by decide) ?_
      obtain ⟨v6, hv6, hf⟩ := ob hf
      obtain ⟨hv6a, hv6b⟩ := ldA_ok hv6
      refine a_ild hC hH.1 1 rfl hv6a hv6b dX9_goes_34 ?_
      refine lv_icmp_ge (tgt := 62) hx hb dX9_goes_35 (by decide) (fun c7 => ?_) (fun c7 => ?_)
      · have hf := ite_t hf c7
        refine lv_aload_n hx hb dX9_goes_62 rfl (lv_at hl 0 rfl) ?_
        refine gX9_7 hC hH.1 0 rfl (v := .ref (ad 1)) rfl dX9_goes_63 ?_
        refine lv_iconst (v := 4) hx hb dX9_goes_66 (by decide) ?_
        refine lv_aload_n hx hb dX9_goes_67 rfl (lv_at hl 0 rfl) ?_
        refine gX9_7 hC hH.1 0 rfl (v := .ref (ad 1)) rfl dX9_goes_68 ?_
        refine lv_iconst (v := 0) hx hb dX9_goes_71 (by decide) ?_
        obtain ⟨v8, hv8, hf⟩ := ob hf
        obtain ⟨hv8a, hv8b⟩ := ldA_ok hv8
        refine a_ild hC hH.1 1 rfl hv8a hv8b dX9_goes_72 ?_
        refine lv_iadd hx hb dX9_goes_73 ?_
        refine lv_iconst (v := 0) hx hb dX9_goes_74 (by decide) ?_
        obtain ⟨g9, hg9, hf⟩ := ob hf
        obtain ⟨hg9a, hg9b⟩ := stA_ok hg9
        refine a_ist hC hH 1 rfl hg9a hg9b (W1 := wM E ad q0_why q0_detail q0_reasonNow q0_detailNow g9 q0_undos q0_savedRow q0_mind q0_changes q0_firstChange q0_isSaved q0_at q0_line q0_lineLength q0_text q0_length q0_next q0_numbers q0_sort q0_done) rfl dX9_goes_75 (fun H locs hH => ?_)
        refine lv_iload_n hx hb dX9_goes_76 rfl (lv_at hl 1 rfl) ?_
        have hf := Option.some.inj hf
        subst hf
        exact e_Wi hC hH hr hlocks rfl rfl dX9_goes_77
      · have hf := ite_f hf c7
        refine lv_aload_n hx hb dX9_goes_38 rfl (lv_at hl 0 rfl) ?_
        refine gX9_7 hC hH.1 0 rfl (v := .ref (ad 1)) rfl dX9_goes_39 ?_
        refine lv_iconst (v := 4) hx hb dX9_goes_42 (by decide) ?_
        refine lv_iload_n hx hb dX9_goes_43 rfl (lv_at hl 2 rfl) ?_
        refine lv_iadd hx hb dX9_goes_44 ?_
        refine lv_aload_n hx hb dX9_goes_45 rfl (lv_at hl 0 rfl) ?_
        refine gX9_7 hC hH.1 0 rfl (v := .ref (ad 1)) rfl dX9_goes_46 ?_
        refine lv_iconst (v := 4) hx hb dX9_goes_49 (by decide) ?_
        refine lv_iload_n hx hb dX9_goes_50 rfl (lv_at hl 2 rfl) ?_
        refine lv_iadd hx hb dX9_goes_51 ?_
        refine lv_iconst (v := 1) hx hb dX9_goes_52 (by decide) ?_
        refine lv_iadd hx hb dX9_goes_53 ?_
        obtain ⟨v10, hv10, hf⟩ := ob hf
        obtain ⟨hv10a, hv10b⟩ := ldA_ok hv10
        refine a_ild hC hH.1 1 rfl hv10a hv10b dX9_goes_54 ?_
        obtain ⟨g11, hg11, hf⟩ := ob hf
        obtain ⟨hg11a, hg11b⟩ := stA_ok hg11
        refine a_ist hC hH 1 rfl hg11a hg11b (W1 := wM E ad q0_why q0_detail q0_reasonNow q0_detailNow g11 q0_undos q0_savedRow q0_mind q0_changes q0_firstChange q0_isSaved q0_at q0_line q0_lineLength q0_text q0_length q0_next q0_numbers q0_sort q0_done) rfl dX9_goes_55 (fun H locs hH => ?_)
        refine lv_iinc (v := (a3 + (1 : Int32))) (lv' := [(3, .int (a3 + (1 : Int32))), (0, .ref (ad 0)), (2, .int a2)]) hx hb dX9_goes_56 hl (k := 2) rfl rfl (by decide) rfl (fun ls hl => ?_)
        refine lv_goto (tgt := 28) hx hb dX9_goes_59 (by decide) ?_
        exact ih g11 a2 (a3 + (1 : Int32)) ls (lv_sub hl [1, 2, 0] rfl) _ _ hH hf
  intro H locs hH
  rw [fM_goes] at hf
  refine lv_aload_n hx hb dX9_goes_0 rfl (lv_at hl 0 rfl) ?_
  refine lv_iload_n hx hb dX9_goes_1 rfl (lv_at hl 1 rfl) ?_
  obtain ⟨t1, ht1, hf⟩ := ob hf
  refine k_PVi hC LX9_86 ⟨Nat.le_of_ble_eq_true rfl, Nat.le_of_ble_eq_true rfl⟩ ⟨Nat.zero_le _, Nat.zero_le _⟩ (cM_is l E ad q0_why q0_detail q0_reasonNow q0_detailNow q0_w q0_undos q0_savedRow q0_mind q0_changes q0_firstChange q0_isSaved q0_at q0_line q0_lineLength q0_text q0_length q0_next q0_numbers q0_sort q0_done a1 t1 ht1) rfl rfl hH.1 rfl rfl hl.1 rfl (Nat.le_of_ble_eq_true rfl) rfl dX9_goes_2 (fun hz2 => ?_)
  refine lv_istore_n (lv' := [(2, .int t1), (0, .ref (ad 0)), (1, .int a1)]) hx hb dX9_goes_5 rfl hl (by decide) rfl (fun ls hl => ?_)
  refine lv_aload_n hx hb dX9_goes_6 rfl (lv_at hl 1 rfl) ?_
  refine gX9_7 hC hH.1 0 rfl (v := .ref (ad 1)) rfl dX9_goes_7 ?_
  refine lv_iconst (v := 0) hx hb dX9_goes_10 (by decide) ?_
  refine lv_dup2_11 hx hb dX9_goes_11 rfl rfl ?_
  obtain ⟨v2, hv2, hf⟩ := ob hf
  obtain ⟨hv2a, hv2b⟩ := ldA_ok hv2
  refine a_ild hC hH.1 1 rfl hv2a hv2b dX9_goes_12 ?_
  refine lv_iconst (v := 1) hx hb dX9_goes_13 (by decide) ?_
  refine lv_isub hx hb dX9_goes_14 ?_
  obtain ⟨g3, hg3, hf⟩ := ob hf
  obtain ⟨hg3a, hg3b⟩ := stA_ok hg3
  refine a_ist hC hH 1 rfl hg3a hg3b (W1 := wM E ad q0_why q0_detail q0_reasonNow q0_detailNow g3 q0_undos q0_savedRow q0_mind q0_changes q0_firstChange q0_isSaved q0_at q0_line q0_lineLength q0_text q0_length q0_next q0_numbers q0_sort q0_done) rfl dX9_goes_15 (fun H locs hH => ?_)
  refine lv_aload_n hx hb dX9_goes_16 rfl (lv_at hl 1 rfl) ?_
  refine gX9_7 hC hH.1 0 rfl (v := .ref (ad 1)) rfl dX9_goes_17 ?_
  refine lv_iconst (v := 2) hx hb dX9_goes_20 (by decide) ?_
  refine lv_dup2_11 hx hb dX9_goes_21 rfl rfl ?_
  obtain ⟨v4, hv4, hf⟩ := ob hf
  obtain ⟨hv4a, hv4b⟩ := ldA_ok hv4
  refine a_ild hC hH.1 1 rfl hv4a hv4b dX9_goes_22 ?_
  refine lv_iconst (v := 1) hx hb dX9_goes_23 (by decide) ?_
  refine lv_iadd hx hb dX9_goes_24 ?_
  obtain ⟨g5, hg5, hf⟩ := ob hf
  obtain ⟨hg5a, hg5b⟩ := stA_ok hg5
  refine a_ist hC hH 1 rfl hg5a hg5b (W1 := wM E ad q0_why q0_detail q0_reasonNow q0_detailNow g5 q0_undos q0_savedRow q0_mind q0_changes q0_firstChange q0_isSaved q0_at q0_line q0_lineLength q0_text q0_length q0_next q0_numbers q0_sort q0_done) rfl dX9_goes_25 (fun H locs hH => ?_)
  refine lv_iload_n hx hb dX9_goes_26 rfl (lv_at hl 2 rfl) ?_
  refine lv_istore_n (lv' := [(3, .int a1), (2, .int t1), (0, .ref (ad 0)), (1, .int a1)]) hx hb dX9_goes_27 rfl hl (by decide) rfl (fun ls hl => ?_)
  exact L28 FU g5 t1 a1 ls (lv_sub hl [2, 1, 0] rfl) _ _ hH hf
abbrev rmM_take : Room := { frames := 2, cells := 0, slots := 0, locals := 44 }
set_option maxHeartbeats 4000000 in
set_option maxRecDepth 100000 in
theorem cM_take (l : Launch) (E : eE) (ad : Nat → Nat) (q0_why : Int32) (q0_detail : Int32) (q0_reasonNow : Int32) (q0_detailNow : Int32) (q0_w : (Nat → Int32)) (q0_undos : (Nat → Int32)) (q0_savedRow : (Nat → Int32)) (q0_mind : (Nat → Int32)) (q0_changes : Int32) (q0_firstChange : Int32) (q0_isSaved : Int32) (q0_at : (Nat → Int32)) (q0_line : (Nat → Int32)) (q0_lineLength : Int32) (q0_text : (Nat → Int32)) (q0_length : Int32) (q0_next : Int32) (q0_numbers : (Nat → Int32)) (q0_sort : Int32) (q0_done : Int32) (a1 : Int32) (t : Int32 × (Nat → Int32) × (Nat → Int32) × (Nat → Int32) × Int32 × Int32) (hf : fM_take q0_w q0_undos q0_mind q0_changes q0_firstChange a1 = some t) : cW l E yX9_take cX9_take 2 (some .int) rmM_take [.ref (ad 0), .int a1] (wM E ad q0_why q0_detail q0_reasonNow q0_detailNow q0_w q0_undos q0_savedRow q0_mind q0_changes q0_firstChange q0_isSaved q0_at q0_line q0_lineLength q0_text q0_length q0_next q0_numbers q0_sort q0_done) (some (.int t.1)) (wM E ad q0_why q0_detail q0_reasonNow q0_detailNow t.2.1 t.2.2.1 q0_savedRow t.2.2.2.1 t.2.2.2.2.1 t.2.2.2.2.2 q0_isSaved q0_at q0_line q0_lineLength q0_text q0_length q0_next q0_numbers q0_sort q0_done) := by
  refine Met.ofW (cc := cX9_take) (maxL := 2) (ret := (some .int)) (by decide) rfl ?_
  intro p e s m args below meth c s₁ B hml hv
  obtain ⟨hargs, hP, hK, hD0⟩ := hv
  have hx := B.exec
  have hb := B.bytes
  have hr := B.returns
  have hts := atoms_spec (ws := ws_ yX9_take cX9_take 2 (some .int)) B.pre
  have hta : ∀ w ∈ lw_all, w.before args s = true := fun w h => hts w (List.mem_cons_of_mem _ h)
  have hown : s.vm.findClass RX9 = some m.cls := findClass_of_methodNamed B.named
  have hlocks := B.notSynchronized
  have hC : Cx p s m args c cX9_take 2 RX9 E := ⟨hx, hb, hml, hown, hta, hK⟩
  have hH : Hp E (adr (wM E ad q0_why q0_detail q0_reasonNow q0_detailNow q0_w q0_undos q0_savedRow q0_mind q0_changes q0_firstChange q0_isSaved q0_at q0_line q0_lineLength q0_text q0_length q0_next q0_numbers q0_sort q0_done)) (wM E ad q0_why q0_detail q0_reasonNow q0_detailNow q0_w q0_undos q0_savedRow q0_mind q0_changes q0_firstChange q0_isSaved q0_at q0_line q0_lineLength q0_text q0_length q0_next q0_numbers q0_sort q0_done) s.heap s.heap [] := Hp.start hP hD0
  obtain ⟨ls, he, hl⟩ := entry_ (m := m) (n := 2) hargs (Nat.le_of_ble_eq_true rfl)
  rw [he]
  have hl : lv_has ls 2 [(0, .ref (ad 0)), (1, .int a1)] := hl
  show W p l e rmM_take s m args below meth c s.heap [] 0 0 (MQ below (qW E (some .int) (some (.int t.1)) (wM E ad q0_why q0_detail q0_reasonNow q0_detailNow q0_w q0_undos q0_savedRow q0_mind q0_changes q0_firstChange q0_isSaved q0_at q0_line q0_lineLength q0_text q0_length q0_next q0_numbers q0_sort q0_done) (wM E ad q0_why q0_detail q0_reasonNow q0_detailNow t.2.1 t.2.2.1 q0_savedRow t.2.2.2.1 t.2.2.2.2.1 t.2.2.2.2.2 q0_isSaved q0_at q0_line q0_lineLength q0_text q0_length q0_next q0_numbers q0_sort q0_done)) args s 0 0 (adr (wM E ad q0_why q0_detail q0_reasonNow q0_detailNow q0_w q0_undos q0_savedRow q0_mind q0_changes q0_firstChange q0_isSaved q0_at q0_line q0_lineLength q0_text q0_length q0_next q0_numbers q0_sort q0_done))) (F0 m 0 ls [])
  suffices hmain : ∀ (H : Heap) (locs : List Loc), Hp E (adr (wM E ad q0_why q0_detail q0_reasonNow q0_detailNow q0_w q0_undos q0_savedRow q0_mind q0_changes q0_firstChange q0_isSaved q0_at q0_line q0_lineLength q0_text q0_length q0_next q0_numbers q0_sort q0_done)) (wM E ad q0_why q0_detail q0_reasonNow q0_detailNow q0_w q0_undos q0_savedRow q0_mind q0_changes q0_firstChange q0_isSaved q0_at q0_line q0_lineLength q0_text q0_length q0_next q0_numbers q0_sort q0_done) s.heap H locs → W p l e rmM_take s m args below meth c H locs 0 0 (MQ below (qW E (some .int) (some (.int t.1)) (wM E ad q0_why q0_detail q0_reasonNow q0_detailNow q0_w q0_undos q0_savedRow q0_mind q0_changes q0_firstChange q0_isSaved q0_at q0_line q0_lineLength q0_text q0_length q0_next q0_numbers q0_sort q0_done) (wM E ad q0_why q0_detail q0_reasonNow q0_detailNow t.2.1 t.2.2.1 q0_savedRow t.2.2.2.1 t.2.2.2.2.1 t.2.2.2.2.2 q0_isSaved q0_at q0_line q0_lineLength q0_text q0_length q0_next q0_numbers q0_sort q0_done)) args s 0 0 (adr (wM E ad q0_why q0_detail q0_reasonNow q0_detailNow q0_w q0_undos q0_savedRow q0_mind q0_changes q0_firstChange q0_isSaved q0_at q0_line q0_lineLength q0_text q0_length q0_next q0_numbers q0_sort q0_done))) (F0 m 0 ls []) from hmain _ _ hH
  clear hH
  intro H locs hH
  rw [fM_take] at hf
  refine lv_aload_n hx hb dX9_take_0 rfl (lv_at hl 0 rfl) ?_
  refine lv_iload_n hx hb dX9_take_1 rfl (lv_at hl 1 rfl) ?_
  obtain ⟨t1, ht1, hf⟩ := ob hf
  refine k_PVi hC LX9_89 ⟨Nat.le_of_ble_eq_true rfl, Nat.le_of_ble_eq_true rfl⟩ ⟨Nat.zero_le _, Nat.zero_le _⟩ (cM_isLetter l E ad q0_why q0_detail q0_reasonNow q0_detailNow q0_w q0_undos q0_savedRow q0_mind q0_changes q0_firstChange q0_isSaved q0_at q0_line q0_lineLength q0_text q0_length q0_next q0_numbers q0_sort q0_done a1 t1 ht1) rfl rfl hH.1 rfl rfl hl.1 rfl (Nat.le_of_ble_eq_true rfl) rfl dX9_take_2 (fun hz2 => ?_)
  refine lv_if_ne (tgt := 11) hx hb dX9_take_5 (by decide) (fun c2 => ?_) (fun c2 => ?_)
  · have hf := ite_f hf c2
    refine lv_aload_n hx hb dX9_take_11 rfl (lv_at hl 0 rfl) ?_
    obtain ⟨t3, ht3, hf⟩ := ob hf
    refine k_WVsv hC LX9_79 ⟨Nat.le_of_ble_eq_true rfl, Nat.le_of_ble_eq_true rfl⟩ ⟨Nat.zero_le _, Nat.zero_le _⟩ (cM_remembers l E ad q0_why q0_detail q0_reasonNow q0_detailNow q0_w q0_undos q0_savedRow q0_mind q0_changes q0_firstChange q0_isSaved q0_at q0_line q0_lineLength q0_text q0_length q0_next q0_numbers q0_sort q0_done t3 ht3) rfl rfl hH rfl rfl rfl hl.1 rfl (Nat.le_of_ble_eq_true rfl) rfl dX9_take_12 (fun H locs hz12 hH => ?_)
    have hH : Hp E (adr (wM E ad q0_why q0_detail q0_reasonNow q0_detailNow q0_w q0_undos q0_savedRow q0_mind q0_changes q0_firstChange q0_isSaved q0_at q0_line q0_lineLength q0_text q0_length q0_next q0_numbers q0_sort q0_done)) (wM E ad q0_why q0_detail q0_reasonNow q0_detailNow q0_w t3.1 q0_savedRow t3.2.1 t3.2.2.1 t3.2.2.2 q0_isSaved q0_at q0_line q0_lineLength q0_text q0_length q0_next q0_numbers q0_sort q0_done) s.heap H locs := hH
    refine lv_aload_n hx hb dX9_take_15 rfl (lv_at hl 0 rfl) ?_
    refine lv_iload_n hx hb dX9_take_16 rfl (lv_at hl 1 rfl) ?_
    obtain ⟨t4, ht4, hf⟩ := ob hf
    refine k_WVsi hC LX9_92 ⟨Nat.le_of_ble_eq_true rfl, Nat.le_of_ble_eq_true rfl⟩ ⟨Nat.zero_le _, Nat.zero_le _⟩ (cM_goes l E ad q0_why q0_detail q0_reasonNow q0_detailNow q0_w t3.1 q0_savedRow t3.2.1 t3.2.2.1 t3.2.2.2 q0_isSaved q0_at q0_line q0_lineLength q0_text q0_length q0_next q0_numbers q0_sort q0_done a1 t4 ht4) rfl rfl hH rfl rfl rfl hl.1 rfl (Nat.le_of_ble_eq_true rfl) rfl dX9_take_17 (fun H locs hz17 hH => ?_)
    have hH : Hp E (adr (wM E ad q0_why q0_detail q0_reasonNow q0_detailNow q0_w q0_undos q0_savedRow q0_mind q0_changes q0_firstChange q0_isSaved q0_at q0_line q0_lineLength q0_text q0_length q0_next q0_numbers q0_sort q0_done)) (wM E ad q0_why q0_detail q0_reasonNow q0_detailNow t4.2 t3.1 q0_savedRow t3.2.1 t3.2.2.1 t3.2.2.2 q0_isSaved q0_at q0_line q0_lineLength q0_text q0_length q0_next q0_numbers q0_sort q0_done) s.heap H locs := hH
    have hf := Option.some.inj hf
    subst hf
    exact e_Wi hC hH hr hlocks rfl rfl dX9_take_20
  · have hf := ite_t hf c2
    refine lv_bipush (v := (-11)) hx hb dX9_take_8 (by decide) ?_
    have hf := Option.some.inj hf
    subst hf
    exact e_Wi hC hH hr hlocks rfl rfl dX9_take_10
abbrev rmM_notSwap : Room := { frames := 2, cells := 0, slots := 0, locals := 43 }
set_option maxHeartbeats 4000000 in
set_option maxRecDepth 100000 in
theorem cM_notSwap (l : Launch) (E : eE) (ad : Nat → Nat) (q0_why : Int32) (q0_detail : Int32) (q0_reasonNow : Int32) (q0_detailNow : Int32) (q0_w : (Nat → Int32)) (q0_undos : (Nat → Int32)) (q0_savedRow : (Nat → Int32)) (q0_mind : (Nat → Int32)) (q0_changes : Int32) (q0_firstChange : Int32) (q0_isSaved : Int32) (q0_at : (Nat → Int32)) (q0_line : (Nat → Int32)) (q0_lineLength : Int32) (q0_text : (Nat → Int32)) (q0_length : Int32) (q0_next : Int32) (q0_numbers : (Nat → Int32)) (q0_sort : Int32) (q0_done : Int32) (a1 : Int32) (t : Int32 × Int32 × Int32) (hf : fM_notSwap q0_reasonNow q0_detailNow q0_w a1 = some t) : cW l E yX9_notSwap cX9_notSwap 2 (some .int) rmM_notSwap [.ref (ad 0), .int a1] (wM E ad q0_why q0_detail q0_reasonNow q0_detailNow q0_w q0_undos q0_savedRow q0_mind q0_changes q0_firstChange q0_isSaved q0_at q0_line q0_lineLength q0_text q0_length q0_next q0_numbers q0_sort q0_done) (some (.int t.1)) (wM E ad q0_why q0_detail t.2.1 t.2.2 q0_w q0_undos q0_savedRow q0_mind q0_changes q0_firstChange q0_isSaved q0_at q0_line q0_lineLength q0_text q0_length q0_next q0_numbers q0_sort q0_done) := by
  refine Met.ofW (cc := cX9_notSwap) (maxL := 2) (ret := (some .int)) (by decide) rfl ?_
  intro p e s m args below meth c s₁ B hml hv
  obtain ⟨hargs, hP, hK, hD0⟩ := hv
  have hx := B.exec
  have hb := B.bytes
  have hr := B.returns
  have hts := atoms_spec (ws := ws_ yX9_notSwap cX9_notSwap 2 (some .int)) B.pre
  have hta : ∀ w ∈ lw_all, w.before args s = true := fun w h => hts w (List.mem_cons_of_mem _ h)
  have hown : s.vm.findClass RX9 = some m.cls := findClass_of_methodNamed B.named
  have hlocks := B.notSynchronized
  have hC : Cx p s m args c cX9_notSwap 2 RX9 E := ⟨hx, hb, hml, hown, hta, hK⟩
  have hH : Hp E (adr (wM E ad q0_why q0_detail q0_reasonNow q0_detailNow q0_w q0_undos q0_savedRow q0_mind q0_changes q0_firstChange q0_isSaved q0_at q0_line q0_lineLength q0_text q0_length q0_next q0_numbers q0_sort q0_done)) (wM E ad q0_why q0_detail q0_reasonNow q0_detailNow q0_w q0_undos q0_savedRow q0_mind q0_changes q0_firstChange q0_isSaved q0_at q0_line q0_lineLength q0_text q0_length q0_next q0_numbers q0_sort q0_done) s.heap s.heap [] := Hp.start hP hD0
  obtain ⟨ls, he, hl⟩ := entry_ (m := m) (n := 2) hargs (Nat.le_of_ble_eq_true rfl)
  rw [he]
  have hl : lv_has ls 2 [(0, .ref (ad 0)), (1, .int a1)] := hl
  show W p l e rmM_notSwap s m args below meth c s.heap [] 0 0 (MQ below (qW E (some .int) (some (.int t.1)) (wM E ad q0_why q0_detail q0_reasonNow q0_detailNow q0_w q0_undos q0_savedRow q0_mind q0_changes q0_firstChange q0_isSaved q0_at q0_line q0_lineLength q0_text q0_length q0_next q0_numbers q0_sort q0_done) (wM E ad q0_why q0_detail t.2.1 t.2.2 q0_w q0_undos q0_savedRow q0_mind q0_changes q0_firstChange q0_isSaved q0_at q0_line q0_lineLength q0_text q0_length q0_next q0_numbers q0_sort q0_done)) args s 0 0 (adr (wM E ad q0_why q0_detail q0_reasonNow q0_detailNow q0_w q0_undos q0_savedRow q0_mind q0_changes q0_firstChange q0_isSaved q0_at q0_line q0_lineLength q0_text q0_length q0_next q0_numbers q0_sort q0_done))) (F0 m 0 ls [])
  suffices hmain : ∀ (H : Heap) (locs : List Loc), Hp E (adr (wM E ad q0_why q0_detail q0_reasonNow q0_detailNow q0_w q0_undos q0_savedRow q0_mind q0_changes q0_firstChange q0_isSaved q0_at q0_line q0_lineLength q0_text q0_length q0_next q0_numbers q0_sort q0_done)) (wM E ad q0_why q0_detail q0_reasonNow q0_detailNow q0_w q0_undos q0_savedRow q0_mind q0_changes q0_firstChange q0_isSaved q0_at q0_line q0_lineLength q0_text q0_length q0_next q0_numbers q0_sort q0_done) s.heap H locs → W p l e rmM_notSwap s m args below meth c H locs 0 0 (MQ below (qW E (some .int) (some (.int t.1)) (wM E ad q0_why q0_detail q0_reasonNow q0_detailNow q0_w q0_undos q0_savedRow q0_mind q0_changes q0_firstChange q0_isSaved q0_at q0_line q0_lineLength q0_text q0_length q0_next q0_numbers q0_sort q0_done) (wM E ad q0_why q0_detail t.2.1 t.2.2 q0_w q0_undos q0_savedRow q0_mind q0_changes q0_firstChange q0_isSaved q0_at q0_line q0_lineLength q0_text q0_length q0_next q0_numbers q0_sort q0_done)) args s 0 0 (adr (wM E ad q0_why q0_detail q0_reasonNow q0_detailNow q0_w q0_undos q0_savedRow q0_mind q0_changes q0_firstChange q0_isSaved q0_at q0_line q0_lineLength q0_text q0_length q0_next q0_numbers q0_sort q0_done))) (F0 m 0 ls []) from hmain _ _ hH
  clear hH
  intro H locs hH
  rw [fM_notSwap] at hf
  refine lv_aload_n hx hb dX9_notSwap_0 rfl (lv_at hl 0 rfl) ?_
  refine lv_iload_n hx hb dX9_notSwap_1 rfl (lv_at hl 1 rfl) ?_
  obtain ⟨t1, ht1, hf⟩ := ob hf
  refine k_PVi hC LX9_89 ⟨Nat.le_of_ble_eq_true rfl, Nat.le_of_ble_eq_true rfl⟩ ⟨Nat.zero_le _, Nat.zero_le _⟩ (cM_isLetter l E ad q0_why q0_detail q0_reasonNow q0_detailNow q0_w q0_undos q0_savedRow q0_mind q0_changes q0_firstChange q0_isSaved q0_at q0_line q0_lineLength q0_text q0_length q0_next q0_numbers q0_sort q0_done a1 t1 ht1) rfl rfl hH.1 rfl rfl hl.1 rfl (Nat.le_of_ble_eq_true rfl) rfl dX9_notSwap_2 (fun hz2 => ?_)
  refine lv_if_eq (tgt := 18) hx hb dX9_notSwap_5 (by decide) (fun c2 => ?_) (fun c2 => ?_)
  · have hf := ite_t hf c2
    refine lv_bipush (v := (-11)) hx hb dX9_notSwap_18 (by decide) ?_
    have hf := Option.some.inj hf
    subst hf
    exact e_Wi hC hH hr hlocks rfl rfl dX9_notSwap_20
  · have hf := ite_f hf c2
    refine lv_aload_n hx hb dX9_notSwap_8 rfl (lv_at hl 0 rfl) ?_
    refine lv_iload_n hx hb dX9_notSwap_9 rfl (lv_at hl 1 rfl) ?_
    refine lv_iconst (v := 1) hx hb dX9_notSwap_10 (by decide) ?_
    refine lv_iadd hx hb dX9_notSwap_11 ?_
    obtain ⟨t3, ht3, hf⟩ := ob hf
    refine k_PVi hC LX9_89 ⟨Nat.le_of_ble_eq_true rfl, Nat.le_of_ble_eq_true rfl⟩ ⟨Nat.zero_le _, Nat.zero_le _⟩ (cM_isLetter l E ad q0_why q0_detail q0_reasonNow q0_detailNow q0_w q0_undos q0_savedRow q0_mind q0_changes q0_firstChange q0_isSaved q0_at q0_line q0_lineLength q0_text q0_length q0_next q0_numbers q0_sort q0_done (a1 + (1 : Int32)) t3 ht3) rfl rfl hH.1 rfl rfl hl.1 rfl (Nat.le_of_ble_eq_true rfl) rfl dX9_notSwap_12 (fun hz12 => ?_)
    refine lv_if_ne (tgt := 21) hx hb dX9_notSwap_15 (by decide) (fun c4 => ?_) (fun c4 => ?_)
    · have hf := ite_f hf c4
      refine lv_aload_n hx hb dX9_notSwap_21 rfl (lv_at hl 0 rfl) ?_
      refine lv_iload_n hx hb dX9_notSwap_22 rfl (lv_at hl 1 rfl) ?_
      obtain ⟨t5, ht5, hf⟩ := ob hf
      refine k_PVi hC LX9_86 ⟨Nat.le_of_ble_eq_true rfl, Nat.le_of_ble_eq_true rfl⟩ ⟨Nat.zero_le _, Nat.zero_le _⟩ (cM_is l E ad q0_why q0_detail q0_reasonNow q0_detailNow q0_w q0_undos q0_savedRow q0_mind q0_changes q0_firstChange q0_isSaved q0_at q0_line q0_lineLength q0_text q0_length q0_next q0_numbers q0_sort q0_done a1 t5 ht5) rfl rfl hH.1 rfl rfl hl.1 rfl (Nat.le_of_ble_eq_true rfl) rfl dX9_notSwap_23 (fun hz23 => ?_)
      refine lv_aload_n hx hb dX9_notSwap_26 rfl (lv_at hl 0 rfl) ?_
      refine lv_iload_n hx hb dX9_notSwap_27 rfl (lv_at hl 1 rfl) ?_
      refine lv_iconst (v := 1) hx hb dX9_notSwap_28 (by decide) ?_
      refine lv_iadd hx hb dX9_notSwap_29 ?_
      obtain ⟨t6, ht6, hf⟩ := ob hf
      refine k_PVi hC LX9_86 ⟨Nat.le_of_ble_eq_true rfl, Nat.le_of_ble_eq_true rfl⟩ ⟨Nat.zero_le _, Nat.zero_le _⟩ (cM_is l E ad q0_why q0_detail q0_reasonNow q0_detailNow q0_w q0_undos q0_savedRow q0_mind q0_changes q0_firstChange q0_isSaved q0_at q0_line q0_lineLength q0_text q0_length q0_next q0_numbers q0_sort q0_done (a1 + (1 : Int32)) t6 ht6) rfl rfl hH.1 rfl rfl hl.1 rfl (Nat.le_of_ble_eq_true rfl) rfl dX9_notSwap_30 (fun hz30 => ?_)
      refine lv_icmp_ne (tgt := 49) hx hb dX9_notSwap_33 (by decide) (fun c7 => ?_) (fun c7 => ?_)
      · have hf := ite_f hf c7
        refine lv_iconst (v := 0) hx hb dX9_notSwap_49 (by decide) ?_
        have hf := Option.some.inj hf
        subst hf
        exact e_Wi hC hH hr hlocks rfl rfl dX9_notSwap_50
      · have hf := ite_t hf c7
        refine lv_aload_n hx hb dX9_notSwap_36 rfl (lv_at hl 0 rfl) ?_
        refine lv_iconst (v := 2) hx hb dX9_notSwap_37 (by decide) ?_
        refine lv_aload_n hx hb dX9_notSwap_38 rfl (lv_at hl 0 rfl) ?_
        refine lv_iload_n hx hb dX9_notSwap_39 rfl (lv_at hl 1 rfl) ?_
        obtain ⟨t8, ht8, hf⟩ := ob hf
        refine k_PVi hC LX9_86 ⟨Nat.le_of_ble_eq_true rfl, Nat.le_of_ble_eq_true rfl⟩ ⟨Nat.zero_le _, Nat.zero_le _⟩ (cM_is l E ad q0_why q0_detail q0_reasonNow q0_detailNow q0_w q0_undos q0_savedRow q0_mind q0_changes q0_firstChange q0_isSaved q0_at q0_line q0_lineLength q0_text q0_length q0_next q0_numbers q0_sort q0_done a1 t8 ht8) rfl rfl hH.1 rfl rfl hl.1 rfl (Nat.le_of_ble_eq_true rfl) rfl dX9_notSwap_40 (fun hz40 => ?_)
        obtain ⟨t9, ht9, hf⟩ := ob hf
        refine k_WVsi hC LX9_68 ⟨Nat.le_of_ble_eq_true rfl, Nat.le_of_ble_eq_true rfl⟩ ⟨Nat.zero_le _, Nat.zero_le _⟩ (cM_isNot l E ad q0_why q0_detail q0_reasonNow q0_detailNow q0_w q0_undos q0_savedRow q0_mind q0_changes q0_firstChange q0_isSaved q0_at q0_line q0_lineLength q0_text q0_length q0_next q0_numbers q0_sort q0_done (2 : Int32) t8 t9 ht9) rfl rfl hH rfl rfl rfl hl.1 rfl (Nat.le_of_ble_eq_true rfl) rfl dX9_notSwap_43 (fun H locs hz43 hH => ?_)
        have hH : Hp E (adr (wM E ad q0_why q0_detail q0_reasonNow q0_detailNow q0_w q0_undos q0_savedRow q0_mind q0_changes q0_firstChange q0_isSaved q0_at q0_line q0_lineLength q0_text q0_length q0_next q0_numbers q0_sort q0_done)) (wM E ad q0_why q0_detail t9.2.1 t9.2.2 q0_w q0_undos q0_savedRow q0_mind q0_changes q0_firstChange q0_isSaved q0_at q0_line q0_lineLength q0_text q0_length q0_next q0_numbers q0_sort q0_done) s.heap H locs := hH
        refine lv_goto (tgt := 50) hx hb dX9_notSwap_46 (by decide) ?_
        have hf := Option.some.inj hf
        subst hf
        exact e_Wi hC hH hr hlocks rfl rfl dX9_notSwap_50
    · have hf := ite_t hf c4
      refine lv_bipush (v := (-11)) hx hb dX9_notSwap_18 (by decide) ?_
      have hf := Option.some.inj hf
      subst hf
      exact e_Wi hC hH hr hlocks rfl rfl dX9_notSwap_20
abbrev rmM_swaps : Room := { frames := 1, cells := 0, slots := 0, locals := 21 }
set_option maxHeartbeats 4000000 in
set_option maxRecDepth 100000 in
theorem cM_swaps (l : Launch) (E : eE) (ad : Nat → Nat) (q0_why : Int32) (q0_detail : Int32) (q0_reasonNow : Int32) (q0_detailNow : Int32) (q0_w : (Nat → Int32)) (q0_undos : (Nat → Int32)) (q0_savedRow : (Nat → Int32)) (q0_mind : (Nat → Int32)) (q0_changes : Int32) (q0_firstChange : Int32) (q0_isSaved : Int32) (q0_at : (Nat → Int32)) (q0_line : (Nat → Int32)) (q0_lineLength : Int32) (q0_text : (Nat → Int32)) (q0_length : Int32) (q0_next : Int32) (q0_numbers : (Nat → Int32)) (q0_sort : Int32) (q0_done : Int32) (a1 : Int32) (t : Int32 × (Nat → Int32)) (hf : fM_swaps q0_w a1 = some t) : cW l E yX9_swaps cX9_swaps 3 (some .int) rmM_swaps [.ref (ad 0), .int a1] (wM E ad q0_why q0_detail q0_reasonNow q0_detailNow q0_w q0_undos q0_savedRow q0_mind q0_changes q0_firstChange q0_isSaved q0_at q0_line q0_lineLength q0_text q0_length q0_next q0_numbers q0_sort q0_done) (some (.int t.1)) (wM E ad q0_why q0_detail q0_reasonNow q0_detailNow t.2 q0_undos q0_savedRow q0_mind q0_changes q0_firstChange q0_isSaved q0_at q0_line q0_lineLength q0_text q0_length q0_next q0_numbers q0_sort q0_done) := by
  refine Met.ofW (cc := cX9_swaps) (maxL := 3) (ret := (some .int)) (by decide) rfl ?_
  intro p e s m args below meth c s₁ B hml hv
  obtain ⟨hargs, hP, hK, hD0⟩ := hv
  have hx := B.exec
  have hb := B.bytes
  have hr := B.returns
  have hts := atoms_spec (ws := ws_ yX9_swaps cX9_swaps 3 (some .int)) B.pre
  have hta : ∀ w ∈ lw_all, w.before args s = true := fun w h => hts w (List.mem_cons_of_mem _ h)
  have hown : s.vm.findClass RX9 = some m.cls := findClass_of_methodNamed B.named
  have hlocks := B.notSynchronized
  have hC : Cx p s m args c cX9_swaps 3 RX9 E := ⟨hx, hb, hml, hown, hta, hK⟩
  have hH : Hp E (adr (wM E ad q0_why q0_detail q0_reasonNow q0_detailNow q0_w q0_undos q0_savedRow q0_mind q0_changes q0_firstChange q0_isSaved q0_at q0_line q0_lineLength q0_text q0_length q0_next q0_numbers q0_sort q0_done)) (wM E ad q0_why q0_detail q0_reasonNow q0_detailNow q0_w q0_undos q0_savedRow q0_mind q0_changes q0_firstChange q0_isSaved q0_at q0_line q0_lineLength q0_text q0_length q0_next q0_numbers q0_sort q0_done) s.heap s.heap [] := Hp.start hP hD0
  obtain ⟨ls, he, hl⟩ := entry_ (m := m) (n := 3) hargs (Nat.le_of_ble_eq_true rfl)
  rw [he]
  have hl : lv_has ls 3 [(0, .ref (ad 0)), (1, .int a1)] := hl
  show W p l e rmM_swaps s m args below meth c s.heap [] 0 0 (MQ below (qW E (some .int) (some (.int t.1)) (wM E ad q0_why q0_detail q0_reasonNow q0_detailNow q0_w q0_undos q0_savedRow q0_mind q0_changes q0_firstChange q0_isSaved q0_at q0_line q0_lineLength q0_text q0_length q0_next q0_numbers q0_sort q0_done) (wM E ad q0_why q0_detail q0_reasonNow q0_detailNow t.2 q0_undos q0_savedRow q0_mind q0_changes q0_firstChange q0_isSaved q0_at q0_line q0_lineLength q0_text q0_length q0_next q0_numbers q0_sort q0_done)) args s 0 0 (adr (wM E ad q0_why q0_detail q0_reasonNow q0_detailNow q0_w q0_undos q0_savedRow q0_mind q0_changes q0_firstChange q0_isSaved q0_at q0_line q0_lineLength q0_text q0_length q0_next q0_numbers q0_sort q0_done))) (F0 m 0 ls [])
  suffices hmain : ∀ (H : Heap) (locs : List Loc), Hp E (adr (wM E ad q0_why q0_detail q0_reasonNow q0_detailNow q0_w q0_undos q0_savedRow q0_mind q0_changes q0_firstChange q0_isSaved q0_at q0_line q0_lineLength q0_text q0_length q0_next q0_numbers q0_sort q0_done)) (wM E ad q0_why q0_detail q0_reasonNow q0_detailNow q0_w q0_undos q0_savedRow q0_mind q0_changes q0_firstChange q0_isSaved q0_at q0_line q0_lineLength q0_text q0_length q0_next q0_numbers q0_sort q0_done) s.heap H locs → W p l e rmM_swaps s m args below meth c H locs 0 0 (MQ below (qW E (some .int) (some (.int t.1)) (wM E ad q0_why q0_detail q0_reasonNow q0_detailNow q0_w q0_undos q0_savedRow q0_mind q0_changes q0_firstChange q0_isSaved q0_at q0_line q0_lineLength q0_text q0_length q0_next q0_numbers q0_sort q0_done) (wM E ad q0_why q0_detail q0_reasonNow q0_detailNow t.2 q0_undos q0_savedRow q0_mind q0_changes q0_firstChange q0_isSaved q0_at q0_line q0_lineLength q0_text q0_length q0_next q0_numbers q0_sort q0_done)) args s 0 0 (adr (wM E ad q0_why q0_detail q0_reasonNow q0_detailNow q0_w q0_undos q0_savedRow q0_mind q0_changes q0_firstChange q0_isSaved q0_at q0_line q0_lineLength q0_text q0_length q0_next q0_numbers q0_sort q0_done))) (F0 m 0 ls []) from hmain _ _ hH
  clear hH
  intro H locs hH
  rw [fM_swaps] at hf
  refine lv_aload_n hx hb dX9_swaps_0 rfl (lv_at hl 0 rfl) ?_
  refine lv_iload_n hx hb dX9_swaps_1 rfl (lv_at hl 1 rfl) ?_
  obtain ⟨t1, ht1, hf⟩ := ob hf
  refine k_PVi hC LX9_86 ⟨Nat.le_of_ble_eq_true rfl, Nat.le_of_ble_eq_true rfl⟩ ⟨Nat.zero_le _, Nat.zero_le _⟩ (cM_is l E ad q0_why q0_detail q0_reasonNow q0_detailNow q0_w q0_undos q0_savedRow q0_mind q0_changes q0_firstChange q0_isSaved q0_at q0_line q0_lineLength q0_text q0_length q0_next q0_numbers q0_sort q0_done a1 t1 ht1) rfl rfl hH.1 rfl rfl hl.1 rfl (Nat.le_of_ble_eq_true rfl) rfl dX9_swaps_2 (fun hz2 => ?_)
  refine lv_istore_n (lv' := [(2, .int t1), (0, .ref (ad 0)), (1, .int a1)]) hx hb dX9_swaps_5 rfl hl (by decide) rfl (fun ls hl => ?_)
  refine lv_aload_n hx hb dX9_swaps_6 rfl (lv_at hl 1 rfl) ?_
  refine gX9_7 hC hH.1 0 rfl (v := .ref (ad 1)) rfl dX9_swaps_7 ?_
  refine lv_iconst (v := 4) hx hb dX9_swaps_10 (by decide) ?_
  refine lv_iload_n hx hb dX9_swaps_11 rfl (lv_at hl 2 rfl) ?_
  refine lv_iadd hx hb dX9_swaps_12 ?_
  refine lv_aload_n hx hb dX9_swaps_13 rfl (lv_at hl 1 rfl) ?_
  refine lv_iload_n hx hb dX9_swaps_14 rfl (lv_at hl 2 rfl) ?_
  refine lv_iconst (v := 1) hx hb dX9_swaps_15 (by decide) ?_
  refine lv_iadd hx hb dX9_swaps_16 ?_
  obtain ⟨t2, ht2, hf⟩ := ob hf
  refine k_PVi hC LX9_86 ⟨Nat.le_of_ble_eq_true rfl, Nat.le_of_ble_eq_true rfl⟩ ⟨Nat.zero_le _, Nat.zero_le _⟩ (cM_is l E ad q0_why q0_detail q0_reasonNow q0_detailNow q0_w q0_undos q0_savedRow q0_mind q0_changes q0_firstChange q0_isSaved q0_at q0_line q0_lineLength q0_text q0_length q0_next q0_numbers q0_sort q0_done (a1 + (1 : Int32)) t2 ht2) rfl rfl hH.1 rfl rfl hl.1 rfl (Nat.le_of_ble_eq_true rfl) rfl dX9_swaps_17 (fun hz17 => ?_)
  obtain ⟨g3, hg3, hf⟩ := ob hf
  obtain ⟨hg3a, hg3b⟩ := stA_ok hg3
  refine a_ist hC hH 1 rfl hg3a hg3b (W1 := wM E ad q0_why q0_detail q0_reasonNow q0_detailNow g3 q0_undos q0_savedRow q0_mind q0_changes q0_firstChange q0_isSaved q0_at q0_line q0_lineLength q0_text q0_length q0_next q0_numbers q0_sort q0_done) rfl dX9_swaps_20 (fun H locs hH => ?_)
  refine lv_aload_n hx hb dX9_swaps_21 rfl (lv_at hl 1 rfl) ?_
  refine gX9_7 hC hH.1 0 rfl (v := .ref (ad 1)) rfl dX9_swaps_22 ?_
  refine lv_iconst (v := 4) hx hb dX9_swaps_25 (by decide) ?_
  refine lv_iload_n hx hb dX9_swaps_26 rfl (lv_at hl 2 rfl) ?_
  refine lv_iadd hx hb dX9_swaps_27 ?_
  refine lv_iconst (v := 1) hx hb dX9_swaps_28 (by decide) ?_
  refine lv_iadd hx hb dX9_swaps_29 ?_
  refine lv_iload_n hx hb dX9_swaps_30 rfl (lv_at hl 0 rfl) ?_
  obtain ⟨g4, hg4, hf⟩ := ob hf
  obtain ⟨hg4a, hg4b⟩ := stA_ok hg4
  refine a_ist hC hH 1 rfl hg4a hg4b (W1 := wM E ad q0_why q0_detail q0_reasonNow q0_detailNow g4 q0_undos q0_savedRow q0_mind q0_changes q0_firstChange q0_isSaved q0_at q0_line q0_lineLength q0_text q0_length q0_next q0_numbers q0_sort q0_done) rfl dX9_swaps_31 (fun H locs hH => ?_)
  refine lv_aload_n hx hb dX9_swaps_32 rfl (lv_at hl 1 rfl) ?_
  refine gX9_7 hC hH.1 0 rfl (v := .ref (ad 1)) rfl dX9_swaps_33 ?_
  refine lv_iconst (v := 3) hx hb dX9_swaps_36 (by decide) ?_
  refine lv_dup2_11 hx hb dX9_swaps_37 rfl rfl ?_
  obtain ⟨v5, hv5, hf⟩ := ob hf
  obtain ⟨hv5a, hv5b⟩ := ldA_ok hv5
  refine a_ild hC hH.1 1 rfl hv5a hv5b dX9_swaps_38 ?_
  refine lv_iconst (v := 1) hx hb dX9_swaps_39 (by decide) ?_
  refine lv_iadd hx hb dX9_swaps_40 ?_
  obtain ⟨g6, hg6, hf⟩ := ob hf
  obtain ⟨hg6a, hg6b⟩ := stA_ok hg6
  refine a_ist hC hH 1 rfl hg6a hg6b (W1 := wM E ad q0_why q0_detail q0_reasonNow q0_detailNow g6 q0_undos q0_savedRow q0_mind q0_changes q0_firstChange q0_isSaved q0_at q0_line q0_lineLength q0_text q0_length q0_next q0_numbers q0_sort q0_done) rfl dX9_swaps_41 (fun H locs hH => ?_)
  refine lv_aload_n hx hb dX9_swaps_42 rfl (lv_at hl 1 rfl) ?_
  refine lv_iload_n hx hb dX9_swaps_43 rfl (lv_at hl 2 rfl) ?_
  obtain ⟨t7, ht7, hf⟩ := ob hf
  refine k_PVi hC LX9_86 ⟨Nat.le_of_ble_eq_true rfl, Nat.le_of_ble_eq_true rfl⟩ ⟨Nat.zero_le _, Nat.zero_le _⟩ (cM_is l E ad q0_why q0_detail q0_reasonNow q0_detailNow g6 q0_undos q0_savedRow q0_mind q0_changes q0_firstChange q0_isSaved q0_at q0_line q0_lineLength q0_text q0_length q0_next q0_numbers q0_sort q0_done a1 t7 ht7) rfl rfl hH.1 rfl rfl hl.1 rfl (Nat.le_of_ble_eq_true rfl) rfl dX9_swaps_44 (fun hz44 => ?_)
  have hf := Option.some.inj hf
  subst hf
  exact e_Wi hC hH hr hlocks rfl rfl dX9_swaps_47
abbrev rmM_swap : Room := { frames := 3, cells := 0, slots := 0, locals := 64 }
set_option maxHeartbeats 4000000 in
set_option maxRecDepth 100000 in
theorem cM_swap (l : Launch) (E : eE) (ad : Nat → Nat) (q0_why : Int32) (q0_detail : Int32) (q0_reasonNow : Int32) (q0_detailNow : Int32) (q0_w : (Nat → Int32)) (q0_undos : (Nat → Int32)) (q0_savedRow : (Nat → Int32)) (q0_mind : (Nat → Int32)) (q0_changes : Int32) (q0_firstChange : Int32) (q0_isSaved : Int32) (q0_at : (Nat → Int32)) (q0_line : (Nat → Int32)) (q0_lineLength : Int32) (q0_text : (Nat → Int32)) (q0_length : Int32) (q0_next : Int32) (q0_numbers : (Nat → Int32)) (q0_sort : Int32) (q0_done : Int32) (a1 : Int32) (t : Int32 × Int32 × Int32 × Int32 × Int32 × (Nat → Int32) × (Nat → Int32) × (Nat → Int32) × Int32 × Int32) (hf : fM_swap q0_why q0_detail q0_reasonNow q0_detailNow q0_w q0_undos q0_mind q0_changes q0_firstChange a1 = some t) : cW l E yX9_swap cX9_swap 3 (some .int) rmM_swap [.ref (ad 0), .int a1] (wM E ad q0_why q0_detail q0_reasonNow q0_detailNow q0_w q0_undos q0_savedRow q0_mind q0_changes q0_firstChange q0_isSaved q0_at q0_line q0_lineLength q0_text q0_length q0_next q0_numbers q0_sort q0_done) (some (.int t.1)) (wM E ad t.2.1 t.2.2.1 t.2.2.2.1 t.2.2.2.2.1 t.2.2.2.2.2.1 t.2.2.2.2.2.2.1 q0_savedRow t.2.2.2.2.2.2.2.1 t.2.2.2.2.2.2.2.2.1 t.2.2.2.2.2.2.2.2.2 q0_isSaved q0_at q0_line q0_lineLength q0_text q0_length q0_next q0_numbers q0_sort q0_done) := by
  refine Met.ofW (cc := cX9_swap) (maxL := 3) (ret := (some .int)) (by decide) rfl ?_
  intro p e s m args below meth c s₁ B hml hv
  obtain ⟨hargs, hP, hK, hD0⟩ := hv
  have hx := B.exec
  have hb := B.bytes
  have hr := B.returns
  have hts := atoms_spec (ws := ws_ yX9_swap cX9_swap 3 (some .int)) B.pre
  have hta : ∀ w ∈ lw_all, w.before args s = true := fun w h => hts w (List.mem_cons_of_mem _ h)
  have hown : s.vm.findClass RX9 = some m.cls := findClass_of_methodNamed B.named
  have hlocks := B.notSynchronized
  have hC : Cx p s m args c cX9_swap 3 RX9 E := ⟨hx, hb, hml, hown, hta, hK⟩
  have hH : Hp E (adr (wM E ad q0_why q0_detail q0_reasonNow q0_detailNow q0_w q0_undos q0_savedRow q0_mind q0_changes q0_firstChange q0_isSaved q0_at q0_line q0_lineLength q0_text q0_length q0_next q0_numbers q0_sort q0_done)) (wM E ad q0_why q0_detail q0_reasonNow q0_detailNow q0_w q0_undos q0_savedRow q0_mind q0_changes q0_firstChange q0_isSaved q0_at q0_line q0_lineLength q0_text q0_length q0_next q0_numbers q0_sort q0_done) s.heap s.heap [] := Hp.start hP hD0
  obtain ⟨ls, he, hl⟩ := entry_ (m := m) (n := 3) hargs (Nat.le_of_ble_eq_true rfl)
  rw [he]
  have hl : lv_has ls 3 [(0, .ref (ad 0)), (1, .int a1)] := hl
  show W p l e rmM_swap s m args below meth c s.heap [] 0 0 (MQ below (qW E (some .int) (some (.int t.1)) (wM E ad q0_why q0_detail q0_reasonNow q0_detailNow q0_w q0_undos q0_savedRow q0_mind q0_changes q0_firstChange q0_isSaved q0_at q0_line q0_lineLength q0_text q0_length q0_next q0_numbers q0_sort q0_done) (wM E ad t.2.1 t.2.2.1 t.2.2.2.1 t.2.2.2.2.1 t.2.2.2.2.2.1 t.2.2.2.2.2.2.1 q0_savedRow t.2.2.2.2.2.2.2.1 t.2.2.2.2.2.2.2.2.1 t.2.2.2.2.2.2.2.2.2 q0_isSaved q0_at q0_line q0_lineLength q0_text q0_length q0_next q0_numbers q0_sort q0_done)) args s 0 0 (adr (wM E ad q0_why q0_detail q0_reasonNow q0_detailNow q0_w q0_undos q0_savedRow q0_mind q0_changes q0_firstChange q0_isSaved q0_at q0_line q0_lineLength q0_text q0_length q0_next q0_numbers q0_sort q0_done))) (F0 m 0 ls [])
  suffices hmain : ∀ (H : Heap) (locs : List Loc), Hp E (adr (wM E ad q0_why q0_detail q0_reasonNow q0_detailNow q0_w q0_undos q0_savedRow q0_mind q0_changes q0_firstChange q0_isSaved q0_at q0_line q0_lineLength q0_text q0_length q0_next q0_numbers q0_sort q0_done)) (wM E ad q0_why q0_detail q0_reasonNow q0_detailNow q0_w q0_undos q0_savedRow q0_mind q0_changes q0_firstChange q0_isSaved q0_at q0_line q0_lineLength q0_text q0_length q0_next q0_numbers q0_sort q0_done) s.heap H locs → W p l e rmM_swap s m args below meth c H locs 0 0 (MQ below (qW E (some .int) (some (.int t.1)) (wM E ad q0_why q0_detail q0_reasonNow q0_detailNow q0_w q0_undos q0_savedRow q0_mind q0_changes q0_firstChange q0_isSaved q0_at q0_line q0_lineLength q0_text q0_length q0_next q0_numbers q0_sort q0_done) (wM E ad t.2.1 t.2.2.1 t.2.2.2.1 t.2.2.2.2.1 t.2.2.2.2.2.1 t.2.2.2.2.2.2.1 q0_savedRow t.2.2.2.2.2.2.2.1 t.2.2.2.2.2.2.2.2.1 t.2.2.2.2.2.2.2.2.2 q0_isSaved q0_at q0_line q0_lineLength q0_text q0_length q0_next q0_numbers q0_sort q0_done)) args s 0 0 (adr (wM E ad q0_why q0_detail q0_reasonNow q0_detailNow q0_w q0_undos q0_savedRow q0_mind q0_changes q0_firstChange q0_isSaved q0_at q0_line q0_lineLength q0_text q0_length q0_next q0_numbers q0_sort q0_done))) (F0 m 0 ls []) from hmain _ _ hH
  clear hH
  intro H locs hH
  rw [fM_swap] at hf
  refine lv_aload_n hx hb dX9_swap_0 rfl (lv_at hl 0 rfl) ?_
  refine lv_iload_n hx hb dX9_swap_1 rfl (lv_at hl 1 rfl) ?_
  obtain ⟨t1, ht1, hf⟩ := ob hf
  refine k_WVsi hC LX9_95 ⟨Nat.le_of_ble_eq_true rfl, Nat.le_of_ble_eq_true rfl⟩ ⟨Nat.zero_le _, Nat.zero_le _⟩ (cM_notSwap l E ad q0_why q0_detail q0_reasonNow q0_detailNow q0_w q0_undos q0_savedRow q0_mind q0_changes q0_firstChange q0_isSaved q0_at q0_line q0_lineLength q0_text q0_length q0_next q0_numbers q0_sort q0_done a1 t1 ht1) rfl rfl hH rfl rfl rfl hl.1 rfl (Nat.le_of_ble_eq_true rfl) rfl dX9_swap_2 (fun H locs hz2 hH => ?_)
  have hH : Hp E (adr (wM E ad q0_why q0_detail q0_reasonNow q0_detailNow q0_w q0_undos q0_savedRow q0_mind q0_changes q0_firstChange q0_isSaved q0_at q0_line q0_lineLength q0_text q0_length q0_next q0_numbers q0_sort q0_done)) (wM E ad q0_why q0_detail t1.2.1 t1.2.2 q0_w q0_undos q0_savedRow q0_mind q0_changes q0_firstChange q0_isSaved q0_at q0_line q0_lineLength q0_text q0_length q0_next q0_numbers q0_sort q0_done) s.heap H locs := hH
  refine lv_istore_n (lv' := [(2, .int t1.1), (0, .ref (ad 0)), (1, .int a1)]) hx hb dX9_swap_5 rfl hl (by decide) rfl (fun ls hl => ?_)
  refine lv_iload_n hx hb dX9_swap_6 rfl (lv_at hl 0 rfl) ?_
  refine lv_if_eq (tgt := 16) hx hb dX9_swap_7 (by decide) (fun c2 => ?_) (fun c2 => ?_)
  · have hf := ite_t hf c2
    refine lv_aload_n hx hb dX9_swap_16 rfl (lv_at hl 1 rfl) ?_
    obtain ⟨t3, ht3, hf⟩ := ob hf
    refine k_WVsv hC LX9_79 ⟨Nat.le_of_ble_eq_true rfl, Nat.le_of_ble_eq_true rfl⟩ ⟨Nat.zero_le _, Nat.zero_le _⟩ (cM_remembers l E ad q0_why q0_detail t1.2.1 t1.2.2 q0_w q0_undos q0_savedRow q0_mind q0_changes q0_firstChange q0_isSaved q0_at q0_line q0_lineLength q0_text q0_length q0_next q0_numbers q0_sort q0_done t3 ht3) rfl rfl hH rfl rfl rfl hl.1 rfl (Nat.le_of_ble_eq_true rfl) rfl dX9_swap_17 (fun H locs hz17 hH => ?_)
    have hH : Hp E (adr (wM E ad q0_why q0_detail q0_reasonNow q0_detailNow q0_w q0_undos q0_savedRow q0_mind q0_changes q0_firstChange q0_isSaved q0_at q0_line q0_lineLength q0_text q0_length q0_next q0_numbers q0_sort q0_done)) (wM E ad q0_why q0_detail t1.2.1 t1.2.2 q0_w t3.1 q0_savedRow t3.2.1 t3.2.2.1 t3.2.2.2 q0_isSaved q0_at q0_line q0_lineLength q0_text q0_length q0_next q0_numbers q0_sort q0_done) s.heap H locs := hH
    refine lv_aload_n hx hb dX9_swap_20 rfl (lv_at hl 1 rfl) ?_
    refine lv_iload_n hx hb dX9_swap_21 rfl (lv_at hl 2 rfl) ?_
    obtain ⟨t4, ht4, hf⟩ := ob hf
    refine k_WVsi hC LX9_98 ⟨Nat.le_of_ble_eq_true rfl, Nat.le_of_ble_eq_true rfl⟩ ⟨Nat.zero_le _, Nat.zero_le _⟩ (cM_swaps l E ad q0_why q0_detail t1.2.1 t1.2.2 q0_w t3.1 q0_savedRow t3.2.1 t3.2.2.1 t3.2.2.2 q0_isSaved q0_at q0_line q0_lineLength q0_text q0_length q0_next q0_numbers q0_sort q0_done a1 t4 ht4) rfl rfl hH rfl rfl rfl hl.1 rfl (Nat.le_of_ble_eq_true rfl) rfl dX9_swap_22 (fun H locs hz22 hH => ?_)
    have hH : Hp E (adr (wM E ad q0_why q0_detail q0_reasonNow q0_detailNow q0_w q0_undos q0_savedRow q0_mind q0_changes q0_firstChange q0_isSaved q0_at q0_line q0_lineLength q0_text q0_length q0_next q0_numbers q0_sort q0_done)) (wM E ad q0_why q0_detail t1.2.1 t1.2.2 t4.2 t3.1 q0_savedRow t3.2.1 t3.2.2.1 t3.2.2.2 q0_isSaved q0_at q0_line q0_lineLength q0_text q0_length q0_next q0_numbers q0_sort q0_done) s.heap H locs := hH
    have hf := Option.some.inj hf
    subst hf
    exact e_Wi hC hH hr hlocks rfl rfl dX9_swap_25
  · have hf := ite_f hf c2
    refine lv_aload_n hx hb dX9_swap_10 rfl (lv_at hl 1 rfl) ?_
    refine lv_iload_n hx hb dX9_swap_11 rfl (lv_at hl 0 rfl) ?_
    obtain ⟨t5, ht5, hf⟩ := ob hf
    refine k_WVsi hC LX9_75 ⟨Nat.le_of_ble_eq_true rfl, Nat.le_of_ble_eq_true rfl⟩ ⟨Nat.zero_le _, Nat.zero_le _⟩ (cM_refuses l E ad q0_why q0_detail t1.2.1 t1.2.2 q0_w q0_undos q0_savedRow q0_mind q0_changes q0_firstChange q0_isSaved q0_at q0_line q0_lineLength q0_text q0_length q0_next q0_numbers q0_sort q0_done t1.1 t5 ht5) rfl rfl hH rfl rfl rfl hl.1 rfl (Nat.le_of_ble_eq_true rfl) rfl dX9_swap_12 (fun H locs hz12 hH => ?_)
    have hH : Hp E (adr (wM E ad q0_why q0_detail q0_reasonNow q0_detailNow q0_w q0_undos q0_savedRow q0_mind q0_changes q0_firstChange q0_isSaved q0_at q0_line q0_lineLength q0_text q0_length q0_next q0_numbers q0_sort q0_done)) (wM E ad t5.2.1 t5.2.2 t1.2.1 t1.2.2 q0_w q0_undos q0_savedRow q0_mind q0_changes q0_firstChange q0_isSaved q0_at q0_line q0_lineLength q0_text q0_length q0_next q0_numbers q0_sort q0_done) s.heap H locs := hH
    have hf := Option.some.inj hf
    subst hf
    exact e_Wi hC hH hr hlocks rfl rfl dX9_swap_15
abbrev rmM_hasMark : Room := { frames := 0, cells := 0, slots := 0, locals := 0 }
set_option maxHeartbeats 4000000 in
set_option maxRecDepth 100000 in
theorem cM_hasMark (l : Launch) (E : eE) (ad : Nat → Nat) (q0_why : Int32) (q0_detail : Int32) (q0_reasonNow : Int32) (q0_detailNow : Int32) (q0_w : (Nat → Int32)) (q0_undos : (Nat → Int32)) (q0_savedRow : (Nat → Int32)) (q0_mind : (Nat → Int32)) (q0_changes : Int32) (q0_firstChange : Int32) (q0_isSaved : Int32) (q0_at : (Nat → Int32)) (q0_line : (Nat → Int32)) (q0_lineLength : Int32) (q0_text : (Nat → Int32)) (q0_length : Int32) (q0_next : Int32) (q0_numbers : (Nat → Int32)) (q0_sort : Int32) (q0_done : Int32) (a1 : Int32) (r : Int32) (hf : fM_hasMark q0_w a1 = some r) : cP l E yX9_hasMark cX9_hasMark 2 (some .boolean) rmM_hasMark [.ref (ad 0), .int a1] (wM E ad q0_why q0_detail q0_reasonNow q0_detailNow q0_w q0_undos q0_savedRow q0_mind q0_changes q0_firstChange q0_isSaved q0_at q0_line q0_lineLength q0_text q0_length q0_next q0_numbers q0_sort q0_done) (some (.int r)) := by
  refine Met.ofW (cc := cX9_hasMark) (maxL := 2) (ret := (some .boolean)) (by decide) rfl ?_
  intro p e s m args below meth c s₁ B hml hv
  obtain ⟨hargs, hP, hK⟩ := hv
  have hx := B.exec
  have hb := B.bytes
  have hr := B.returns
  have hts := atoms_spec (ws := ws_ yX9_hasMark cX9_hasMark 2 (some .boolean)) B.pre
  have hta : ∀ w ∈ lw_all, w.before args s = true := fun w h => hts w (List.mem_cons_of_mem _ h)
  have hown : s.vm.findClass RX9 = some m.cls := findClass_of_methodNamed B.named
  have hlocks := B.notSynchronized
  have hC : Cx p s m args c cX9_hasMark 2 RX9 E := ⟨hx, hb, hml, hown, hta, hK⟩
  obtain ⟨ls, he, hl⟩ := entry_ (m := m) (n := 2) hargs (Nat.le_of_ble_eq_true rfl)
  rw [he]
  have hl : lv_has ls 2 [(0, .ref (ad 0)), (1, .int a1)] := hl
  show W p l e rmM_hasMark s m args below meth c s.heap [] 0 0 (MQ below (qP (some .boolean) (some (.int r))) args s 0 0 (fun _ => False)) (F0 m 0 ls [])
  rw [fM_hasMark] at hf
  refine lv_aload_n hx hb dX9_hasMark_0 rfl (lv_at hl 0 rfl) ?_
  refine gX9_7 hC hP 0 rfl (v := .ref (ad 1)) rfl dX9_hasMark_1 ?_
  refine lv_bipush (v := 68) hx hb dX9_hasMark_4 (by decide) ?_
  refine lv_iload_n hx hb dX9_hasMark_6 rfl (lv_at hl 1 rfl) ?_
  refine lv_iadd hx hb dX9_hasMark_7 ?_
  obtain ⟨v1, hv1, hf⟩ := ob hf
  obtain ⟨hv1a, hv1b⟩ := ldA_ok hv1
  refine a_ild hC hP 1 rfl hv1a hv1b dX9_hasMark_8 ?_
  refine lv_iconst (v := 1) hx hb dX9_hasMark_9 (by decide) ?_
  refine lv_icmp_ne (tgt := 17) hx hb dX9_hasMark_10 (by decide) (fun c2 => ?_) (fun c2 => ?_)
  · have hf := ite_f hf c2
    refine lv_iconst (v := 0) hx hb dX9_hasMark_17 (by decide) ?_
    have hf := Option.some.inj hf
    exact e_Pz hC hr hlocks hf rfl dX9_hasMark_18
  · have hf := ite_t hf c2
    refine lv_iconst (v := 1) hx hb dX9_hasMark_13 (by decide) ?_
    refine lv_goto (tgt := 18) hx hb dX9_hasMark_14 (by decide) ?_
    have hf := Option.some.inj hf
    exact e_Pz hC hr hlocks hf rfl dX9_hasMark_18
abbrev rmM_marked : Room := { frames := 0, cells := 0, slots := 0, locals := 0 }
set_option maxHeartbeats 4000000 in
set_option maxRecDepth 100000 in
theorem cM_marked (l : Launch) (E : eE) (ad : Nat → Nat) (q0_why : Int32) (q0_detail : Int32) (q0_reasonNow : Int32) (q0_detailNow : Int32) (q0_w : (Nat → Int32)) (q0_undos : (Nat → Int32)) (q0_savedRow : (Nat → Int32)) (q0_mind : (Nat → Int32)) (q0_changes : Int32) (q0_firstChange : Int32) (q0_isSaved : Int32) (q0_at : (Nat → Int32)) (q0_line : (Nat → Int32)) (q0_lineLength : Int32) (q0_text : (Nat → Int32)) (q0_length : Int32) (q0_next : Int32) (q0_numbers : (Nat → Int32)) (q0_sort : Int32) (q0_done : Int32) (r : Int32) (hf : fM_marked q0_w = some r) : cP l E yX9_marked cX9_marked 3 (some .int) rmM_marked [.ref (ad 0)] (wM E ad q0_why q0_detail q0_reasonNow q0_detailNow q0_w q0_undos q0_savedRow q0_mind q0_changes q0_firstChange q0_isSaved q0_at q0_line q0_lineLength q0_text q0_length q0_next q0_numbers q0_sort q0_done) (some (.int r)) := by
  refine Met.ofW (cc := cX9_marked) (maxL := 3) (ret := (some .int)) (by decide) rfl ?_
  intro p e s m args below meth c s₁ B hml hv
  obtain ⟨hargs, hP, hK⟩ := hv
  have hx := B.exec
  have hb := B.bytes
  have hr := B.returns
  have hts := atoms_spec (ws := ws_ yX9_marked cX9_marked 3 (some .int)) B.pre
  have hta : ∀ w ∈ lw_all, w.before args s = true := fun w h => hts w (List.mem_cons_of_mem _ h)
  have hown : s.vm.findClass RX9 = some m.cls := findClass_of_methodNamed B.named
  have hlocks := B.notSynchronized
  have hC : Cx p s m args c cX9_marked 3 RX9 E := ⟨hx, hb, hml, hown, hta, hK⟩
  obtain ⟨ls, he, hl⟩ := entry_ (m := m) (n := 3) hargs (Nat.le_of_ble_eq_true rfl)
  rw [he]
  have hl : lv_has ls 3 [(0, .ref (ad 0))] := hl
  show W p l e rmM_marked s m args below meth c s.heap [] 0 0 (MQ below (qP (some .int) (some (.int r))) args s 0 0 (fun _ => False)) (F0 m 0 ls [])
  have L4 : ∀ (n : Nat) (a1 : Int32) (a2 : Int32) (ls : Array Slot), lv_has ls 3 [(0, .ref (ad 0)), (1, .int a1), (2, .int a2)] → fM_marked_4 n q0_w a1 a2 = some r → W p l e rmM_marked s m args below meth c s.heap [] 0 0 (MQ below (qP (some .int) (some (.int r))) args s 0 0 (fun _ => False)) (F0 m 4 ls []) := by
    intro n
    induction n with
    | zero => intro a1 a2 ls hl hf; cases hf
    | succ n ih =>
      intro a1 a2 ls hl hf
      rw [fM_marked_4] at hf
      refine lv_iload_n hx hb dX9_marked_4 rfl (lv_at hl 2 rfl) ?_
      refine lv_bipush (v := 64) hx hb dX9_marked_5 (by decide) ?_
      refine lv_icmp_ge (tgt := 28) hx hb dX9_marked_7 (by decide) (fun c1 => ?_) (fun c1 => ?_)
      · have hf := ite_t hf c1
        refine lv_iload_n hx hb dX9_marked_28 rfl (lv_at hl 1 rfl) ?_
        have hf := Option.some.inj hf
        exact e_Pi hC hr hlocks hf dX9_marked_29
      · have hf := ite_f hf c1
        refine lv_iload_n hx hb dX9_marked_10 rfl (lv_at hl 1 rfl) ?_
        refine lv_aload_n hx hb dX9_marked_11 rfl (lv_at hl 0 rfl) ?_
        refine gX9_7 hC hP 0 rfl (v := .ref (ad 1)) rfl dX9_marked_12 ?_
        refine lv_bipush (v := 68) hx hb dX9_marked_15 (by decide) ?_
        refine lv_iload_n hx hb dX9_marked_17 rfl (lv_at hl 2 rfl) ?_
        refine lv_iadd hx hb dX9_marked_18 ?_
        obtain ⟨v2, hv2, hf⟩ := ob hf
        obtain ⟨hv2a, hv2b⟩ := ldA_ok hv2
        refine a_ild hC hP 1 rfl hv2a hv2b dX9_marked_19 ?_
        refine lv_iadd hx hb dX9_marked_20 ?_
        refine lv_istore_n (lv' := [(1, .int (a1 + v2)), (0, .ref (ad 0)), (2, .int a2)]) hx hb dX9_marked_21 rfl hl (by decide) rfl (fun ls hl => ?_)
        refine lv_iinc (v := (a2 + (1 : Int32))) (lv' := [(2, .int (a2 + (1 : Int32))), (1, .int (a1 + v2)), (0, .ref (ad 0))]) hx hb dX9_marked_22 hl (k := 2) rfl rfl (by decide) rfl (fun ls hl => ?_)
        refine lv_goto (tgt := 4) hx hb dX9_marked_25 (by decide) ?_
        exact ih (a1 + v2) (a2 + (1 : Int32)) ls (lv_sub hl [2, 1, 0] rfl) hf
  rw [fM_marked] at hf
  refine lv_iconst (v := 0) hx hb dX9_marked_0 (by decide) ?_
  refine lv_istore_n (lv' := [(1, .int (0 : Int32)), (0, .ref (ad 0))]) hx hb dX9_marked_1 rfl hl (by decide) rfl (fun ls hl => ?_)
  refine lv_iconst (v := 1) hx hb dX9_marked_2 (by decide) ?_
  refine lv_istore_n (lv' := [(2, .int (1 : Int32)), (1, .int (0 : Int32)), (0, .ref (ad 0))]) hx hb dX9_marked_3 rfl hl (by decide) rfl (fun ls hl => ?_)
  exact L4 FU (0 : Int32) (1 : Int32) ls (lv_sub hl [2, 1, 0] rfl) hf
