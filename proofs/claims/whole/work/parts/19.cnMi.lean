abbrev rmM_doesAll : Room := { frames := 4, cells := 0, slots := 0, locals := 85 }
set_option maxHeartbeats 4000000 in
set_option maxRecDepth 100000 in
theorem cM_doesAll (l : Launch) (E : eE) (ad : Nat → Nat) (q0_why : Int32) (q0_detail : Int32) (q0_reasonNow : Int32) (q0_detailNow : Int32) (q0_w : (Nat → Int32)) (q0_undos : (Nat → Int32)) (q0_savedRow : (Nat → Int32)) (q0_mind : (Nat → Int32)) (q0_changes : Int32) (q0_firstChange : Int32) (q0_isSaved : Int32) (q0_at : (Nat → Int32)) (q0_line : (Nat → Int32)) (q0_lineLength : Int32) (q0_text : (Nat → Int32)) (q0_length : Int32) (q0_next : Int32) (q0_numbers : (Nat → Int32)) (q0_sort : Int32) (q0_done : Int32) (t : Int32 × Int32 × Int32 × (Nat → Int32) × Int32 × (Nat → Int32) × Int32 × Int32) (hf : fM_doesAll q0_reasonNow q0_detailNow q0_w q0_text q0_length q0_next q0_numbers q0_sort q0_done = some t) : cW l E yX9_doesAll cX9_doesAll 2 (some .boolean) rmM_doesAll [.ref (ad 0)] (wM E ad q0_why q0_detail q0_reasonNow q0_detailNow q0_w q0_undos q0_savedRow q0_mind q0_changes q0_firstChange q0_isSaved q0_at q0_line q0_lineLength q0_text q0_length q0_next q0_numbers q0_sort q0_done) (some (.int t.1)) (wM E ad q0_why q0_detail t.2.1 t.2.2.1 t.2.2.2.1 q0_undos q0_savedRow q0_mind q0_changes q0_firstChange q0_isSaved q0_at q0_line q0_lineLength q0_text q0_length t.2.2.2.2.1 t.2.2.2.2.2.1 t.2.2.2.2.2.2.1 t.2.2.2.2.2.2.2) := by
  refine Met.ofW (cc := cX9_doesAll) (maxL := 2) (ret := (some .boolean)) (by decide) rfl ?_
  intro p e s m args below meth c s₁ B hml hv
  obtain ⟨hargs, hP, hK, hD0⟩ := hv
  have hx := B.exec
  have hb := B.bytes
  have hr := B.returns
  have hts := atoms_spec (ws := ws_ yX9_doesAll cX9_doesAll 2 (some .boolean)) B.pre
  have hta : ∀ w ∈ lw_all, w.before args s = true := fun w h => hts w (List.mem_cons_of_mem _ h)
  have hown : s.vm.findClass RX9 = some m.cls := findClass_of_methodNamed B.named
  have hlocks := B.notSynchronized
  have hC : Cx p s m args c cX9_doesAll 2 RX9 E := ⟨hx, hb, hml, hown, hta, hK⟩
  have hH : Hp E (adr (wM E ad q0_why q0_detail q0_reasonNow q0_detailNow q0_w q0_undos q0_savedRow q0_mind q0_changes q0_firstChange q0_isSaved q0_at q0_line q0_lineLength q0_text q0_length q0_next q0_numbers q0_sort q0_done)) (wM E ad q0_why q0_detail q0_reasonNow q0_detailNow q0_w q0_undos q0_savedRow q0_mind q0_changes q0_firstChange q0_isSaved q0_at q0_line q0_lineLength q0_text q0_length q0_next q0_numbers q0_sort q0_done) s.heap s.heap [] := Hp.start hP hD0
  obtain ⟨ls, he, hl⟩ := entry_ (m := m) (n := 2) hargs (Nat.le_of_ble_eq_true rfl)
  rw [he]
  have hl : lv_has ls 2 [(0, .ref (ad 0))] := hl
  show W p l e rmM_doesAll s m args below meth c s.heap [] 0 0 (MQ below (qW E (some .boolean) (some (.int t.1)) (wM E ad q0_why q0_detail q0_reasonNow q0_detailNow q0_w q0_undos q0_savedRow q0_mind q0_changes q0_firstChange q0_isSaved q0_at q0_line q0_lineLength q0_text q0_length q0_next q0_numbers q0_sort q0_done) (wM E ad q0_why q0_detail t.2.1 t.2.2.1 t.2.2.2.1 q0_undos q0_savedRow q0_mind q0_changes q0_firstChange q0_isSaved q0_at q0_line q0_lineLength q0_text q0_length t.2.2.2.2.1 t.2.2.2.2.2.1 t.2.2.2.2.2.2.1 t.2.2.2.2.2.2.2)) args s 0 0 (adr (wM E ad q0_why q0_detail q0_reasonNow q0_detailNow q0_w q0_undos q0_savedRow q0_mind q0_changes q0_firstChange q0_isSaved q0_at q0_line q0_lineLength q0_text q0_length q0_next q0_numbers q0_sort q0_done))) (F0 m 0 ls [])
  suffices hmain : ∀ (H : Heap) (locs : List Loc), Hp E (adr (wM E ad q0_why q0_detail q0_reasonNow q0_detailNow q0_w q0_undos q0_savedRow q0_mind q0_changes q0_firstChange q0_isSaved q0_at q0_line q0_lineLength q0_text q0_length q0_next q0_numbers q0_sort q0_done)) (wM E ad q0_why q0_detail q0_reasonNow q0_detailNow q0_w q0_undos q0_savedRow q0_mind q0_changes q0_firstChange q0_isSaved q0_at q0_line q0_lineLength q0_text q0_length q0_next q0_numbers q0_sort q0_done) s.heap H locs → W p l e rmM_doesAll s m args below meth c H locs 0 0 (MQ below (qW E (some .boolean) (some (.int t.1)) (wM E ad q0_why q0_detail q0_reasonNow q0_detailNow q0_w q0_undos q0_savedRow q0_mind q0_changes q0_firstChange q0_isSaved q0_at q0_line q0_lineLength q0_text q0_length q0_next q0_numbers q0_sort q0_done) (wM E ad q0_why q0_detail t.2.1 t.2.2.1 t.2.2.2.1 q0_undos q0_savedRow q0_mind q0_changes q0_firstChange q0_isSaved q0_at q0_line q0_lineLength q0_text q0_length t.2.2.2.2.1 t.2.2.2.2.2.1 t.2.2.2.2.2.2.1 t.2.2.2.2.2.2.2)) args s 0 0 (adr (wM E ad q0_why q0_detail q0_reasonNow q0_detailNow q0_w q0_undos q0_savedRow q0_mind q0_changes q0_firstChange q0_isSaved q0_at q0_line q0_lineLength q0_text q0_length q0_next q0_numbers q0_sort q0_done))) (F0 m 0 ls []) from hmain _ _ hH
  clear hH
  have L12 : ∀ (n : Nat) (y0_2 : Int32) (y0_3 : Int32) (y0_4 : (Nat → Int32)) (y0_16 : Int32) (y0_17 : (Nat → Int32)) (y0_18 : Int32) (y0_19 : Int32) (a1 : Int32) (ls : Array Slot), lv_has ls 2 [(0, .ref (ad 0)), (1, .int a1)] → ∀ (H : Heap) (locs : List Loc), Hp E (adr (wM E ad q0_why q0_detail q0_reasonNow q0_detailNow q0_w q0_undos q0_savedRow q0_mind q0_changes q0_firstChange q0_isSaved q0_at q0_line q0_lineLength q0_text q0_length q0_next q0_numbers q0_sort q0_done)) (wM E ad q0_why q0_detail y0_2 y0_3 y0_4 q0_undos q0_savedRow q0_mind q0_changes q0_firstChange q0_isSaved q0_at q0_line q0_lineLength q0_text q0_length y0_16 y0_17 y0_18 y0_19) s.heap H locs → fM_doesAll_12 n y0_2 y0_3 y0_4 q0_text q0_length y0_16 y0_17 y0_18 y0_19 a1 = some t → W p l e rmM_doesAll s m args below meth c H locs 0 0 (MQ below (qW E (some .boolean) (some (.int t.1)) (wM E ad q0_why q0_detail q0_reasonNow q0_detailNow q0_w q0_undos q0_savedRow q0_mind q0_changes q0_firstChange q0_isSaved q0_at q0_line q0_lineLength q0_text q0_length q0_next q0_numbers q0_sort q0_done) (wM E ad q0_why q0_detail t.2.1 t.2.2.1 t.2.2.2.1 q0_undos q0_savedRow q0_mind q0_changes q0_firstChange q0_isSaved q0_at q0_line q0_lineLength q0_text q0_length t.2.2.2.2.1 t.2.2.2.2.2.1 t.2.2.2.2.2.2.1 t.2.2.2.2.2.2.2)) args s 0 0 (adr (wM E ad q0_why q0_detail q0_reasonNow q0_detailNow q0_w q0_undos q0_savedRow q0_mind q0_changes q0_firstChange q0_isSaved q0_at q0_line q0_lineLength q0_text q0_length q0_next q0_numbers q0_sort q0_done))) (F0 m 12 ls []) := by
    intro n
    induction n with
    | zero => intro y0_2 y0_3 y0_4 y0_16 y0_17 y0_18 y0_19 a1 ls hl H locs hH hf; cases hf
    | succ n ih =>
      intro y0_2 y0_3 y0_4 y0_16 y0_17 y0_18 y0_19 a1 ls hl H locs hH hf
      rw [fM_doesAll_12] at hf
      refine lv_iload_n hx hb dX9_doesAll_12 rfl (lv_at hl 1 rfl) ?_
      refine lv_if_eq (tgt := 54) hx hb dX9_doesAll_13 (by decide) (fun c1 => ?_) (fun c1 => ?_)
      · have hf := ite_t hf c1
        refine lv_iconst (v := 1) hx hb dX9_doesAll_54 (by decide) ?_
        have hf := Option.some.inj hf
        subst hf
        exact e_Wz hC hH hr hlocks rfl rfl rfl dX9_doesAll_55
      · have hf := ite_f hf c1
        refine lv_aload_n hx hb dX9_doesAll_16 rfl (lv_at hl 0 rfl) ?_
        obtain ⟨t2, ht2, hf⟩ := ob hf
        refine k_WVsi hC LX9_219 ⟨Nat.le_of_ble_eq_true rfl, Nat.le_of_ble_eq_true rfl⟩ ⟨Nat.zero_le _, Nat.zero_le _⟩ (cM_readsOrder l E ad q0_why q0_detail y0_2 y0_3 y0_4 q0_undos q0_savedRow q0_mind q0_changes q0_firstChange q0_isSaved q0_at q0_line q0_lineLength q0_text q0_length y0_16 y0_17 y0_18 y0_19 t2 ht2) rfl rfl hH rfl rfl rfl hl.1 rfl (Nat.le_of_ble_eq_true rfl) rfl dX9_doesAll_17 (fun H locs hz17 hH => ?_)
        have hH : Hp E (adr (wM E ad q0_why q0_detail q0_reasonNow q0_detailNow q0_w q0_undos q0_savedRow q0_mind q0_changes q0_firstChange q0_isSaved q0_at q0_line q0_lineLength q0_text q0_length q0_next q0_numbers q0_sort q0_done)) (wM E ad q0_why q0_detail y0_2 y0_3 y0_4 q0_undos q0_savedRow q0_mind q0_changes q0_firstChange q0_isSaved q0_at q0_line q0_lineLength q0_text q0_length t2.2.1 t2.2.2.1 t2.2.2.2 y0_19) s.heap H locs := hH
        refine lv_pop hx hb dX9_doesAll_20 rfl ?_
        refine lv_aload_n hx hb dX9_doesAll_21 rfl (lv_at hl 0 rfl) ?_
        obtain ⟨t3, ht3, hf⟩ := ob hf
        refine k_WVsi hC LX9_226 ⟨Nat.le_of_ble_eq_true rfl, Nat.le_of_ble_eq_true rfl⟩ ⟨Nat.zero_le _, Nat.zero_le _⟩ (cM_notNow l E ad q0_why q0_detail y0_2 y0_3 y0_4 q0_undos q0_savedRow q0_mind q0_changes q0_firstChange q0_isSaved q0_at q0_line q0_lineLength q0_text q0_length t2.2.1 t2.2.2.1 t2.2.2.2 y0_19 t3 ht3) rfl rfl hH rfl rfl rfl hl.1 rfl (Nat.le_of_ble_eq_true rfl) rfl dX9_doesAll_22 (fun H locs hz22 hH => ?_)
        have hH : Hp E (adr (wM E ad q0_why q0_detail q0_reasonNow q0_detailNow q0_w q0_undos q0_savedRow q0_mind q0_changes q0_firstChange q0_isSaved q0_at q0_line q0_lineLength q0_text q0_length q0_next q0_numbers q0_sort q0_done)) (wM E ad q0_why q0_detail t3.2.1 t3.2.2 y0_4 q0_undos q0_savedRow q0_mind q0_changes q0_firstChange q0_isSaved q0_at q0_line q0_lineLength q0_text q0_length t2.2.1 t2.2.2.1 t2.2.2.2 y0_19) s.heap H locs := hH
        refine lv_if_eq (tgt := 30) hx hb dX9_doesAll_25 (by decide) (fun c4 => ?_) (fun c4 => ?_)
        · have hf := ite_t hf c4
          refine lv_aload_n hx hb dX9_doesAll_30 rfl (lv_at hl 0 rfl) ?_
          obtain ⟨t5, ht5, hf⟩ := ob hf
          refine k_WVsv hC LX9_229 ⟨Nat.le_of_ble_eq_true rfl, Nat.le_of_ble_eq_true rfl⟩ ⟨Nat.zero_le _, Nat.zero_le _⟩ (cM_doesNow l E ad q0_why q0_detail t3.2.1 t3.2.2 y0_4 q0_undos q0_savedRow q0_mind q0_changes q0_firstChange q0_isSaved q0_at q0_line q0_lineLength q0_text q0_length t2.2.1 t2.2.2.1 t2.2.2.2 y0_19 t5 ht5) rfl rfl hH rfl rfl rfl hl.1 rfl (Nat.le_of_ble_eq_true rfl) rfl dX9_doesAll_31 (fun H locs hz31 hH => ?_)
          have hH : Hp E (adr (wM E ad q0_why q0_detail q0_reasonNow q0_detailNow q0_w q0_undos q0_savedRow q0_mind q0_changes q0_firstChange q0_isSaved q0_at q0_line q0_lineLength q0_text q0_length q0_next q0_numbers q0_sort q0_done)) (wM E ad q0_why q0_detail t3.2.1 t3.2.2 t5 q0_undos q0_savedRow q0_mind q0_changes q0_firstChange q0_isSaved q0_at q0_line q0_lineLength q0_text q0_length t2.2.1 t2.2.2.1 t2.2.2.2 y0_19) s.heap H locs := hH
          refine lv_aload_n hx hb dX9_doesAll_34 rfl (lv_at hl 0 rfl) ?_
          refine lv_dup hx hb dX9_doesAll_35 rfl ?_
          refine gX9_223 hC hH.1 0 rfl (v := .int y0_19) rfl dX9_doesAll_36 ?_
          refine lv_iconst (v := 1) hx hb dX9_doesAll_39 (by decide) ?_
          refine lv_iadd hx hb dX9_doesAll_40 ?_
          refine pX9_223 hC hH 0 rfl (v := .int (y0_19 + (1 : Int32))) rfl rfl (Nat.le_of_ble_eq_true rfl) (W1 := wM E ad q0_why q0_detail t3.2.1 t3.2.2 t5 q0_undos q0_savedRow q0_mind q0_changes q0_firstChange q0_isSaved q0_at q0_line q0_lineLength q0_text q0_length t2.2.1 t2.2.2.1 t2.2.2.2 (y0_19 + (1 : Int32))) rfl dX9_doesAll_41 (fun H locs hH => ?_)
          refine lv_aload_n hx hb dX9_doesAll_44 rfl (lv_at hl 0 rfl) ?_
          refine lv_bipush (v := 59) hx hb dX9_doesAll_45 (by decide) ?_
          obtain ⟨t6, ht6, hf⟩ := ob hf
          refine k_WVsi hC LX9_207 ⟨Nat.le_of_ble_eq_true rfl, Nat.le_of_ble_eq_true rfl⟩ ⟨Nat.zero_le _, Nat.zero_le _⟩ (cM_reads l E ad q0_why q0_detail t3.2.1 t3.2.2 t5 q0_undos q0_savedRow q0_mind q0_changes q0_firstChange q0_isSaved q0_at q0_line q0_lineLength q0_text q0_length t2.2.1 t2.2.2.1 t2.2.2.2 (y0_19 + (1 : Int32)) (59 : Int32) t6 ht6) rfl rfl hH rfl rfl rfl hl.1 rfl (Nat.le_of_ble_eq_true rfl) rfl dX9_doesAll_47 (fun H locs hz47 hH => ?_)
          have hH : Hp E (adr (wM E ad q0_why q0_detail q0_reasonNow q0_detailNow q0_w q0_undos q0_savedRow q0_mind q0_changes q0_firstChange q0_isSaved q0_at q0_line q0_lineLength q0_text q0_length q0_next q0_numbers q0_sort q0_done)) (wM E ad q0_why q0_detail t3.2.1 t3.2.2 t5 q0_undos q0_savedRow q0_mind q0_changes q0_firstChange q0_isSaved q0_at q0_line q0_lineLength q0_text q0_length t6.2 t2.2.2.1 t2.2.2.2 (y0_19 + (1 : Int32))) s.heap H locs := hH
          refine lv_istore_n (lv' := [(1, .int t6.1), (0, .ref (ad 0))]) hx hb dX9_doesAll_50 rfl hl (by decide) rfl (fun ls hl => ?_)
          refine lv_goto (tgt := 12) hx hb dX9_doesAll_51 (by decide) ?_
          exact ih t3.2.1 t3.2.2 t5 t6.2 t2.2.2.1 t2.2.2.2 (y0_19 + (1 : Int32)) t6.1 ls (lv_sub hl [1, 0] rfl) _ _ hH hf
        · have hf := ite_f hf c4
          refine lv_iconst (v := 0) hx hb dX9_doesAll_28 (by decide) ?_
          have hf := Option.some.inj hf
          subst hf
          exact e_Wz hC hH hr hlocks rfl rfl rfl dX9_doesAll_29
  intro H locs hH
  rw [fM_doesAll] at hf
  refine lv_aload_n hx hb dX9_doesAll_0 rfl (lv_at hl 0 rfl) ?_
  refine lv_iconst (v := 0) hx hb dX9_doesAll_1 (by decide) ?_
  refine pX9_223 hC hH 0 rfl (v := .int (0 : Int32)) rfl rfl (Nat.le_of_ble_eq_true rfl) (W1 := wM E ad q0_why q0_detail q0_reasonNow q0_detailNow q0_w q0_undos q0_savedRow q0_mind q0_changes q0_firstChange q0_isSaved q0_at q0_line q0_lineLength q0_text q0_length q0_next q0_numbers q0_sort (0 : Int32)) rfl dX9_doesAll_2 (fun H locs hH => ?_)
  refine lv_aload_n hx hb dX9_doesAll_5 rfl (lv_at hl 0 rfl) ?_
  refine lv_iconst (v := 0) hx hb dX9_doesAll_6 (by decide) ?_
  refine pX9_201 hC hH 0 rfl (v := .int (0 : Int32)) rfl rfl (Nat.le_of_ble_eq_true rfl) (W1 := wM E ad q0_why q0_detail q0_reasonNow q0_detailNow q0_w q0_undos q0_savedRow q0_mind q0_changes q0_firstChange q0_isSaved q0_at q0_line q0_lineLength q0_text q0_length (0 : Int32) q0_numbers q0_sort (0 : Int32)) rfl dX9_doesAll_7 (fun H locs hH => ?_)
  refine lv_iconst (v := 1) hx hb dX9_doesAll_10 (by decide) ?_
  refine lv_istore_n (lv' := [(1, .int (1 : Int32)), (0, .ref (ad 0))]) hx hb dX9_doesAll_11 rfl hl (by decide) rfl (fun ls hl => ?_)
  exact L12 FU q0_reasonNow q0_detailNow q0_w (0 : Int32) q0_numbers q0_sort (0 : Int32) (1 : Int32) ls (lv_sub hl [1, 0] rfl) _ _ hH hf
abbrev rmM_run : Room := { frames := 5, cells := 0, slots := 0, locals := 106 }
set_option maxHeartbeats 4000000 in
set_option maxRecDepth 100000 in
theorem cM_run (l : Launch) (E : eE) (ad : Nat → Nat) (q0_why : Int32) (q0_detail : Int32) (q0_reasonNow : Int32) (q0_detailNow : Int32) (q0_w : (Nat → Int32)) (q0_undos : (Nat → Int32)) (q0_savedRow : (Nat → Int32)) (q0_mind : (Nat → Int32)) (q0_changes : Int32) (q0_firstChange : Int32) (q0_isSaved : Int32) (q0_at : (Nat → Int32)) (q0_line : (Nat → Int32)) (q0_lineLength : Int32) (q0_text : (Nat → Int32)) (q0_length : Int32) (q0_next : Int32) (q0_numbers : (Nat → Int32)) (q0_sort : Int32) (q0_done : Int32) (t : Int32 × Int32 × Int32 × Int32 × Int32 × (Nat → Int32) × (Nat → Int32) × (Nat → Int32) × Int32 × Int32 × Int32 × Int32 × (Nat → Int32) × Int32 × Int32) (hf : fM_run q0_why q0_detail q0_reasonNow q0_detailNow q0_w q0_undos q0_mind q0_changes q0_firstChange q0_text q0_length q0_next q0_numbers q0_sort q0_done = some t) : cW l E yX9_run cX9_run 2 (some .int) rmM_run [.ref (ad 0)] (wM E ad q0_why q0_detail q0_reasonNow q0_detailNow q0_w q0_undos q0_savedRow q0_mind q0_changes q0_firstChange q0_isSaved q0_at q0_line q0_lineLength q0_text q0_length q0_next q0_numbers q0_sort q0_done) (some (.int t.1)) (wM E ad t.2.1 t.2.2.1 t.2.2.2.1 t.2.2.2.2.1 t.2.2.2.2.2.1 t.2.2.2.2.2.2.1 q0_savedRow t.2.2.2.2.2.2.2.1 t.2.2.2.2.2.2.2.2.1 t.2.2.2.2.2.2.2.2.2.1 q0_isSaved q0_at q0_line q0_lineLength q0_text t.2.2.2.2.2.2.2.2.2.2.1 t.2.2.2.2.2.2.2.2.2.2.2.1 t.2.2.2.2.2.2.2.2.2.2.2.2.1 t.2.2.2.2.2.2.2.2.2.2.2.2.2.1 t.2.2.2.2.2.2.2.2.2.2.2.2.2.2) := by
  refine Met.ofW (cc := cX9_run) (maxL := 2) (ret := (some .int)) (by decide) rfl ?_
  intro p e s m args below meth c s₁ B hml hv
  obtain ⟨hargs, hP, hK, hD0⟩ := hv
  have hx := B.exec
  have hb := B.bytes
  have hr := B.returns
  have hts := atoms_spec (ws := ws_ yX9_run cX9_run 2 (some .int)) B.pre
  have hta : ∀ w ∈ lw_all, w.before args s = true := fun w h => hts w (List.mem_cons_of_mem _ h)
  have hown : s.vm.findClass RX9 = some m.cls := findClass_of_methodNamed B.named
  have hlocks := B.notSynchronized
  have hC : Cx p s m args c cX9_run 2 RX9 E := ⟨hx, hb, hml, hown, hta, hK⟩
  have hH : Hp E (adr (wM E ad q0_why q0_detail q0_reasonNow q0_detailNow q0_w q0_undos q0_savedRow q0_mind q0_changes q0_firstChange q0_isSaved q0_at q0_line q0_lineLength q0_text q0_length q0_next q0_numbers q0_sort q0_done)) (wM E ad q0_why q0_detail q0_reasonNow q0_detailNow q0_w q0_undos q0_savedRow q0_mind q0_changes q0_firstChange q0_isSaved q0_at q0_line q0_lineLength q0_text q0_length q0_next q0_numbers q0_sort q0_done) s.heap s.heap [] := Hp.start hP hD0
  obtain ⟨ls, he, hl⟩ := entry_ (m := m) (n := 2) hargs (Nat.le_of_ble_eq_true rfl)
  rw [he]
  have hl : lv_has ls 2 [(0, .ref (ad 0))] := hl
  show W p l e rmM_run s m args below meth c s.heap [] 0 0 (MQ below (qW E (some .int) (some (.int t.1)) (wM E ad q0_why q0_detail q0_reasonNow q0_detailNow q0_w q0_undos q0_savedRow q0_mind q0_changes q0_firstChange q0_isSaved q0_at q0_line q0_lineLength q0_text q0_length q0_next q0_numbers q0_sort q0_done) (wM E ad t.2.1 t.2.2.1 t.2.2.2.1 t.2.2.2.2.1 t.2.2.2.2.2.1 t.2.2.2.2.2.2.1 q0_savedRow t.2.2.2.2.2.2.2.1 t.2.2.2.2.2.2.2.2.1 t.2.2.2.2.2.2.2.2.2.1 q0_isSaved q0_at q0_line q0_lineLength q0_text t.2.2.2.2.2.2.2.2.2.2.1 t.2.2.2.2.2.2.2.2.2.2.2.1 t.2.2.2.2.2.2.2.2.2.2.2.2.1 t.2.2.2.2.2.2.2.2.2.2.2.2.2.1 t.2.2.2.2.2.2.2.2.2.2.2.2.2.2)) args s 0 0 (adr (wM E ad q0_why q0_detail q0_reasonNow q0_detailNow q0_w q0_undos q0_savedRow q0_mind q0_changes q0_firstChange q0_isSaved q0_at q0_line q0_lineLength q0_text q0_length q0_next q0_numbers q0_sort q0_done))) (F0 m 0 ls [])
  suffices hmain : ∀ (H : Heap) (locs : List Loc), Hp E (adr (wM E ad q0_why q0_detail q0_reasonNow q0_detailNow q0_w q0_undos q0_savedRow q0_mind q0_changes q0_firstChange q0_isSaved q0_at q0_line q0_lineLength q0_text q0_length q0_next q0_numbers q0_sort q0_done)) (wM E ad q0_why q0_detail q0_reasonNow q0_detailNow q0_w q0_undos q0_savedRow q0_mind q0_changes q0_firstChange q0_isSaved q0_at q0_line q0_lineLength q0_text q0_length q0_next q0_numbers q0_sort q0_done) s.heap H locs → W p l e rmM_run s m args below meth c H locs 0 0 (MQ below (qW E (some .int) (some (.int t.1)) (wM E ad q0_why q0_detail q0_reasonNow q0_detailNow q0_w q0_undos q0_savedRow q0_mind q0_changes q0_firstChange q0_isSaved q0_at q0_line q0_lineLength q0_text q0_length q0_next q0_numbers q0_sort q0_done) (wM E ad t.2.1 t.2.2.1 t.2.2.2.1 t.2.2.2.2.1 t.2.2.2.2.2.1 t.2.2.2.2.2.2.1 q0_savedRow t.2.2.2.2.2.2.2.1 t.2.2.2.2.2.2.2.2.1 t.2.2.2.2.2.2.2.2.2.1 q0_isSaved q0_at q0_line q0_lineLength q0_text t.2.2.2.2.2.2.2.2.2.2.1 t.2.2.2.2.2.2.2.2.2.2.2.1 t.2.2.2.2.2.2.2.2.2.2.2.2.1 t.2.2.2.2.2.2.2.2.2.2.2.2.2.1 t.2.2.2.2.2.2.2.2.2.2.2.2.2.2)) args s 0 0 (adr (wM E ad q0_why q0_detail q0_reasonNow q0_detailNow q0_w q0_undos q0_savedRow q0_mind q0_changes q0_firstChange q0_isSaved q0_at q0_line q0_lineLength q0_text q0_length q0_next q0_numbers q0_sort q0_done))) (F0 m 0 ls []) from hmain _ _ hH
  clear hH
  intro H locs hH
  rw [fM_run] at hf
  refine lv_aload_n hx hb dX9_run_0 rfl (lv_at hl 0 rfl) ?_
  obtain ⟨t1, ht1, hf⟩ := ob hf
  refine k_WVsi hC LX9_232 ⟨Nat.le_of_ble_eq_true rfl, Nat.le_of_ble_eq_true rfl⟩ ⟨Nat.zero_le _, Nat.zero_le _⟩ (cM_readsAll l E ad q0_why q0_detail q0_reasonNow q0_detailNow q0_w q0_undos q0_savedRow q0_mind q0_changes q0_firstChange q0_isSaved q0_at q0_line q0_lineLength q0_text q0_length q0_next q0_numbers q0_sort q0_done t1 ht1) rfl rfl hH rfl rfl rfl hl.1 rfl (Nat.le_of_ble_eq_true rfl) rfl dX9_run_1 (fun H locs hz1 hH => ?_)
  have hH : Hp E (adr (wM E ad q0_why q0_detail q0_reasonNow q0_detailNow q0_w q0_undos q0_savedRow q0_mind q0_changes q0_firstChange q0_isSaved q0_at q0_line q0_lineLength q0_text q0_length q0_next q0_numbers q0_sort q0_done)) (wM E ad q0_why q0_detail q0_reasonNow q0_detailNow q0_w q0_undos q0_savedRow q0_mind q0_changes q0_firstChange q0_isSaved q0_at q0_line q0_lineLength q0_text q0_length t1.2.1 t1.2.2.1 t1.2.2.2 q0_done) s.heap H locs := hH
  refine lv_if_ne (tgt := 21) hx hb dX9_run_4 (by decide) (fun c2 => ?_) (fun c2 => ?_)
  · have hf := ite_f hf c2
    refine lv_aload_n hx hb dX9_run_21 rfl (lv_at hl 0 rfl) ?_
    obtain ⟨t3, ht3, hf⟩ := ob hf
    refine k_WVsv hC LX9_54 ⟨Nat.le_of_ble_eq_true rfl, Nat.le_of_ble_eq_true rfl⟩ ⟨Nat.zero_le _, Nat.zero_le _⟩ (cM_thinks l E ad q0_why q0_detail q0_reasonNow q0_detailNow q0_w q0_undos q0_savedRow q0_mind q0_changes q0_firstChange q0_isSaved q0_at q0_line q0_lineLength q0_text q0_length t1.2.1 t1.2.2.1 t1.2.2.2 q0_done t3 ht3) rfl rfl hH rfl rfl rfl hl.1 rfl (Nat.le_of_ble_eq_true rfl) rfl dX9_run_22 (fun H locs hz22 hH => ?_)
    have hH : Hp E (adr (wM E ad q0_why q0_detail q0_reasonNow q0_detailNow q0_w q0_undos q0_savedRow q0_mind q0_changes q0_firstChange q0_isSaved q0_at q0_line q0_lineLength q0_text q0_length q0_next q0_numbers q0_sort q0_done)) (wM E ad q0_why q0_detail q0_reasonNow q0_detailNow q0_w q0_undos q0_savedRow t3 q0_changes q0_firstChange q0_isSaved q0_at q0_line q0_lineLength q0_text q0_length t1.2.1 t1.2.2.1 t1.2.2.2 q0_done) s.heap H locs := hH
    refine lv_aload_n hx hb dX9_run_25 rfl (lv_at hl 0 rfl) ?_
    obtain ⟨t4, ht4, hf⟩ := ob hf
    refine k_WVsi hC LX9_235 ⟨Nat.le_of_ble_eq_true rfl, Nat.le_of_ble_eq_true rfl⟩ ⟨Nat.zero_le _, Nat.zero_le _⟩ (cM_doesAll l E ad q0_why q0_detail q0_reasonNow q0_detailNow q0_w q0_undos q0_savedRow t3 q0_changes q0_firstChange q0_isSaved q0_at q0_line q0_lineLength q0_text q0_length t1.2.1 t1.2.2.1 t1.2.2.2 q0_done t4 ht4) rfl rfl hH rfl rfl rfl hl.1 rfl (Nat.le_of_ble_eq_true rfl) rfl dX9_run_26 (fun H locs hz26 hH => ?_)
    have hH : Hp E (adr (wM E ad q0_why q0_detail q0_reasonNow q0_detailNow q0_w q0_undos q0_savedRow q0_mind q0_changes q0_firstChange q0_isSaved q0_at q0_line q0_lineLength q0_text q0_length q0_next q0_numbers q0_sort q0_done)) (wM E ad q0_why q0_detail t4.2.1 t4.2.2.1 t4.2.2.2.1 q0_undos q0_savedRow t3 q0_changes q0_firstChange q0_isSaved q0_at q0_line q0_lineLength q0_text q0_length t4.2.2.2.2.1 t4.2.2.2.2.2.1 t4.2.2.2.2.2.2.1 t4.2.2.2.2.2.2.2) s.heap H locs := hH
    refine lv_istore_n (lv' := [(1, .int t4.1), (0, .ref (ad 0))]) hx hb dX9_run_29 rfl hl (by decide) rfl (fun ls hl => ?_)
    refine lv_aload_n hx hb dX9_run_30 rfl (lv_at hl 1 rfl) ?_
    refine lv_iconst (v := 0) hx hb dX9_run_31 (by decide) ?_
    refine pX9_198 hC hH 0 rfl (v := .int (0 : Int32)) rfl rfl (Nat.le_of_ble_eq_true rfl) (W1 := wM E ad q0_why q0_detail t4.2.1 t4.2.2.1 t4.2.2.2.1 q0_undos q0_savedRow t3 q0_changes q0_firstChange q0_isSaved q0_at q0_line q0_lineLength q0_text (0 : Int32) t4.2.2.2.2.1 t4.2.2.2.2.2.1 t4.2.2.2.2.2.2.1 t4.2.2.2.2.2.2.2) rfl dX9_run_32 (fun H locs hH => ?_)
    refine lv_iload_n hx hb dX9_run_35 rfl (lv_at hl 0 rfl) ?_
    refine lv_if_eq (tgt := 48) hx hb dX9_run_36 (by decide) (fun c5 => ?_) (fun c5 => ?_)
    · have hf := ite_t hf c5
      refine lv_aload_n hx hb dX9_run_48 rfl (lv_at hl 1 rfl) ?_
      obtain ⟨t6, ht6, hf⟩ := ob hf
      refine k_WVsv hC LX9_238 ⟨Nat.le_of_ble_eq_true rfl, Nat.le_of_ble_eq_true rfl⟩ ⟨Nat.zero_le _, Nat.zero_le _⟩ (cM_forgets l E ad q0_why q0_detail t4.2.1 t4.2.2.1 t4.2.2.2.1 q0_undos q0_savedRow t3 q0_changes q0_firstChange q0_isSaved q0_at q0_line q0_lineLength q0_text (0 : Int32) t4.2.2.2.2.1 t4.2.2.2.2.2.1 t4.2.2.2.2.2.2.1 t4.2.2.2.2.2.2.2 t6 ht6) rfl rfl hH rfl rfl rfl hl.1 rfl (Nat.le_of_ble_eq_true rfl) rfl dX9_run_49 (fun H locs hz49 hH => ?_)
      have hH : Hp E (adr (wM E ad q0_why q0_detail q0_reasonNow q0_detailNow q0_w q0_undos q0_savedRow q0_mind q0_changes q0_firstChange q0_isSaved q0_at q0_line q0_lineLength q0_text q0_length q0_next q0_numbers q0_sort q0_done)) (wM E ad q0_why q0_detail t4.2.1 t4.2.2.1 t6 q0_undos q0_savedRow t3 q0_changes q0_firstChange q0_isSaved q0_at q0_line q0_lineLength q0_text (0 : Int32) t4.2.2.2.2.1 t4.2.2.2.2.2.1 t4.2.2.2.2.2.2.1 t4.2.2.2.2.2.2.2) s.heap H locs := hH
      refine lv_aload_n hx hb dX9_run_52 rfl (lv_at hl 1 rfl) ?_
      refine lv_iconst (v := 4) hx hb dX9_run_53 (by decide) ?_
      refine pX9_42 hC hH 0 rfl (v := .int (4 : Int32)) rfl rfl (Nat.le_of_ble_eq_true rfl) (W1 := wM E ad (4 : Int32) q0_detail t4.2.1 t4.2.2.1 t6 q0_undos q0_savedRow t3 q0_changes q0_firstChange q0_isSaved q0_at q0_line q0_lineLength q0_text (0 : Int32) t4.2.2.2.2.1 t4.2.2.2.2.2.1 t4.2.2.2.2.2.2.1 t4.2.2.2.2.2.2.2) rfl dX9_run_54 (fun H locs hH => ?_)
      refine lv_aload_n hx hb dX9_run_57 rfl (lv_at hl 1 rfl) ?_
      refine lv_aload_n hx hb dX9_run_58 rfl (lv_at hl 1 rfl) ?_
      refine gX9_223 hC hH.1 0 rfl (v := .int t4.2.2.2.2.2.2.2) rfl dX9_run_59 ?_
      refine pX9_45 hC hH 0 rfl (v := .int t4.2.2.2.2.2.2.2) rfl rfl (Nat.le_of_ble_eq_true rfl) (W1 := wM E ad (4 : Int32) t4.2.2.2.2.2.2.2 t4.2.1 t4.2.2.1 t6 q0_undos q0_savedRow t3 q0_changes q0_firstChange q0_isSaved q0_at q0_line q0_lineLength q0_text (0 : Int32) t4.2.2.2.2.1 t4.2.2.2.2.2.1 t4.2.2.2.2.2.2.1 t4.2.2.2.2.2.2.2) rfl dX9_run_62 (fun H locs hH => ?_)
      refine lv_bipush (v := (-14)) hx hb dX9_run_65 (by decide) ?_
      have hf := Option.some.inj hf
      subst hf
      exact e_Wi hC hH hr hlocks rfl rfl dX9_run_67
    · have hf := ite_f hf c5
      refine lv_aload_n hx hb dX9_run_39 rfl (lv_at hl 1 rfl) ?_
      obtain ⟨t7, ht7, hf⟩ := ob hf
      refine k_WVsv hC LX9_57 ⟨Nat.le_of_ble_eq_true rfl, Nat.le_of_ble_eq_true rfl⟩ ⟨Nat.zero_le _, Nat.zero_le _⟩ (cM_keepsMind l E ad q0_why q0_detail t4.2.1 t4.2.2.1 t4.2.2.2.1 q0_undos q0_savedRow t3 q0_changes q0_firstChange q0_isSaved q0_at q0_line q0_lineLength q0_text (0 : Int32) t4.2.2.2.2.1 t4.2.2.2.2.2.1 t4.2.2.2.2.2.2.1 t4.2.2.2.2.2.2.2 t7 ht7) rfl rfl hH rfl rfl rfl hl.1 rfl (Nat.le_of_ble_eq_true rfl) rfl dX9_run_40 (fun H locs hz40 hH => ?_)
      have hH : Hp E (adr (wM E ad q0_why q0_detail q0_reasonNow q0_detailNow q0_w q0_undos q0_savedRow q0_mind q0_changes q0_firstChange q0_isSaved q0_at q0_line q0_lineLength q0_text q0_length q0_next q0_numbers q0_sort q0_done)) (wM E ad q0_why q0_detail t4.2.1 t4.2.2.1 t4.2.2.2.1 t7.1 q0_savedRow t3 t7.2.1 t7.2.2 q0_isSaved q0_at q0_line q0_lineLength q0_text (0 : Int32) t4.2.2.2.2.1 t4.2.2.2.2.2.1 t4.2.2.2.2.2.2.1 t4.2.2.2.2.2.2.2) s.heap H locs := hH
      refine lv_aload_n hx hb dX9_run_43 rfl (lv_at hl 1 rfl) ?_
      refine gX9_223 hC hH.1 0 rfl (v := .int t4.2.2.2.2.2.2.2) rfl dX9_run_44 ?_
      have hf := Option.some.inj hf
      subst hf
      exact e_Wi hC hH hr hlocks rfl rfl dX9_run_47
  · have hf := ite_t hf c2
    refine lv_aload_n hx hb dX9_run_7 rfl (lv_at hl 0 rfl) ?_
    refine lv_iconst (v := 0) hx hb dX9_run_8 (by decide) ?_
    refine pX9_198 hC hH 0 rfl (v := .int (0 : Int32)) rfl rfl (Nat.le_of_ble_eq_true rfl) (W1 := wM E ad q0_why q0_detail q0_reasonNow q0_detailNow q0_w q0_undos q0_savedRow q0_mind q0_changes q0_firstChange q0_isSaved q0_at q0_line q0_lineLength q0_text (0 : Int32) t1.2.1 t1.2.2.1 t1.2.2.2 q0_done) rfl dX9_run_9 (fun H locs hH => ?_)
    refine lv_sipush (v := (-1000)) hx hb dX9_run_12 (by decide) ?_
    refine lv_aload_n hx hb dX9_run_15 rfl (lv_at hl 0 rfl) ?_
    refine gX9_201 hC hH.1 0 rfl (v := .int t1.2.1) rfl dX9_run_16 ?_
    refine lv_isub hx hb dX9_run_19 ?_
    have hf := Option.some.inj hf
    subst hf
    exact e_Wi hC hH hr hlocks rfl rfl dX9_run_20
abbrev rmM_undo : Room := { frames := 0, cells := 0, slots := 0, locals := 0 }
set_option maxHeartbeats 4000000 in
set_option maxRecDepth 100000 in
theorem cM_undo (l : Launch) (E : eE) (ad : Nat → Nat) (q0_why : Int32) (q0_detail : Int32) (q0_reasonNow : Int32) (q0_detailNow : Int32) (q0_w : (Nat → Int32)) (q0_undos : (Nat → Int32)) (q0_savedRow : (Nat → Int32)) (q0_mind : (Nat → Int32)) (q0_changes : Int32) (q0_firstChange : Int32) (q0_isSaved : Int32) (q0_at : (Nat → Int32)) (q0_line : (Nat → Int32)) (q0_lineLength : Int32) (q0_text : (Nat → Int32)) (q0_length : Int32) (q0_next : Int32) (q0_numbers : (Nat → Int32)) (q0_sort : Int32) (q0_done : Int32) (t : Int32 × (Nat → Int32) × Int32) (hf : fM_undo q0_w q0_undos q0_changes q0_firstChange = some t) : cW l E yX9_undo cX9_undo 3 (some .int) rmM_undo [.ref (ad 0)] (wM E ad q0_why q0_detail q0_reasonNow q0_detailNow q0_w q0_undos q0_savedRow q0_mind q0_changes q0_firstChange q0_isSaved q0_at q0_line q0_lineLength q0_text q0_length q0_next q0_numbers q0_sort q0_done) (some (.int t.1)) (wM E ad q0_why q0_detail q0_reasonNow q0_detailNow t.2.1 q0_undos q0_savedRow q0_mind t.2.2 q0_firstChange q0_isSaved q0_at q0_line q0_lineLength q0_text q0_length q0_next q0_numbers q0_sort q0_done) := by
  refine Met.ofW (cc := cX9_undo) (maxL := 3) (ret := (some .int)) (by decide) rfl ?_
  intro p e s m args below meth c s₁ B hml hv
  obtain ⟨hargs, hP, hK, hD0⟩ := hv
  have hx := B.exec
  have hb := B.bytes
  have hr := B.returns
  have hts := atoms_spec (ws := ws_ yX9_undo cX9_undo 3 (some .int)) B.pre
  have hta : ∀ w ∈ lw_all, w.before args s = true := fun w h => hts w (List.mem_cons_of_mem _ h)
  have hown : s.vm.findClass RX9 = some m.cls := findClass_of_methodNamed B.named
  have hlocks := B.notSynchronized
  have hC : Cx p s m args c cX9_undo 3 RX9 E := ⟨hx, hb, hml, hown, hta, hK⟩
  have hH : Hp E (adr (wM E ad q0_why q0_detail q0_reasonNow q0_detailNow q0_w q0_undos q0_savedRow q0_mind q0_changes q0_firstChange q0_isSaved q0_at q0_line q0_lineLength q0_text q0_length q0_next q0_numbers q0_sort q0_done)) (wM E ad q0_why q0_detail q0_reasonNow q0_detailNow q0_w q0_undos q0_savedRow q0_mind q0_changes q0_firstChange q0_isSaved q0_at q0_line q0_lineLength q0_text q0_length q0_next q0_numbers q0_sort q0_done) s.heap s.heap [] := Hp.start hP hD0
  obtain ⟨ls, he, hl⟩ := entry_ (m := m) (n := 3) hargs (Nat.le_of_ble_eq_true rfl)
  rw [he]
  have hl : lv_has ls 3 [(0, .ref (ad 0))] := hl
  show W p l e rmM_undo s m args below meth c s.heap [] 0 0 (MQ below (qW E (some .int) (some (.int t.1)) (wM E ad q0_why q0_detail q0_reasonNow q0_detailNow q0_w q0_undos q0_savedRow q0_mind q0_changes q0_firstChange q0_isSaved q0_at q0_line q0_lineLength q0_text q0_length q0_next q0_numbers q0_sort q0_done) (wM E ad q0_why q0_detail q0_reasonNow q0_detailNow t.2.1 q0_undos q0_savedRow q0_mind t.2.2 q0_firstChange q0_isSaved q0_at q0_line q0_lineLength q0_text q0_length q0_next q0_numbers q0_sort q0_done)) args s 0 0 (adr (wM E ad q0_why q0_detail q0_reasonNow q0_detailNow q0_w q0_undos q0_savedRow q0_mind q0_changes q0_firstChange q0_isSaved q0_at q0_line q0_lineLength q0_text q0_length q0_next q0_numbers q0_sort q0_done))) (F0 m 0 ls [])
  suffices hmain : ∀ (H : Heap) (locs : List Loc), Hp E (adr (wM E ad q0_why q0_detail q0_reasonNow q0_detailNow q0_w q0_undos q0_savedRow q0_mind q0_changes q0_firstChange q0_isSaved q0_at q0_line q0_lineLength q0_text q0_length q0_next q0_numbers q0_sort q0_done)) (wM E ad q0_why q0_detail q0_reasonNow q0_detailNow q0_w q0_undos q0_savedRow q0_mind q0_changes q0_firstChange q0_isSaved q0_at q0_line q0_lineLength q0_text q0_length q0_next q0_numbers q0_sort q0_done) s.heap H locs → W p l e rmM_undo s m args below meth c H locs 0 0 (MQ below (qW E (some .int) (some (.int t.1)) (wM E ad q0_why q0_detail q0_reasonNow q0_detailNow q0_w q0_undos q0_savedRow q0_mind q0_changes q0_firstChange q0_isSaved q0_at q0_line q0_lineLength q0_text q0_length q0_next q0_numbers q0_sort q0_done) (wM E ad q0_why q0_detail q0_reasonNow q0_detailNow t.2.1 q0_undos q0_savedRow q0_mind t.2.2 q0_firstChange q0_isSaved q0_at q0_line q0_lineLength q0_text q0_length q0_next q0_numbers q0_sort q0_done)) args s 0 0 (adr (wM E ad q0_why q0_detail q0_reasonNow q0_detailNow q0_w q0_undos q0_savedRow q0_mind q0_changes q0_firstChange q0_isSaved q0_at q0_line q0_lineLength q0_text q0_length q0_next q0_numbers q0_sort q0_done))) (F0 m 0 ls []) from hmain _ _ hH
  clear hH
  have L35 : ∀ (n : Nat) (y0_4 : (Nat → Int32)) (y0_8 : Int32) (a1 : Int32) (a2 : Int32) (ls : Array Slot), lv_has ls 3 [(0, .ref (ad 0)), (1, .int a1), (2, .int a2)] → ∀ (H : Heap) (locs : List Loc), Hp E (adr (wM E ad q0_why q0_detail q0_reasonNow q0_detailNow q0_w q0_undos q0_savedRow q0_mind q0_changes q0_firstChange q0_isSaved q0_at q0_line q0_lineLength q0_text q0_length q0_next q0_numbers q0_sort q0_done)) (wM E ad q0_why q0_detail q0_reasonNow q0_detailNow y0_4 q0_undos q0_savedRow q0_mind y0_8 q0_firstChange q0_isSaved q0_at q0_line q0_lineLength q0_text q0_length q0_next q0_numbers q0_sort q0_done) s.heap H locs → fM_undo_35 n y0_4 q0_undos y0_8 q0_firstChange a1 a2 = some t → W p l e rmM_undo s m args below meth c H locs 0 0 (MQ below (qW E (some .int) (some (.int t.1)) (wM E ad q0_why q0_detail q0_reasonNow q0_detailNow q0_w q0_undos q0_savedRow q0_mind q0_changes q0_firstChange q0_isSaved q0_at q0_line q0_lineLength q0_text q0_length q0_next q0_numbers q0_sort q0_done) (wM E ad q0_why q0_detail q0_reasonNow q0_detailNow t.2.1 q0_undos q0_savedRow q0_mind t.2.2 q0_firstChange q0_isSaved q0_at q0_line q0_lineLength q0_text q0_length q0_next q0_numbers q0_sort q0_done)) args s 0 0 (adr (wM E ad q0_why q0_detail q0_reasonNow q0_detailNow q0_w q0_undos q0_savedRow q0_mind q0_changes q0_firstChange q0_isSaved q0_at q0_line q0_lineLength q0_text q0_length q0_next q0_numbers q0_sort q0_done))) (F0 m 35 ls []) := by
    intro n
    induction n with
    | zero => intro y0_4 y0_8 a1 a2 ls hl H locs hH hf; cases hf
    | succ n ih =>
      intro y0_4 y0_8 a1 a2 ls hl H locs hH hf
      rw [fM_undo_35] at hf
      refine lv_iload_n hx hb dX9_undo_35 rfl (lv_at hl 2 rfl) ?_
      refine lv_sipush (v := 132) hx hb dX9_undo_36 (by decide) ?_
      refine lv_icmp_ge (tgt := 66) hx hb dX9_undo_39 (by decide) (fun c2 => ?_) (fun c2 => ?_)
      · have hf := ite_t hf c2
        refine lv_aload_n hx hb dX9_undo_66 rfl (lv_at hl 0 rfl) ?_
        refine gX9_48 hC hH.1 0 rfl (v := .int y0_8) rfl dX9_undo_67 ?_
        have hf := Option.some.inj hf
        subst hf
        exact e_Wi hC hH hr hlocks rfl rfl dX9_undo_70
      · have hf := ite_f hf c2
        refine lv_aload_n hx hb dX9_undo_42 rfl (lv_at hl 0 rfl) ?_
        refine gX9_7 hC hH.1 0 rfl (v := .ref (ad 1)) rfl dX9_undo_43 ?_
        refine lv_iload_n hx hb dX9_undo_46 rfl (lv_at hl 2 rfl) ?_
        refine lv_aload_n hx hb dX9_undo_47 rfl (lv_at hl 0 rfl) ?_
        refine gX9_13 hC hH.1 0 rfl (v := .ref (ad 2)) rfl dX9_undo_48 ?_
        refine lv_sipush (v := 132) hx hb dX9_undo_51 (by decide) ?_
        refine lv_iload_n hx hb dX9_undo_54 rfl (lv_at hl 1 rfl) ?_
        refine lv_imul hx hb dX9_undo_55 ?_
        refine lv_iload_n hx hb dX9_undo_56 rfl (lv_at hl 2 rfl) ?_
        refine lv_iadd hx hb dX9_undo_57 ?_
        obtain ⟨v3, hv3, hf⟩ := ob hf
        obtain ⟨hv3a, hv3b⟩ := ldA_ok hv3
        refine a_ild hC hH.1 2 rfl hv3a hv3b dX9_undo_58 ?_
        obtain ⟨g4, hg4, hf⟩ := ob hf
        obtain ⟨hg4a, hg4b⟩ := stA_ok hg4
        refine a_ist hC hH 1 rfl hg4a hg4b (W1 := wM E ad q0_why q0_detail q0_reasonNow q0_detailNow g4 q0_undos q0_savedRow q0_mind y0_8 q0_firstChange q0_isSaved q0_at q0_line q0_lineLength q0_text q0_length q0_next q0_numbers q0_sort q0_done) rfl dX9_undo_59 (fun H locs hH => ?_)
        refine lv_iinc (v := (a2 + (1 : Int32))) (lv' := [(2, .int (a2 + (1 : Int32))), (0, .ref (ad 0)), (1, .int a1)]) hx hb dX9_undo_60 hl (k := 2) rfl rfl (by decide) rfl (fun ls hl => ?_)
        refine lv_goto (tgt := 35) hx hb dX9_undo_63 (by decide) ?_
        exact ih g4 y0_8 a1 (a2 + (1 : Int32)) ls (lv_sub hl [1, 2, 0] rfl) _ _ hH hf
  intro H locs hH
  rw [fM_undo] at hf
  refine lv_aload_n hx hb dX9_undo_0 rfl (lv_at hl 0 rfl) ?_
  refine gX9_48 hC hH.1 0 rfl (v := .int q0_changes) rfl dX9_undo_1 ?_
  refine lv_if_ne (tgt := 10) hx hb dX9_undo_4 (by decide) (fun c1 => ?_) (fun c1 => ?_)
  · have hf := ite_f hf c1
    refine lv_aload_n hx hb dX9_undo_10 rfl (lv_at hl 0 rfl) ?_
    refine lv_dup hx hb dX9_undo_11 rfl ?_
    refine gX9_48 hC hH.1 0 rfl (v := .int q0_changes) rfl dX9_undo_12 ?_
    refine lv_iconst (v := 1) hx hb dX9_undo_15 (by decide) ?_
    refine lv_isub hx hb dX9_undo_16 ?_
    refine pX9_48 hC hH 0 rfl (v := .int (q0_changes - (1 : Int32))) rfl rfl (Nat.le_of_ble_eq_true rfl) (W1 := wM E ad q0_why q0_detail q0_reasonNow q0_detailNow q0_w q0_undos q0_savedRow q0_mind (q0_changes - (1 : Int32)) q0_firstChange q0_isSaved q0_at q0_line q0_lineLength q0_text q0_length q0_next q0_numbers q0_sort q0_done) rfl dX9_undo_17 (fun H locs hH => ?_)
    refine lv_aload_n hx hb dX9_undo_20 rfl (lv_at hl 0 rfl) ?_
    refine gX9_51 hC hH.1 0 rfl (v := .int q0_firstChange) rfl dX9_undo_21 ?_
    refine lv_aload_n hx hb dX9_undo_24 rfl (lv_at hl 0 rfl) ?_
    refine gX9_48 hC hH.1 0 rfl (v := .int (q0_changes - (1 : Int32))) rfl dX9_undo_25 ?_
    refine lv_iadd hx hb dX9_undo_28 ?_
    refine lv_bipush (v := 8) hx hb dX9_undo_29 (by decide) ?_
    refine lv_irem hx hb dX9_undo_31 (by decide) ?_
    refine lv_istore_n (lv' := [(1, .int ((q0_firstChange + (q0_changes - (1 : Int32))) - (q0_firstChange + (q0_changes - (1 : Int32))) / (8 : Int32) * (8 : Int32))), (0, .ref (ad 0))]) hx hb dX9_undo_32 rfl hl (by decide) rfl (fun ls hl => ?_)
    refine lv_iconst (v := 0) hx hb dX9_undo_33 (by decide) ?_
    refine lv_istore_n (lv' := [(2, .int (0 : Int32)), (1, .int ((q0_firstChange + (q0_changes - (1 : Int32))) - (q0_firstChange + (q0_changes - (1 : Int32))) / (8 : Int32) * (8 : Int32))), (0, .ref (ad 0))]) hx hb dX9_undo_34 rfl hl (by decide) rfl (fun ls hl => ?_)
    exact L35 FU q0_w (q0_changes - (1 : Int32)) ((q0_firstChange + (q0_changes - (1 : Int32))) - (q0_firstChange + (q0_changes - (1 : Int32))) / (8 : Int32) * (8 : Int32)) (0 : Int32) ls (lv_sub hl [2, 1, 0] rfl) _ _ hH hf
  · have hf := ite_t hf c1
    refine lv_bipush (v := (-15)) hx hb dX9_undo_7 (by decide) ?_
    have hf := Option.some.inj hf
    subst hf
    exact e_Wi hC hH hr hlocks rfl rfl dX9_undo_9
abbrev rmM_save : Room := { frames := 0, cells := 0, slots := 0, locals := 0 }
set_option maxHeartbeats 4000000 in
set_option maxRecDepth 100000 in
theorem cM_save (l : Launch) (E : eE) (ad : Nat → Nat) (q0_why : Int32) (q0_detail : Int32) (q0_reasonNow : Int32) (q0_detailNow : Int32) (q0_w : (Nat → Int32)) (q0_undos : (Nat → Int32)) (q0_savedRow : (Nat → Int32)) (q0_mind : (Nat → Int32)) (q0_changes : Int32) (q0_firstChange : Int32) (q0_isSaved : Int32) (q0_at : (Nat → Int32)) (q0_line : (Nat → Int32)) (q0_lineLength : Int32) (q0_text : (Nat → Int32)) (q0_length : Int32) (q0_next : Int32) (q0_numbers : (Nat → Int32)) (q0_sort : Int32) (q0_done : Int32) (t : Int32 × (Nat → Int32) × Int32) (hf : fM_save q0_w q0_savedRow q0_isSaved = some t) : cW l E yX9_save cX9_save 2 (some .int) rmM_save [.ref (ad 0)] (wM E ad q0_why q0_detail q0_reasonNow q0_detailNow q0_w q0_undos q0_savedRow q0_mind q0_changes q0_firstChange q0_isSaved q0_at q0_line q0_lineLength q0_text q0_length q0_next q0_numbers q0_sort q0_done) (some (.int t.1)) (wM E ad q0_why q0_detail q0_reasonNow q0_detailNow q0_w q0_undos t.2.1 q0_mind q0_changes q0_firstChange t.2.2 q0_at q0_line q0_lineLength q0_text q0_length q0_next q0_numbers q0_sort q0_done) := by
  refine Met.ofW (cc := cX9_save) (maxL := 2) (ret := (some .int)) (by decide) rfl ?_
  intro p e s m args below meth c s₁ B hml hv
  obtain ⟨hargs, hP, hK, hD0⟩ := hv
  have hx := B.exec
  have hb := B.bytes
  have hr := B.returns
  have hts := atoms_spec (ws := ws_ yX9_save cX9_save 2 (some .int)) B.pre
  have hta : ∀ w ∈ lw_all, w.before args s = true := fun w h => hts w (List.mem_cons_of_mem _ h)
  have hown : s.vm.findClass RX9 = some m.cls := findClass_of_methodNamed B.named
  have hlocks := B.notSynchronized
  have hC : Cx p s m args c cX9_save 2 RX9 E := ⟨hx, hb, hml, hown, hta, hK⟩
  have hH : Hp E (adr (wM E ad q0_why q0_detail q0_reasonNow q0_detailNow q0_w q0_undos q0_savedRow q0_mind q0_changes q0_firstChange q0_isSaved q0_at q0_line q0_lineLength q0_text q0_length q0_next q0_numbers q0_sort q0_done)) (wM E ad q0_why q0_detail q0_reasonNow q0_detailNow q0_w q0_undos q0_savedRow q0_mind q0_changes q0_firstChange q0_isSaved q0_at q0_line q0_lineLength q0_text q0_length q0_next q0_numbers q0_sort q0_done) s.heap s.heap [] := Hp.start hP hD0
  obtain ⟨ls, he, hl⟩ := entry_ (m := m) (n := 2) hargs (Nat.le_of_ble_eq_true rfl)
  rw [he]
  have hl : lv_has ls 2 [(0, .ref (ad 0))] := hl
  show W p l e rmM_save s m args below meth c s.heap [] 0 0 (MQ below (qW E (some .int) (some (.int t.1)) (wM E ad q0_why q0_detail q0_reasonNow q0_detailNow q0_w q0_undos q0_savedRow q0_mind q0_changes q0_firstChange q0_isSaved q0_at q0_line q0_lineLength q0_text q0_length q0_next q0_numbers q0_sort q0_done) (wM E ad q0_why q0_detail q0_reasonNow q0_detailNow q0_w q0_undos t.2.1 q0_mind q0_changes q0_firstChange t.2.2 q0_at q0_line q0_lineLength q0_text q0_length q0_next q0_numbers q0_sort q0_done)) args s 0 0 (adr (wM E ad q0_why q0_detail q0_reasonNow q0_detailNow q0_w q0_undos q0_savedRow q0_mind q0_changes q0_firstChange q0_isSaved q0_at q0_line q0_lineLength q0_text q0_length q0_next q0_numbers q0_sort q0_done))) (F0 m 0 ls [])
  suffices hmain : ∀ (H : Heap) (locs : List Loc), Hp E (adr (wM E ad q0_why q0_detail q0_reasonNow q0_detailNow q0_w q0_undos q0_savedRow q0_mind q0_changes q0_firstChange q0_isSaved q0_at q0_line q0_lineLength q0_text q0_length q0_next q0_numbers q0_sort q0_done)) (wM E ad q0_why q0_detail q0_reasonNow q0_detailNow q0_w q0_undos q0_savedRow q0_mind q0_changes q0_firstChange q0_isSaved q0_at q0_line q0_lineLength q0_text q0_length q0_next q0_numbers q0_sort q0_done) s.heap H locs → W p l e rmM_save s m args below meth c H locs 0 0 (MQ below (qW E (some .int) (some (.int t.1)) (wM E ad q0_why q0_detail q0_reasonNow q0_detailNow q0_w q0_undos q0_savedRow q0_mind q0_changes q0_firstChange q0_isSaved q0_at q0_line q0_lineLength q0_text q0_length q0_next q0_numbers q0_sort q0_done) (wM E ad q0_why q0_detail q0_reasonNow q0_detailNow q0_w q0_undos t.2.1 q0_mind q0_changes q0_firstChange t.2.2 q0_at q0_line q0_lineLength q0_text q0_length q0_next q0_numbers q0_sort q0_done)) args s 0 0 (adr (wM E ad q0_why q0_detail q0_reasonNow q0_detailNow q0_w q0_undos q0_savedRow q0_mind q0_changes q0_firstChange q0_isSaved q0_at q0_line q0_lineLength q0_text q0_length q0_next q0_numbers q0_sort q0_done))) (F0 m 0 ls []) from hmain _ _ hH
  clear hH
  have L2 : ∀ (n : Nat) (y0_6 : (Nat → Int32)) (y0_10 : Int32) (a1 : Int32) (ls : Array Slot), lv_has ls 2 [(0, .ref (ad 0)), (1, .int a1)] → ∀ (H : Heap) (locs : List Loc), Hp E (adr (wM E ad q0_why q0_detail q0_reasonNow q0_detailNow q0_w q0_undos q0_savedRow q0_mind q0_changes q0_firstChange q0_isSaved q0_at q0_line q0_lineLength q0_text q0_length q0_next q0_numbers q0_sort q0_done)) (wM E ad q0_why q0_detail q0_reasonNow q0_detailNow q0_w q0_undos y0_6 q0_mind q0_changes q0_firstChange y0_10 q0_at q0_line q0_lineLength q0_text q0_length q0_next q0_numbers q0_sort q0_done) s.heap H locs → fM_save_2 n q0_w y0_6 y0_10 a1 = some t → W p l e rmM_save s m args below meth c H locs 0 0 (MQ below (qW E (some .int) (some (.int t.1)) (wM E ad q0_why q0_detail q0_reasonNow q0_detailNow q0_w q0_undos q0_savedRow q0_mind q0_changes q0_firstChange q0_isSaved q0_at q0_line q0_lineLength q0_text q0_length q0_next q0_numbers q0_sort q0_done) (wM E ad q0_why q0_detail q0_reasonNow q0_detailNow q0_w q0_undos t.2.1 q0_mind q0_changes q0_firstChange t.2.2 q0_at q0_line q0_lineLength q0_text q0_length q0_next q0_numbers q0_sort q0_done)) args s 0 0 (adr (wM E ad q0_why q0_detail q0_reasonNow q0_detailNow q0_w q0_undos q0_savedRow q0_mind q0_changes q0_firstChange q0_isSaved q0_at q0_line q0_lineLength q0_text q0_length q0_next q0_numbers q0_sort q0_done))) (F0 m 2 ls []) := by
    intro n
    induction n with
    | zero => intro y0_6 y0_10 a1 ls hl H locs hH hf; cases hf
    | succ n ih =>
      intro y0_6 y0_10 a1 ls hl H locs hH hf
      rw [fM_save_2] at hf
      refine lv_iload_n hx hb dX9_save_2 rfl (lv_at hl 1 rfl) ?_
      refine lv_sipush (v := 132) hx hb dX9_save_3 (by decide) ?_
      refine lv_icmp_ge (tgt := 27) hx hb dX9_save_6 (by decide) (fun c1 => ?_) (fun c1 => ?_)
      · have hf := ite_t hf c1
        refine lv_aload_n hx hb dX9_save_27 rfl (lv_at hl 0 rfl) ?_
        refine lv_iconst (v := 1) hx hb dX9_save_28 (by decide) ?_
        refine pX9_241 hC hH 0 rfl (v := .int (1 : Int32)) rfl rfl (Nat.le_of_ble_eq_true rfl) (W1 := wM E ad q0_why q0_detail q0_reasonNow q0_detailNow q0_w q0_undos y0_6 q0_mind q0_changes q0_firstChange (1 : Int32) q0_at q0_line q0_lineLength q0_text q0_length q0_next q0_numbers q0_sort q0_done) rfl dX9_save_29 (fun H locs hH => ?_)
        refine lv_aload_n hx hb dX9_save_32 rfl (lv_at hl 0 rfl) ?_
        refine gX9_7 hC hH.1 0 rfl (v := .ref (ad 1)) rfl dX9_save_33 ?_
        refine lv_iconst (v := 0) hx hb dX9_save_36 (by decide) ?_
        obtain ⟨v2, hv2, hf⟩ := ob hf
        obtain ⟨hv2a, hv2b⟩ := ldA_ok hv2
        refine a_ild hC hH.1 1 rfl hv2a hv2b dX9_save_37 ?_
        have hf := Option.some.inj hf
        subst hf
        exact e_Wi hC hH hr hlocks rfl rfl dX9_save_38
      · have hf := ite_f hf c1
        refine lv_aload_n hx hb dX9_save_9 rfl (lv_at hl 0 rfl) ?_
        refine gX9_16 hC hH.1 0 rfl (v := .ref (ad 3)) rfl dX9_save_10 ?_
        refine lv_iload_n hx hb dX9_save_13 rfl (lv_at hl 1 rfl) ?_
        refine lv_aload_n hx hb dX9_save_14 rfl (lv_at hl 0 rfl) ?_
        refine gX9_7 hC hH.1 0 rfl (v := .ref (ad 1)) rfl dX9_save_15 ?_
        refine lv_iload_n hx hb dX9_save_18 rfl (lv_at hl 1 rfl) ?_
        obtain ⟨v3, hv3, hf⟩ := ob hf
        obtain ⟨hv3a, hv3b⟩ := ldA_ok hv3
        refine a_ild hC hH.1 1 rfl hv3a hv3b dX9_save_19 ?_
        obtain ⟨g4, hg4, hf⟩ := ob hf
        obtain ⟨hg4a, hg4b⟩ := stA_ok hg4
        refine a_ist hC hH 3 rfl hg4a hg4b (W1 := wM E ad q0_why q0_detail q0_reasonNow q0_detailNow q0_w q0_undos g4 q0_mind q0_changes q0_firstChange y0_10 q0_at q0_line q0_lineLength q0_text q0_length q0_next q0_numbers q0_sort q0_done) rfl dX9_save_20 (fun H locs hH => ?_)
        refine lv_iinc (v := (a1 + (1 : Int32))) (lv' := [(1, .int (a1 + (1 : Int32))), (0, .ref (ad 0))]) hx hb dX9_save_21 hl (k := 1) rfl rfl (by decide) rfl (fun ls hl => ?_)
        refine lv_goto (tgt := 2) hx hb dX9_save_24 (by decide) ?_
        exact ih g4 y0_10 (a1 + (1 : Int32)) ls (lv_sub hl [1, 0] rfl) _ _ hH hf
  intro H locs hH
  rw [fM_save] at hf
  refine lv_iconst (v := 0) hx hb dX9_save_0 (by decide) ?_
  refine lv_istore_n (lv' := [(1, .int (0 : Int32)), (0, .ref (ad 0))]) hx hb dX9_save_1 rfl hl (by decide) rfl (fun ls hl => ?_)
  exact L2 FU q0_savedRow q0_isSaved (0 : Int32) ls (lv_sub hl [1, 0] rfl) _ _ hH hf
abbrev rmM_restore : Room := { frames := 0, cells := 0, slots := 0, locals := 0 }
set_option maxHeartbeats 4000000 in
set_option maxRecDepth 100000 in
theorem cM_restore (l : Launch) (E : eE) (ad : Nat → Nat) (q0_why : Int32) (q0_detail : Int32) (q0_reasonNow : Int32) (q0_detailNow : Int32) (q0_w : (Nat → Int32)) (q0_undos : (Nat → Int32)) (q0_savedRow : (Nat → Int32)) (q0_mind : (Nat → Int32)) (q0_changes : Int32) (q0_firstChange : Int32) (q0_isSaved : Int32) (q0_at : (Nat → Int32)) (q0_line : (Nat → Int32)) (q0_lineLength : Int32) (q0_text : (Nat → Int32)) (q0_length : Int32) (q0_next : Int32) (q0_numbers : (Nat → Int32)) (q0_sort : Int32) (q0_done : Int32) (t : Int32 × (Nat → Int32) × Int32 × Int32) (hf : fM_restore q0_w q0_savedRow q0_changes q0_firstChange q0_isSaved = some t) : cW l E yX9_restore cX9_restore 2 (some .int) rmM_restore [.ref (ad 0)] (wM E ad q0_why q0_detail q0_reasonNow q0_detailNow q0_w q0_undos q0_savedRow q0_mind q0_changes q0_firstChange q0_isSaved q0_at q0_line q0_lineLength q0_text q0_length q0_next q0_numbers q0_sort q0_done) (some (.int t.1)) (wM E ad q0_why q0_detail q0_reasonNow q0_detailNow t.2.1 q0_undos q0_savedRow q0_mind t.2.2.1 t.2.2.2 q0_isSaved q0_at q0_line q0_lineLength q0_text q0_length q0_next q0_numbers q0_sort q0_done) := by
  refine Met.ofW (cc := cX9_restore) (maxL := 2) (ret := (some .int)) (by decide) rfl ?_
  intro p e s m args below meth c s₁ B hml hv
  obtain ⟨hargs, hP, hK, hD0⟩ := hv
  have hx := B.exec
  have hb := B.bytes
  have hr := B.returns
  have hts := atoms_spec (ws := ws_ yX9_restore cX9_restore 2 (some .int)) B.pre
  have hta : ∀ w ∈ lw_all, w.before args s = true := fun w h => hts w (List.mem_cons_of_mem _ h)
  have hown : s.vm.findClass RX9 = some m.cls := findClass_of_methodNamed B.named
  have hlocks := B.notSynchronized
  have hC : Cx p s m args c cX9_restore 2 RX9 E := ⟨hx, hb, hml, hown, hta, hK⟩
  have hH : Hp E (adr (wM E ad q0_why q0_detail q0_reasonNow q0_detailNow q0_w q0_undos q0_savedRow q0_mind q0_changes q0_firstChange q0_isSaved q0_at q0_line q0_lineLength q0_text q0_length q0_next q0_numbers q0_sort q0_done)) (wM E ad q0_why q0_detail q0_reasonNow q0_detailNow q0_w q0_undos q0_savedRow q0_mind q0_changes q0_firstChange q0_isSaved q0_at q0_line q0_lineLength q0_text q0_length q0_next q0_numbers q0_sort q0_done) s.heap s.heap [] := Hp.start hP hD0
  obtain ⟨ls, he, hl⟩ := entry_ (m := m) (n := 2) hargs (Nat.le_of_ble_eq_true rfl)
  rw [he]
  have hl : lv_has ls 2 [(0, .ref (ad 0))] := hl
  show W p l e rmM_restore s m args below meth c s.heap [] 0 0 (MQ below (qW E (some .int) (some (.int t.1)) (wM E ad q0_why q0_detail q0_reasonNow q0_detailNow q0_w q0_undos q0_savedRow q0_mind q0_changes q0_firstChange q0_isSaved q0_at q0_line q0_lineLength q0_text q0_length q0_next q0_numbers q0_sort q0_done) (wM E ad q0_why q0_detail q0_reasonNow q0_detailNow t.2.1 q0_undos q0_savedRow q0_mind t.2.2.1 t.2.2.2 q0_isSaved q0_at q0_line q0_lineLength q0_text q0_length q0_next q0_numbers q0_sort q0_done)) args s 0 0 (adr (wM E ad q0_why q0_detail q0_reasonNow q0_detailNow q0_w q0_undos q0_savedRow q0_mind q0_changes q0_firstChange q0_isSaved q0_at q0_line q0_lineLength q0_text q0_length q0_next q0_numbers q0_sort q0_done))) (F0 m 0 ls [])
  suffices hmain : ∀ (H : Heap) (locs : List Loc), Hp E (adr (wM E ad q0_why q0_detail q0_reasonNow q0_detailNow q0_w q0_undos q0_savedRow q0_mind q0_changes q0_firstChange q0_isSaved q0_at q0_line q0_lineLength q0_text q0_length q0_next q0_numbers q0_sort q0_done)) (wM E ad q0_why q0_detail q0_reasonNow q0_detailNow q0_w q0_undos q0_savedRow q0_mind q0_changes q0_firstChange q0_isSaved q0_at q0_line q0_lineLength q0_text q0_length q0_next q0_numbers q0_sort q0_done) s.heap H locs → W p l e rmM_restore s m args below meth c H locs 0 0 (MQ below (qW E (some .int) (some (.int t.1)) (wM E ad q0_why q0_detail q0_reasonNow q0_detailNow q0_w q0_undos q0_savedRow q0_mind q0_changes q0_firstChange q0_isSaved q0_at q0_line q0_lineLength q0_text q0_length q0_next q0_numbers q0_sort q0_done) (wM E ad q0_why q0_detail q0_reasonNow q0_detailNow t.2.1 q0_undos q0_savedRow q0_mind t.2.2.1 t.2.2.2 q0_isSaved q0_at q0_line q0_lineLength q0_text q0_length q0_next q0_numbers q0_sort q0_done)) args s 0 0 (adr (wM E ad q0_why q0_detail q0_reasonNow q0_detailNow q0_w q0_undos q0_savedRow q0_mind q0_changes q0_firstChange q0_isSaved q0_at q0_line q0_lineLength q0_text q0_length q0_next q0_numbers q0_sort q0_done))) (F0 m 0 ls []) from hmain _ _ hH
  clear hH
  have L12 : ∀ (n : Nat) (y0_4 : (Nat → Int32)) (y0_8 : Int32) (y0_9 : Int32) (a1 : Int32) (ls : Array Slot), lv_has ls 2 [(0, .ref (ad 0)), (1, .int a1)] → ∀ (H : Heap) (locs : List Loc), Hp E (adr (wM E ad q0_why q0_detail q0_reasonNow q0_detailNow q0_w q0_undos q0_savedRow q0_mind q0_changes q0_firstChange q0_isSaved q0_at q0_line q0_lineLength q0_text q0_length q0_next q0_numbers q0_sort q0_done)) (wM E ad q0_why q0_detail q0_reasonNow q0_detailNow y0_4 q0_undos q0_savedRow q0_mind y0_8 y0_9 q0_isSaved q0_at q0_line q0_lineLength q0_text q0_length q0_next q0_numbers q0_sort q0_done) s.heap H locs → fM_restore_12 n y0_4 q0_savedRow y0_8 y0_9 q0_isSaved a1 = some t → W p l e rmM_restore s m args below meth c H locs 0 0 (MQ below (qW E (some .int) (some (.int t.1)) (wM E ad q0_why q0_detail q0_reasonNow q0_detailNow q0_w q0_undos q0_savedRow q0_mind q0_changes q0_firstChange q0_isSaved q0_at q0_line q0_lineLength q0_text q0_length q0_next q0_numbers q0_sort q0_done) (wM E ad q0_why q0_detail q0_reasonNow q0_detailNow t.2.1 q0_undos q0_savedRow q0_mind t.2.2.1 t.2.2.2 q0_isSaved q0_at q0_line q0_lineLength q0_text q0_length q0_next q0_numbers q0_sort q0_done)) args s 0 0 (adr (wM E ad q0_why q0_detail q0_reasonNow q0_detailNow q0_w q0_undos q0_savedRow q0_mind q0_changes q0_firstChange q0_isSaved q0_at q0_line q0_lineLength q0_text q0_length q0_next q0_numbers q0_sort q0_done))) (F0 m 12 ls []) := by
    intro n
    induction n with
    | zero => intro y0_4 y0_8 y0_9 a1 ls hl H locs hH hf; cases hf
    | succ n ih =>
      intro y0_4 y0_8 y0_9 a1 ls hl H locs hH hf
      rw [fM_restore_12] at hf
      refine lv_iload_n hx hb dX9_restore_12 rfl (lv_at hl 1 rfl) ?_
      refine lv_sipush (v := 132) hx hb dX9_restore_13 (by decide) ?_
      refine lv_icmp_ge (tgt := 37) hx hb dX9_restore_16 (by decide) (fun c2 => ?_) (fun c2 => ?_)
      · have hf := ite_t hf c2
        refine lv_aload_n hx hb dX9_restore_37 rfl (lv_at hl 0 rfl) ?_
        refine lv_iconst (v := 0) hx hb dX9_restore_38 (by decide) ?_
        refine pX9_48 hC hH 0 rfl (v := .int (0 : Int32)) rfl rfl (Nat.le_of_ble_eq_true rfl) (W1 := wM E ad q0_why q0_detail q0_reasonNow q0_detailNow y0_4 q0_undos q0_savedRow q0_mind (0 : Int32) y0_9 q0_isSaved q0_at q0_line q0_lineLength q0_text q0_length q0_next q0_numbers q0_sort q0_done) rfl dX9_restore_39 (fun H locs hH => ?_)
        refine lv_aload_n hx hb dX9_restore_42 rfl (lv_at hl 0 rfl) ?_
        refine lv_iconst (v := 0) hx hb dX9_restore_43 (by decide) ?_
        refine pX9_51 hC hH 0 rfl (v := .int (0 : Int32)) rfl rfl (Nat.le_of_ble_eq_true rfl) (W1 := wM E ad q0_why q0_detail q0_reasonNow q0_detailNow y0_4 q0_undos q0_savedRow q0_mind (0 : Int32) (0 : Int32) q0_isSaved q0_at q0_line q0_lineLength q0_text q0_length q0_next q0_numbers q0_sort q0_done) rfl dX9_restore_44 (fun H locs hH => ?_)
        refine lv_aload_n hx hb dX9_restore_47 rfl (lv_at hl 0 rfl) ?_
        refine gX9_7 hC hH.1 0 rfl (v := .ref (ad 1)) rfl dX9_restore_48 ?_
        refine lv_iconst (v := 0) hx hb dX9_restore_51 (by decide) ?_
        obtain ⟨v3, hv3, hf⟩ := ob hf
        obtain ⟨hv3a, hv3b⟩ := ldA_ok hv3
        refine a_ild hC hH.1 1 rfl hv3a hv3b dX9_restore_52 ?_
        have hf := Option.some.inj hf
        subst hf
        exact e_Wi hC hH hr hlocks rfl rfl dX9_restore_53
      · have hf := ite_f hf c2
        refine lv_aload_n hx hb dX9_restore_19 rfl (lv_at hl 0 rfl) ?_
        refine gX9_7 hC hH.1 0 rfl (v := .ref (ad 1)) rfl dX9_restore_20 ?_
        refine lv_iload_n hx hb dX9_restore_23 rfl (lv_at hl 1 rfl) ?_
        refine lv_aload_n hx hb dX9_restore_24 rfl (lv_at hl 0 rfl) ?_
        refine gX9_16 hC hH.1 0 rfl (v := .ref (ad 3)) rfl dX9_restore_25 ?_
        refine lv_iload_n hx hb dX9_restore_28 rfl (lv_at hl 1 rfl) ?_
        obtain ⟨v4, hv4, hf⟩ := ob hf
        obtain ⟨hv4a, hv4b⟩ := ldA_ok hv4
        refine a_ild hC hH.1 3 rfl hv4a hv4b dX9_restore_29 ?_
        obtain ⟨g5, hg5, hf⟩ := ob hf
        obtain ⟨hg5a, hg5b⟩ := stA_ok hg5
        refine a_ist hC hH 1 rfl hg5a hg5b (W1 := wM E ad q0_why q0_detail q0_reasonNow q0_detailNow g5 q0_undos q0_savedRow q0_mind y0_8 y0_9 q0_isSaved q0_at q0_line q0_lineLength q0_text q0_length q0_next q0_numbers q0_sort q0_done) rfl dX9_restore_30 (fun H locs hH => ?_)
        refine lv_iinc (v := (a1 + (1 : Int32))) (lv' := [(1, .int (a1 + (1 : Int32))), (0, .ref (ad 0))]) hx hb dX9_restore_31 hl (k := 1) rfl rfl (by decide) rfl (fun ls hl => ?_)
        refine lv_goto (tgt := 12) hx hb dX9_restore_34 (by decide) ?_
        exact ih g5 y0_8 y0_9 (a1 + (1 : Int32)) ls (lv_sub hl [1, 0] rfl) _ _ hH hf
  intro H locs hH
  rw [fM_restore] at hf
  refine lv_aload_n hx hb dX9_restore_0 rfl (lv_at hl 0 rfl) ?_
  refine gX9_241 hC hH.1 0 rfl (v := .int q0_isSaved) rfl dX9_restore_1 ?_
  refine lv_if_ne (tgt := 10) hx hb dX9_restore_4 (by decide) (fun c1 => ?_) (fun c1 => ?_)
  · have hf := ite_f hf c1
    refine lv_iconst (v := 0) hx hb dX9_restore_10 (by decide) ?_
    refine lv_istore_n (lv' := [(1, .int (0 : Int32)), (0, .ref (ad 0))]) hx hb dX9_restore_11 rfl hl (by decide) rfl (fun ls hl => ?_)
    exact L12 FU q0_w q0_changes q0_firstChange (0 : Int32) ls (lv_sub hl [1, 0] rfl) _ _ hH hf
  · have hf := ite_t hf c1
    refine lv_bipush (v := (-15)) hx hb dX9_restore_7 (by decide) ?_
    have hf := Option.some.inj hf
    subst hf
    exact e_Wi hC hH hr hlocks rfl rfl dX9_restore_9
