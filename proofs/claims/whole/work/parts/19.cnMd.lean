abbrev rmM_bits : Room := { frames := 2, cells := 0, slots := 0, locals := 47 }
set_option maxHeartbeats 4000000 in
set_option maxRecDepth 100000 in
theorem cM_bits (l : Launch) (E : eE) (ad : Nat → Nat) (q0_why : Int32) (q0_detail : Int32) (q0_reasonNow : Int32) (q0_detailNow : Int32) (q0_w : (Nat → Int32)) (q0_undos : (Nat → Int32)) (q0_savedRow : (Nat → Int32)) (q0_mind : (Nat → Int32)) (q0_changes : Int32) (q0_firstChange : Int32) (q0_isSaved : Int32) (q0_at : (Nat → Int32)) (q0_line : (Nat → Int32)) (q0_lineLength : Int32) (q0_text : (Nat → Int32)) (q0_length : Int32) (q0_next : Int32) (q0_numbers : (Nat → Int32)) (q0_sort : Int32) (q0_done : Int32) (a1 : Int32) (t : Int64 × (Nat → Int32)) (hf : fM_bits q0_w q0_at a1 = some t) : cW l E yX9_bits cX9_bits 5 (some .long) rmM_bits [.ref (ad 0), .int a1] (wM E ad q0_why q0_detail q0_reasonNow q0_detailNow q0_w q0_undos q0_savedRow q0_mind q0_changes q0_firstChange q0_isSaved q0_at q0_line q0_lineLength q0_text q0_length q0_next q0_numbers q0_sort q0_done) (some (.long t.1)) (wM E ad q0_why q0_detail q0_reasonNow q0_detailNow q0_w q0_undos q0_savedRow q0_mind q0_changes q0_firstChange q0_isSaved t.2 q0_line q0_lineLength q0_text q0_length q0_next q0_numbers q0_sort q0_done) := by
  refine Met.ofW (cc := cX9_bits) (maxL := 5) (ret := (some .long)) (by decide) rfl ?_
  intro p e s m args below meth c s₁ B hml hv
  obtain ⟨hargs, hP, hK, hD0⟩ := hv
  have hx := B.exec
  have hb := B.bytes
  have hr := B.returns
  have hts := atoms_spec (ws := ws_ yX9_bits cX9_bits 5 (some .long)) B.pre
  have hta : ∀ w ∈ lw_all, w.before args s = true := fun w h => hts w (List.mem_cons_of_mem _ h)
  have hown : s.vm.findClass RX9 = some m.cls := findClass_of_methodNamed B.named
  have hlocks := B.notSynchronized
  have hC : Cx p s m args c cX9_bits 5 RX9 E := ⟨hx, hb, hml, hown, hta, hK⟩
  have hH : Hp E (adr (wM E ad q0_why q0_detail q0_reasonNow q0_detailNow q0_w q0_undos q0_savedRow q0_mind q0_changes q0_firstChange q0_isSaved q0_at q0_line q0_lineLength q0_text q0_length q0_next q0_numbers q0_sort q0_done)) (wM E ad q0_why q0_detail q0_reasonNow q0_detailNow q0_w q0_undos q0_savedRow q0_mind q0_changes q0_firstChange q0_isSaved q0_at q0_line q0_lineLength q0_text q0_length q0_next q0_numbers q0_sort q0_done) s.heap s.heap [] := Hp.start hP hD0
  obtain ⟨ls, he, hl⟩ := entry_ (m := m) (n := 5) hargs (Nat.le_of_ble_eq_true rfl)
  rw [he]
  have hl : lv_has ls 5 [(0, .ref (ad 0)), (1, .int a1)] := hl
  show W p l e rmM_bits s m args below meth c s.heap [] 0 0 (MQ below (qW E (some .long) (some (.long t.1)) (wM E ad q0_why q0_detail q0_reasonNow q0_detailNow q0_w q0_undos q0_savedRow q0_mind q0_changes q0_firstChange q0_isSaved q0_at q0_line q0_lineLength q0_text q0_length q0_next q0_numbers q0_sort q0_done) (wM E ad q0_why q0_detail q0_reasonNow q0_detailNow q0_w q0_undos q0_savedRow q0_mind q0_changes q0_firstChange q0_isSaved t.2 q0_line q0_lineLength q0_text q0_length q0_next q0_numbers q0_sort q0_done)) args s 0 0 (adr (wM E ad q0_why q0_detail q0_reasonNow q0_detailNow q0_w q0_undos q0_savedRow q0_mind q0_changes q0_firstChange q0_isSaved q0_at q0_line q0_lineLength q0_text q0_length q0_next q0_numbers q0_sort q0_done))) (F0 m 0 ls [])
  suffices hmain : ∀ (H : Heap) (locs : List Loc), Hp E (adr (wM E ad q0_why q0_detail q0_reasonNow q0_detailNow q0_w q0_undos q0_savedRow q0_mind q0_changes q0_firstChange q0_isSaved q0_at q0_line q0_lineLength q0_text q0_length q0_next q0_numbers q0_sort q0_done)) (wM E ad q0_why q0_detail q0_reasonNow q0_detailNow q0_w q0_undos q0_savedRow q0_mind q0_changes q0_firstChange q0_isSaved q0_at q0_line q0_lineLength q0_text q0_length q0_next q0_numbers q0_sort q0_done) s.heap H locs → W p l e rmM_bits s m args below meth c H locs 0 0 (MQ below (qW E (some .long) (some (.long t.1)) (wM E ad q0_why q0_detail q0_reasonNow q0_detailNow q0_w q0_undos q0_savedRow q0_mind q0_changes q0_firstChange q0_isSaved q0_at q0_line q0_lineLength q0_text q0_length q0_next q0_numbers q0_sort q0_done) (wM E ad q0_why q0_detail q0_reasonNow q0_detailNow q0_w q0_undos q0_savedRow q0_mind q0_changes q0_firstChange q0_isSaved t.2 q0_line q0_lineLength q0_text q0_length q0_next q0_numbers q0_sort q0_done)) args s 0 0 (adr (wM E ad q0_why q0_detail q0_reasonNow q0_detailNow q0_w q0_undos q0_savedRow q0_mind q0_changes q0_firstChange q0_isSaved q0_at q0_line q0_lineLength q0_text q0_length q0_next q0_numbers q0_sort q0_done))) (F0 m 0 ls []) from hmain _ _ hH
  clear hH
  have L25 : ∀ (n : Nat) (y0_11 : (Nat → Int32)) (a1 : Int32) (a2 : Int64) (a4 : Int32) (ls : Array Slot), lv_has ls 5 [(0, .ref (ad 0)), (1, .int a1), (2, .long a2), (4, .int a4)] → ∀ (H : Heap) (locs : List Loc), Hp E (adr (wM E ad q0_why q0_detail q0_reasonNow q0_detailNow q0_w q0_undos q0_savedRow q0_mind q0_changes q0_firstChange q0_isSaved q0_at q0_line q0_lineLength q0_text q0_length q0_next q0_numbers q0_sort q0_done)) (wM E ad q0_why q0_detail q0_reasonNow q0_detailNow q0_w q0_undos q0_savedRow q0_mind q0_changes q0_firstChange q0_isSaved y0_11 q0_line q0_lineLength q0_text q0_length q0_next q0_numbers q0_sort q0_done) s.heap H locs → fM_bits_25 n q0_w y0_11 a1 a2 a4 = some t → W p l e rmM_bits s m args below meth c H locs 0 0 (MQ below (qW E (some .long) (some (.long t.1)) (wM E ad q0_why q0_detail q0_reasonNow q0_detailNow q0_w q0_undos q0_savedRow q0_mind q0_changes q0_firstChange q0_isSaved q0_at q0_line q0_lineLength q0_text q0_length q0_next q0_numbers q0_sort q0_done) (wM E ad q0_why q0_detail q0_reasonNow q0_detailNow q0_w q0_undos q0_savedRow q0_mind q0_changes q0_firstChange q0_isSaved t.2 q0_line q0_lineLength q0_text q0_length q0_next q0_numbers q0_sort q0_done)) args s 0 0 (adr (wM E ad q0_why q0_detail q0_reasonNow q0_detailNow q0_w q0_undos q0_savedRow q0_mind q0_changes q0_firstChange q0_isSaved q0_at q0_line q0_lineLength q0_text q0_length q0_next q0_numbers q0_sort q0_done))) (F0 m 25 ls []) := by
    intro n
    induction n with
    | zero => intro y0_11 a1 a2 a4 ls hl H locs hH hf; cases hf
    | succ n ih =>
      intro y0_11 a1 a2 a4 ls hl H locs hH hf
      rw [fM_bits_25] at hf
      refine lv_iload hx hb dX9_bits_25 (lv_at hl 3 rfl) ?_
      refine lv_if_lt (tgt := 51) hx hb dX9_bits_27 (by decide) (fun c4 => ?_) (fun c4 => ?_)
      · have hf := ite_t hf c4
        refine lv_lload_n hx hb dX9_bits_51 rfl (lv_at hl 2 rfl) ?_
        have hf := Option.some.inj hf
        subst hf
        exact e_Wl hC hH hr hlocks rfl rfl dX9_bits_52
      · have hf := ite_f hf c4
        refine lv_ldc2 hx hb hown (hta _ q5_72) dX9_bits_30 ?_
        refine lv_lload_n hx hb dX9_bits_33 rfl (lv_at hl 2 rfl) ?_
        refine lv_lmul hx hb dX9_bits_34 ?_
        refine lv_aload_n hx hb dX9_bits_35 rfl (lv_at hl 0 rfl) ?_
        refine lv_iload_n hx hb dX9_bits_36 rfl (lv_at hl 1 rfl) ?_
        refine lv_iload hx hb dX9_bits_37 (lv_at hl 3 rfl) ?_
        obtain ⟨t5, ht5, hf⟩ := ob hf
        refine k_PVi hC LX9_130 ⟨Nat.le_of_ble_eq_true rfl, Nat.le_of_ble_eq_true rfl⟩ ⟨Nat.zero_le _, Nat.zero_le _⟩ (cM_bitAt l E ad q0_why q0_detail q0_reasonNow q0_detailNow q0_w q0_undos q0_savedRow q0_mind q0_changes q0_firstChange q0_isSaved y0_11 q0_line q0_lineLength q0_text q0_length q0_next q0_numbers q0_sort q0_done a1 a4 t5 ht5) rfl rfl hH.1 rfl rfl hl.1 rfl (Nat.le_of_ble_eq_true rfl) rfl dX9_bits_39 (fun hz39 => ?_)
        refine lv_i2l hx hb dX9_bits_42 rfl ?_
        refine lv_ladd hx hb dX9_bits_43 ?_
        refine lv_lstore_n (lv' := [(2, .long (((2 : Int64) * a2) + t5.toInt64)), (0, .ref (ad 0)), (1, .int a1), (4, .int a4)]) hx hb dX9_bits_44 rfl hl (by decide) rfl (fun ls hl => ?_)
        refine lv_iinc (v := (a4 + (-1 : Int32))) (lv' := [(4, .int (a4 + (-1 : Int32))), (2, .long (((2 : Int64) * a2) + t5.toInt64)), (0, .ref (ad 0)), (1, .int a1)]) hx hb dX9_bits_45 hl (k := 3) rfl rfl (by decide) rfl (fun ls hl => ?_)
        refine lv_goto (tgt := 25) hx hb dX9_bits_48 (by decide) ?_
        exact ih y0_11 a1 (((2 : Int64) * a2) + t5.toInt64) (a4 + (-1 : Int32)) ls (lv_sub hl [2, 3, 1, 0] rfl) _ _ hH hf
  intro H locs hH
  rw [fM_bits] at hf
  refine lv_iload_n hx hb dX9_bits_0 rfl (lv_at hl 1 rfl) ?_
  refine k_PSi hC LX9_124 ⟨Nat.le_of_ble_eq_true rfl, Nat.le_of_ble_eq_true rfl⟩ ⟨Nat.zero_le _, Nat.zero_le _⟩ (cM_isRow l E a1 _ rfl) rfl rfl (vP_nil) hl.1 rfl (Nat.le_of_ble_eq_true rfl) rfl dX9_bits_1 (fun hz1 => ?_)
  refine lv_if_ne (tgt := 9) hx hb dX9_bits_4 (by decide) (fun c1 => ?_) (fun c1 => ?_)
  · have hf := ite_f hf c1
    refine lv_aload_n hx hb dX9_bits_9 rfl (lv_at hl 0 rfl) ?_
    obtain ⟨t2, ht2, hf⟩ := ob hf
    refine k_WVsv hC LX9_127 ⟨Nat.le_of_ble_eq_true rfl, Nat.le_of_ble_eq_true rfl⟩ ⟨Nat.zero_le _, Nat.zero_le _⟩ (cM_findsRows l E ad q0_why q0_detail q0_reasonNow q0_detailNow q0_w q0_undos q0_savedRow q0_mind q0_changes q0_firstChange q0_isSaved q0_at q0_line q0_lineLength q0_text q0_length q0_next q0_numbers q0_sort q0_done t2 ht2) rfl rfl hH rfl rfl rfl hl.1 rfl (Nat.le_of_ble_eq_true rfl) rfl dX9_bits_10 (fun H locs hz10 hH => ?_)
    have hH : Hp E (adr (wM E ad q0_why q0_detail q0_reasonNow q0_detailNow q0_w q0_undos q0_savedRow q0_mind q0_changes q0_firstChange q0_isSaved q0_at q0_line q0_lineLength q0_text q0_length q0_next q0_numbers q0_sort q0_done)) (wM E ad q0_why q0_detail q0_reasonNow q0_detailNow q0_w q0_undos q0_savedRow q0_mind q0_changes q0_firstChange q0_isSaved t2 q0_line q0_lineLength q0_text q0_length q0_next q0_numbers q0_sort q0_done) s.heap H locs := hH
    refine lv_lconst (v := 0) hx hb dX9_bits_13 (by decide) ?_
    refine lv_lstore_n (lv' := [(2, .long (0 : Int64)), (0, .ref (ad 0)), (1, .int a1)]) hx hb dX9_bits_14 rfl hl (by decide) rfl (fun ls hl => ?_)
    refine lv_aload_n hx hb dX9_bits_15 rfl (lv_at hl 1 rfl) ?_
    refine gX9_7 hC hH.1 0 rfl (v := .ref (ad 1)) rfl dX9_bits_16 ?_
    refine lv_iconst (v := 0) hx hb dX9_bits_19 (by decide) ?_
    obtain ⟨v3, hv3, hf⟩ := ob hf
    obtain ⟨hv3a, hv3b⟩ := ldA_ok hv3
    refine a_ild hC hH.1 1 rfl hv3a hv3b dX9_bits_20 ?_
    refine lv_iconst (v := 1) hx hb dX9_bits_21 (by decide) ?_
    refine lv_isub hx hb dX9_bits_22 ?_
    refine lv_istore (lv' := [(4, .int (v3 - (1 : Int32))), (2, .long (0 : Int64)), (0, .ref (ad 0)), (1, .int a1)]) hx hb dX9_bits_23 hl (by decide) rfl (fun ls hl => ?_)
    exact L25 FU t2 a1 (0 : Int64) (v3 - (1 : Int32)) ls (lv_sub hl [2, 3, 1, 0] rfl) _ _ hH hf
  · have hf := ite_t hf c1
    refine lv_lconst (v := 0) hx hb dX9_bits_7 (by decide) ?_
    have hf := Option.some.inj hf
    subst hf
    exact e_Wl hC hH hr hlocks rfl rfl dX9_bits_8
abbrev rmM_counted : Room := { frames := 2, cells := 0, slots := 0, locals := 43 }
set_option maxHeartbeats 4000000 in
set_option maxRecDepth 100000 in
theorem cM_counted (l : Launch) (E : eE) (ad : Nat → Nat) (q0_why : Int32) (q0_detail : Int32) (q0_reasonNow : Int32) (q0_detailNow : Int32) (q0_w : (Nat → Int32)) (q0_undos : (Nat → Int32)) (q0_savedRow : (Nat → Int32)) (q0_mind : (Nat → Int32)) (q0_changes : Int32) (q0_firstChange : Int32) (q0_isSaved : Int32) (q0_at : (Nat → Int32)) (q0_line : (Nat → Int32)) (q0_lineLength : Int32) (q0_text : (Nat → Int32)) (q0_length : Int32) (q0_next : Int32) (q0_numbers : (Nat → Int32)) (q0_sort : Int32) (q0_done : Int32) (a1 : Int32) (a2 : Int32) (a3 : Int32) (r : Int32) (hf : fM_counted q0_w q0_at a1 a2 a3 = some r) : cP l E yX9_counted cX9_counted 6 (some .int) rmM_counted [.ref (ad 0), .int a1, .int a2, .int a3] (wM E ad q0_why q0_detail q0_reasonNow q0_detailNow q0_w q0_undos q0_savedRow q0_mind q0_changes q0_firstChange q0_isSaved q0_at q0_line q0_lineLength q0_text q0_length q0_next q0_numbers q0_sort q0_done) (some (.int r)) := by
  refine Met.ofW (cc := cX9_counted) (maxL := 6) (ret := (some .int)) (by decide) rfl ?_
  intro p e s m args below meth c s₁ B hml hv
  obtain ⟨hargs, hP, hK⟩ := hv
  have hx := B.exec
  have hb := B.bytes
  have hr := B.returns
  have hts := atoms_spec (ws := ws_ yX9_counted cX9_counted 6 (some .int)) B.pre
  have hta : ∀ w ∈ lw_all, w.before args s = true := fun w h => hts w (List.mem_cons_of_mem _ h)
  have hown : s.vm.findClass RX9 = some m.cls := findClass_of_methodNamed B.named
  have hlocks := B.notSynchronized
  have hC : Cx p s m args c cX9_counted 6 RX9 E := ⟨hx, hb, hml, hown, hta, hK⟩
  obtain ⟨ls, he, hl⟩ := entry_ (m := m) (n := 6) hargs (Nat.le_of_ble_eq_true rfl)
  rw [he]
  have hl : lv_has ls 6 [(0, .ref (ad 0)), (1, .int a1), (2, .int a2), (3, .int a3)] := hl
  show W p l e rmM_counted s m args below meth c s.heap [] 0 0 (MQ below (qP (some .int) (some (.int r))) args s 0 0 (fun _ => False)) (F0 m 0 ls [])
  have L6 : ∀ (n : Nat) (a1 : Int32) (a2 : Int32) (a3 : Int32) (a4 : Int32) (a5 : Int32) (ls : Array Slot), lv_has ls 6 [(0, .ref (ad 0)), (1, .int a1), (2, .int a2), (3, .int a3), (4, .int a4), (5, .int a5)] → fM_counted_6 n q0_w q0_at a1 a2 a3 a4 a5 = some r → W p l e rmM_counted s m args below meth c s.heap [] 0 0 (MQ below (qP (some .int) (some (.int r))) args s 0 0 (fun _ => False)) (F0 m 6 ls []) := by
    intro n
    induction n with
    | zero => intro a1 a2 a3 a4 a5 ls hl hf; cases hf
    | succ n ih =>
      intro a1 a2 a3 a4 a5 ls hl hf
      rw [fM_counted_6] at hf
      refine lv_iload hx hb dX9_counted_6 (lv_at hl 5 rfl) ?_
      refine lv_iload_n hx hb dX9_counted_8 rfl (lv_at hl 3 rfl) ?_
      refine lv_icmp_ge (tgt := 39) hx hb dX9_counted_9 (by decide) (fun c1 => ?_) (fun c1 => ?_)
      · have hf := ite_t hf c1
        refine lv_iload hx hb dX9_counted_39 (lv_at hl 4 rfl) ?_
        have hf := Option.some.inj hf
        exact e_Pi hC hr hlocks hf dX9_counted_41
      · have hf := ite_f hf c1
        refine lv_iload hx hb dX9_counted_12 (lv_at hl 4 rfl) ?_
        refine lv_aload_n hx hb dX9_counted_14 rfl (lv_at hl 0 rfl) ?_
        refine lv_iload_n hx hb dX9_counted_15 rfl (lv_at hl 1 rfl) ?_
        refine lv_iload hx hb dX9_counted_16 (lv_at hl 5 rfl) ?_
        obtain ⟨t2, ht2, hf⟩ := ob hf
        refine k_PVi hC LX9_130 ⟨Nat.le_of_ble_eq_true rfl, Nat.le_of_ble_eq_true rfl⟩ ⟨Nat.zero_le _, Nat.zero_le _⟩ (cM_bitAt l E ad q0_why q0_detail q0_reasonNow q0_detailNow q0_w q0_undos q0_savedRow q0_mind q0_changes q0_firstChange q0_isSaved q0_at q0_line q0_lineLength q0_text q0_length q0_next q0_numbers q0_sort q0_done a1 a5 t2 ht2) rfl rfl hP rfl rfl hl.1 rfl (Nat.le_of_ble_eq_true rfl) rfl dX9_counted_18 (fun hz18 => ?_)
        refine lv_iload_n hx hb dX9_counted_21 rfl (lv_at hl 2 rfl) ?_
        refine lv_icmp_ne (tgt := 29) hx hb dX9_counted_22 (by decide) (fun c3 => ?_) (fun c3 => ?_)
        · have hf := ite_f hf c3
          refine lv_iconst (v := 0) hx hb dX9_counted_29 (by decide) ?_
          refine lv_iadd hx hb dX9_counted_30 ?_
          refine lv_istore (lv' := [(4, .int (a4 + (0 : Int32))), (0, .ref (ad 0)), (1, .int a1), (2, .int a2), (3, .int a3), (5, .int a5)]) hx hb dX9_counted_31 hl (by decide) rfl (fun ls hl => ?_)
          refine lv_iinc (v := (a5 + (1 : Int32))) (lv' := [(5, .int (a5 + (1 : Int32))), (4, .int (a4 + (0 : Int32))), (0, .ref (ad 0)), (1, .int a1), (2, .int a2), (3, .int a3)]) hx hb dX9_counted_33 hl (k := 5) rfl rfl (by decide) rfl (fun ls hl => ?_)
          refine lv_goto (tgt := 6) hx hb dX9_counted_36 (by decide) ?_
          exact ih a1 a2 a3 (a4 + (0 : Int32)) (a5 + (1 : Int32)) ls (lv_sub hl [2, 3, 4, 5, 1, 0] rfl) hf
        · have hf := ite_t hf c3
          refine lv_iconst (v := 1) hx hb dX9_counted_25 (by decide) ?_
          refine lv_goto (tgt := 30) hx hb dX9_counted_26 (by decide) ?_
          refine lv_iadd hx hb dX9_counted_30 ?_
          refine lv_istore (lv' := [(4, .int (a4 + (1 : Int32))), (0, .ref (ad 0)), (1, .int a1), (2, .int a2), (3, .int a3), (5, .int a5)]) hx hb dX9_counted_31 hl (by decide) rfl (fun ls hl => ?_)
          refine lv_iinc (v := (a5 + (1 : Int32))) (lv' := [(5, .int (a5 + (1 : Int32))), (4, .int (a4 + (1 : Int32))), (0, .ref (ad 0)), (1, .int a1), (2, .int a2), (3, .int a3)]) hx hb dX9_counted_33 hl (k := 5) rfl rfl (by decide) rfl (fun ls hl => ?_)
          refine lv_goto (tgt := 6) hx hb dX9_counted_36 (by decide) ?_
          exact ih a1 a2 a3 (a4 + (1 : Int32)) (a5 + (1 : Int32)) ls (lv_sub hl [2, 3, 4, 5, 1, 0] rfl) hf
  rw [fM_counted] at hf
  refine lv_iconst (v := 0) hx hb dX9_counted_0 (by decide) ?_
  refine lv_istore (lv' := [(4, .int (0 : Int32)), (0, .ref (ad 0)), (1, .int a1), (2, .int a2), (3, .int a3)]) hx hb dX9_counted_1 hl (by decide) rfl (fun ls hl => ?_)
  refine lv_iconst (v := 0) hx hb dX9_counted_3 (by decide) ?_
  refine lv_istore (lv' := [(5, .int (0 : Int32)), (4, .int (0 : Int32)), (0, .ref (ad 0)), (1, .int a1), (2, .int a2), (3, .int a3)]) hx hb dX9_counted_4 hl (by decide) rfl (fun ls hl => ?_)
  exact L6 FU a1 a2 a3 (0 : Int32) (0 : Int32) ls (lv_sub hl [2, 3, 4, 5, 1, 0] rfl) hf
abbrev rmM_rank : Room := { frames := 3, cells := 0, slots := 0, locals := 68 }
set_option maxHeartbeats 4000000 in
set_option maxRecDepth 100000 in
theorem cM_rank (l : Launch) (E : eE) (ad : Nat → Nat) (q0_why : Int32) (q0_detail : Int32) (q0_reasonNow : Int32) (q0_detailNow : Int32) (q0_w : (Nat → Int32)) (q0_undos : (Nat → Int32)) (q0_savedRow : (Nat → Int32)) (q0_mind : (Nat → Int32)) (q0_changes : Int32) (q0_firstChange : Int32) (q0_isSaved : Int32) (q0_at : (Nat → Int32)) (q0_line : (Nat → Int32)) (q0_lineLength : Int32) (q0_text : (Nat → Int32)) (q0_length : Int32) (q0_next : Int32) (q0_numbers : (Nat → Int32)) (q0_sort : Int32) (q0_done : Int32) (a1 : Int32) (a2 : Int32) (a3 : Int32) (t : Int32 × (Nat → Int32)) (hf : fM_rank q0_w q0_at a1 a2 a3 = some t) : cW l E yX9_rank cX9_rank 4 (some .int) rmM_rank [.ref (ad 0), .int a1, .int a2, .int a3] (wM E ad q0_why q0_detail q0_reasonNow q0_detailNow q0_w q0_undos q0_savedRow q0_mind q0_changes q0_firstChange q0_isSaved q0_at q0_line q0_lineLength q0_text q0_length q0_next q0_numbers q0_sort q0_done) (some (.int t.1)) (wM E ad q0_why q0_detail q0_reasonNow q0_detailNow q0_w q0_undos q0_savedRow q0_mind q0_changes q0_firstChange q0_isSaved t.2 q0_line q0_lineLength q0_text q0_length q0_next q0_numbers q0_sort q0_done) := by
  refine Met.ofW (cc := cX9_rank) (maxL := 4) (ret := (some .int)) (by decide) rfl ?_
  intro p e s m args below meth c s₁ B hml hv
  obtain ⟨hargs, hP, hK, hD0⟩ := hv
  have hx := B.exec
  have hb := B.bytes
  have hr := B.returns
  have hts := atoms_spec (ws := ws_ yX9_rank cX9_rank 4 (some .int)) B.pre
  have hta : ∀ w ∈ lw_all, w.before args s = true := fun w h => hts w (List.mem_cons_of_mem _ h)
  have hown : s.vm.findClass RX9 = some m.cls := findClass_of_methodNamed B.named
  have hlocks := B.notSynchronized
  have hC : Cx p s m args c cX9_rank 4 RX9 E := ⟨hx, hb, hml, hown, hta, hK⟩
  have hH : Hp E (adr (wM E ad q0_why q0_detail q0_reasonNow q0_detailNow q0_w q0_undos q0_savedRow q0_mind q0_changes q0_firstChange q0_isSaved q0_at q0_line q0_lineLength q0_text q0_length q0_next q0_numbers q0_sort q0_done)) (wM E ad q0_why q0_detail q0_reasonNow q0_detailNow q0_w q0_undos q0_savedRow q0_mind q0_changes q0_firstChange q0_isSaved q0_at q0_line q0_lineLength q0_text q0_length q0_next q0_numbers q0_sort q0_done) s.heap s.heap [] := Hp.start hP hD0
  obtain ⟨ls, he, hl⟩ := entry_ (m := m) (n := 4) hargs (Nat.le_of_ble_eq_true rfl)
  rw [he]
  have hl : lv_has ls 4 [(0, .ref (ad 0)), (1, .int a1), (2, .int a2), (3, .int a3)] := hl
  show W p l e rmM_rank s m args below meth c s.heap [] 0 0 (MQ below (qW E (some .int) (some (.int t.1)) (wM E ad q0_why q0_detail q0_reasonNow q0_detailNow q0_w q0_undos q0_savedRow q0_mind q0_changes q0_firstChange q0_isSaved q0_at q0_line q0_lineLength q0_text q0_length q0_next q0_numbers q0_sort q0_done) (wM E ad q0_why q0_detail q0_reasonNow q0_detailNow q0_w q0_undos q0_savedRow q0_mind q0_changes q0_firstChange q0_isSaved t.2 q0_line q0_lineLength q0_text q0_length q0_next q0_numbers q0_sort q0_done)) args s 0 0 (adr (wM E ad q0_why q0_detail q0_reasonNow q0_detailNow q0_w q0_undos q0_savedRow q0_mind q0_changes q0_firstChange q0_isSaved q0_at q0_line q0_lineLength q0_text q0_length q0_next q0_numbers q0_sort q0_done))) (F0 m 0 ls [])
  suffices hmain : ∀ (H : Heap) (locs : List Loc), Hp E (adr (wM E ad q0_why q0_detail q0_reasonNow q0_detailNow q0_w q0_undos q0_savedRow q0_mind q0_changes q0_firstChange q0_isSaved q0_at q0_line q0_lineLength q0_text q0_length q0_next q0_numbers q0_sort q0_done)) (wM E ad q0_why q0_detail q0_reasonNow q0_detailNow q0_w q0_undos q0_savedRow q0_mind q0_changes q0_firstChange q0_isSaved q0_at q0_line q0_lineLength q0_text q0_length q0_next q0_numbers q0_sort q0_done) s.heap H locs → W p l e rmM_rank s m args below meth c H locs 0 0 (MQ below (qW E (some .int) (some (.int t.1)) (wM E ad q0_why q0_detail q0_reasonNow q0_detailNow q0_w q0_undos q0_savedRow q0_mind q0_changes q0_firstChange q0_isSaved q0_at q0_line q0_lineLength q0_text q0_length q0_next q0_numbers q0_sort q0_done) (wM E ad q0_why q0_detail q0_reasonNow q0_detailNow q0_w q0_undos q0_savedRow q0_mind q0_changes q0_firstChange q0_isSaved t.2 q0_line q0_lineLength q0_text q0_length q0_next q0_numbers q0_sort q0_done)) args s 0 0 (adr (wM E ad q0_why q0_detail q0_reasonNow q0_detailNow q0_w q0_undos q0_savedRow q0_mind q0_changes q0_firstChange q0_isSaved q0_at q0_line q0_lineLength q0_text q0_length q0_next q0_numbers q0_sort q0_done))) (F0 m 0 ls []) from hmain _ _ hH
  clear hH
  intro H locs hH
  rw [fM_rank] at hf
  refine lv_iload_n hx hb dX9_rank_0 rfl (lv_at hl 1 rfl) ?_
  refine k_PSi hC LX9_124 ⟨Nat.le_of_ble_eq_true rfl, Nat.le_of_ble_eq_true rfl⟩ ⟨Nat.zero_le _, Nat.zero_le _⟩ (cM_isRow l E a1 _ rfl) rfl rfl (vP_nil) hl.1 rfl (Nat.le_of_ble_eq_true rfl) rfl dX9_rank_1 (fun hz1 => ?_)
  refine lv_if_eq (tgt := 21) hx hb dX9_rank_4 (by decide) (fun c1 => ?_) (fun c1 => ?_)
  · have hf := ite_t hf c1
    refine lv_bipush (v := (-11)) hx hb dX9_rank_21 (by decide) ?_
    have hf := Option.some.inj hf
    subst hf
    exact e_Wi hC hH hr hlocks rfl rfl dX9_rank_23
  · have hf := ite_f hf c1
    refine lv_iload_n hx hb dX9_rank_7 rfl (lv_at hl 3 rfl) ?_
    refine lv_iconst (v := 0) hx hb dX9_rank_8 (by decide) ?_
    refine lv_aload_n hx hb dX9_rank_9 rfl (lv_at hl 0 rfl) ?_
    refine gX9_7 hC hH.1 0 rfl (v := .ref (ad 1)) rfl dX9_rank_10 ?_
    refine lv_iconst (v := 0) hx hb dX9_rank_13 (by decide) ?_
    obtain ⟨v2, hv2, hf⟩ := ob hf
    obtain ⟨hv2a, hv2b⟩ := ldA_ok hv2
    refine a_ild hC hH.1 1 rfl hv2a hv2b dX9_rank_14 ?_
    refine k_PSi hC LX9_60 ⟨Nat.le_of_ble_eq_true rfl, Nat.le_of_ble_eq_true rfl⟩ ⟨Nat.zero_le _, Nat.zero_le _⟩ (cM_isBetween l E a3 (0 : Int32) v2 _ rfl) rfl rfl (vP_nil) hl.1 rfl (Nat.le_of_ble_eq_true rfl) rfl dX9_rank_15 (fun hz15 => ?_)
    refine lv_if_ne (tgt := 24) hx hb dX9_rank_18 (by decide) (fun c3 => ?_) (fun c3 => ?_)
    · have hf := ite_f hf c3
      refine lv_aload_n hx hb dX9_rank_24 rfl (lv_at hl 0 rfl) ?_
      obtain ⟨t4, ht4, hf⟩ := ob hf
      refine k_WVsv hC LX9_127 ⟨Nat.le_of_ble_eq_true rfl, Nat.le_of_ble_eq_true rfl⟩ ⟨Nat.zero_le _, Nat.zero_le _⟩ (cM_findsRows l E ad q0_why q0_detail q0_reasonNow q0_detailNow q0_w q0_undos q0_savedRow q0_mind q0_changes q0_firstChange q0_isSaved q0_at q0_line q0_lineLength q0_text q0_length q0_next q0_numbers q0_sort q0_done t4 ht4) rfl rfl hH rfl rfl rfl hl.1 rfl (Nat.le_of_ble_eq_true rfl) rfl dX9_rank_25 (fun H locs hz25 hH => ?_)
      have hH : Hp E (adr (wM E ad q0_why q0_detail q0_reasonNow q0_detailNow q0_w q0_undos q0_savedRow q0_mind q0_changes q0_firstChange q0_isSaved q0_at q0_line q0_lineLength q0_text q0_length q0_next q0_numbers q0_sort q0_done)) (wM E ad q0_why q0_detail q0_reasonNow q0_detailNow q0_w q0_undos q0_savedRow q0_mind q0_changes q0_firstChange q0_isSaved t4 q0_line q0_lineLength q0_text q0_length q0_next q0_numbers q0_sort q0_done) s.heap H locs := hH
      refine lv_aload_n hx hb dX9_rank_28 rfl (lv_at hl 0 rfl) ?_
      refine lv_iload_n hx hb dX9_rank_29 rfl (lv_at hl 1 rfl) ?_
      refine lv_iload_n hx hb dX9_rank_30 rfl (lv_at hl 2 rfl) ?_
      refine lv_if_eq (tgt := 38) hx hb dX9_rank_31 (by decide) (fun c5 => ?_) (fun c5 => ?_)
      · have hf := ite_t hf c5
        refine lv_iconst (v := 0) hx hb dX9_rank_38 (by decide) ?_
        refine lv_iload_n hx hb dX9_rank_39 rfl (lv_at hl 3 rfl) ?_
        obtain ⟨t6, ht6, hf⟩ := ob hf
        refine k_PVi hC LX9_135 ⟨Nat.le_of_ble_eq_true rfl, Nat.le_of_ble_eq_true rfl⟩ ⟨Nat.zero_le _, Nat.zero_le _⟩ (cM_counted l E ad q0_why q0_detail q0_reasonNow q0_detailNow q0_w q0_undos q0_savedRow q0_mind q0_changes q0_firstChange q0_isSaved t4 q0_line q0_lineLength q0_text q0_length q0_next q0_numbers q0_sort q0_done a1 (0 : Int32) a3 t6 ht6) rfl rfl hH.1 rfl rfl hl.1 rfl (Nat.le_of_ble_eq_true rfl) rfl dX9_rank_40 (fun hz40 => ?_)
        have hf := Option.some.inj hf
        subst hf
        exact e_Wi hC hH hr hlocks rfl rfl dX9_rank_43
      · have hf := ite_f hf c5
        refine lv_iconst (v := 1) hx hb dX9_rank_34 (by decide) ?_
        refine lv_goto (tgt := 39) hx hb dX9_rank_35 (by decide) ?_
        refine lv_iload_n hx hb dX9_rank_39 rfl (lv_at hl 3 rfl) ?_
        obtain ⟨t7, ht7, hf⟩ := ob hf
        refine k_PVi hC LX9_135 ⟨Nat.le_of_ble_eq_true rfl, Nat.le_of_ble_eq_true rfl⟩ ⟨Nat.zero_le _, Nat.zero_le _⟩ (cM_counted l E ad q0_why q0_detail q0_reasonNow q0_detailNow q0_w q0_undos q0_savedRow q0_mind q0_changes q0_firstChange q0_isSaved t4 q0_line q0_lineLength q0_text q0_length q0_next q0_numbers q0_sort q0_done a1 (1 : Int32) a3 t7 ht7) rfl rfl hH.1 rfl rfl hl.1 rfl (Nat.le_of_ble_eq_true rfl) rfl dX9_rank_40 (fun hz40 => ?_)
        have hf := Option.some.inj hf
        subst hf
        exact e_Wi hC hH hr hlocks rfl rfl dX9_rank_43
    · have hf := ite_t hf c3
      refine lv_bipush (v := (-11)) hx hb dX9_rank_21 (by decide) ?_
      have hf := Option.some.inj hf
      subst hf
      exact e_Wi hC hH hr hlocks rfl rfl dX9_rank_23
abbrev rmM_rankAgain : Room := { frames := 3, cells := 0, slots := 0, locals := 68 }
set_option maxHeartbeats 4000000 in
set_option maxRecDepth 100000 in
theorem cM_rankAgain (l : Launch) (E : eE) (ad : Nat → Nat) (q0_why : Int32) (q0_detail : Int32) (q0_reasonNow : Int32) (q0_detailNow : Int32) (q0_w : (Nat → Int32)) (q0_undos : (Nat → Int32)) (q0_savedRow : (Nat → Int32)) (q0_mind : (Nat → Int32)) (q0_changes : Int32) (q0_firstChange : Int32) (q0_isSaved : Int32) (q0_at : (Nat → Int32)) (q0_line : (Nat → Int32)) (q0_lineLength : Int32) (q0_text : (Nat → Int32)) (q0_length : Int32) (q0_next : Int32) (q0_numbers : (Nat → Int32)) (q0_sort : Int32) (q0_done : Int32) (a1 : Int32) (a2 : Int32) (a3 : Int32) (t : Int32 × (Nat → Int32)) (hf : fM_rankAgain q0_w q0_at a1 a2 a3 = some t) : cW l E yX9_rankAgain cX9_rankAgain 5 (some .int) rmM_rankAgain [.ref (ad 0), .int a1, .int a2, .int a3] (wM E ad q0_why q0_detail q0_reasonNow q0_detailNow q0_w q0_undos q0_savedRow q0_mind q0_changes q0_firstChange q0_isSaved q0_at q0_line q0_lineLength q0_text q0_length q0_next q0_numbers q0_sort q0_done) (some (.int t.1)) (wM E ad q0_why q0_detail q0_reasonNow q0_detailNow q0_w q0_undos q0_savedRow q0_mind q0_changes q0_firstChange q0_isSaved t.2 q0_line q0_lineLength q0_text q0_length q0_next q0_numbers q0_sort q0_done) := by
  refine Met.ofW (cc := cX9_rankAgain) (maxL := 5) (ret := (some .int)) (by decide) rfl ?_
  intro p e s m args below meth c s₁ B hml hv
  obtain ⟨hargs, hP, hK, hD0⟩ := hv
  have hx := B.exec
  have hb := B.bytes
  have hr := B.returns
  have hts := atoms_spec (ws := ws_ yX9_rankAgain cX9_rankAgain 5 (some .int)) B.pre
  have hta : ∀ w ∈ lw_all, w.before args s = true := fun w h => hts w (List.mem_cons_of_mem _ h)
  have hown : s.vm.findClass RX9 = some m.cls := findClass_of_methodNamed B.named
  have hlocks := B.notSynchronized
  have hC : Cx p s m args c cX9_rankAgain 5 RX9 E := ⟨hx, hb, hml, hown, hta, hK⟩
  have hH : Hp E (adr (wM E ad q0_why q0_detail q0_reasonNow q0_detailNow q0_w q0_undos q0_savedRow q0_mind q0_changes q0_firstChange q0_isSaved q0_at q0_line q0_lineLength q0_text q0_length q0_next q0_numbers q0_sort q0_done)) (wM E ad q0_why q0_detail q0_reasonNow q0_detailNow q0_w q0_undos q0_savedRow q0_mind q0_changes q0_firstChange q0_isSaved q0_at q0_line q0_lineLength q0_text q0_length q0_next q0_numbers q0_sort q0_done) s.heap s.heap [] := Hp.start hP hD0
  obtain ⟨ls, he, hl⟩ := entry_ (m := m) (n := 5) hargs (Nat.le_of_ble_eq_true rfl)
  rw [he]
  have hl : lv_has ls 5 [(0, .ref (ad 0)), (1, .int a1), (2, .int a2), (3, .int a3)] := hl
  show W p l e rmM_rankAgain s m args below meth c s.heap [] 0 0 (MQ below (qW E (some .int) (some (.int t.1)) (wM E ad q0_why q0_detail q0_reasonNow q0_detailNow q0_w q0_undos q0_savedRow q0_mind q0_changes q0_firstChange q0_isSaved q0_at q0_line q0_lineLength q0_text q0_length q0_next q0_numbers q0_sort q0_done) (wM E ad q0_why q0_detail q0_reasonNow q0_detailNow q0_w q0_undos q0_savedRow q0_mind q0_changes q0_firstChange q0_isSaved t.2 q0_line q0_lineLength q0_text q0_length q0_next q0_numbers q0_sort q0_done)) args s 0 0 (adr (wM E ad q0_why q0_detail q0_reasonNow q0_detailNow q0_w q0_undos q0_savedRow q0_mind q0_changes q0_firstChange q0_isSaved q0_at q0_line q0_lineLength q0_text q0_length q0_next q0_numbers q0_sort q0_done))) (F0 m 0 ls [])
  suffices hmain : ∀ (H : Heap) (locs : List Loc), Hp E (adr (wM E ad q0_why q0_detail q0_reasonNow q0_detailNow q0_w q0_undos q0_savedRow q0_mind q0_changes q0_firstChange q0_isSaved q0_at q0_line q0_lineLength q0_text q0_length q0_next q0_numbers q0_sort q0_done)) (wM E ad q0_why q0_detail q0_reasonNow q0_detailNow q0_w q0_undos q0_savedRow q0_mind q0_changes q0_firstChange q0_isSaved q0_at q0_line q0_lineLength q0_text q0_length q0_next q0_numbers q0_sort q0_done) s.heap H locs → W p l e rmM_rankAgain s m args below meth c H locs 0 0 (MQ below (qW E (some .int) (some (.int t.1)) (wM E ad q0_why q0_detail q0_reasonNow q0_detailNow q0_w q0_undos q0_savedRow q0_mind q0_changes q0_firstChange q0_isSaved q0_at q0_line q0_lineLength q0_text q0_length q0_next q0_numbers q0_sort q0_done) (wM E ad q0_why q0_detail q0_reasonNow q0_detailNow q0_w q0_undos q0_savedRow q0_mind q0_changes q0_firstChange q0_isSaved t.2 q0_line q0_lineLength q0_text q0_length q0_next q0_numbers q0_sort q0_done)) args s 0 0 (adr (wM E ad q0_why q0_detail q0_reasonNow q0_detailNow q0_w q0_undos q0_savedRow q0_mind q0_changes q0_firstChange q0_isSaved q0_at q0_line q0_lineLength q0_text q0_length q0_next q0_numbers q0_sort q0_done))) (F0 m 0 ls []) from hmain _ _ hH
  clear hH
  intro H locs hH
  rw [fM_rankAgain] at hf
  refine lv_iload_n hx hb dX9_rankAgain_0 rfl (lv_at hl 1 rfl) ?_
  refine k_PSi hC LX9_124 ⟨Nat.le_of_ble_eq_true rfl, Nat.le_of_ble_eq_true rfl⟩ ⟨Nat.zero_le _, Nat.zero_le _⟩ (cM_isRow l E a1 _ rfl) rfl rfl (vP_nil) hl.1 rfl (Nat.le_of_ble_eq_true rfl) rfl dX9_rankAgain_1 (fun hz1 => ?_)
  refine lv_if_eq (tgt := 21) hx hb dX9_rankAgain_4 (by decide) (fun c1 => ?_) (fun c1 => ?_)
  · have hf := ite_t hf c1
    refine lv_bipush (v := (-11)) hx hb dX9_rankAgain_21 (by decide) ?_
    have hf := Option.some.inj hf
    subst hf
    exact e_Wi hC hH hr hlocks rfl rfl dX9_rankAgain_23
  · have hf := ite_f hf c1
    refine lv_iload_n hx hb dX9_rankAgain_7 rfl (lv_at hl 3 rfl) ?_
    refine lv_iconst (v := 0) hx hb dX9_rankAgain_8 (by decide) ?_
    refine lv_aload_n hx hb dX9_rankAgain_9 rfl (lv_at hl 0 rfl) ?_
    refine gX9_7 hC hH.1 0 rfl (v := .ref (ad 1)) rfl dX9_rankAgain_10 ?_
    refine lv_iconst (v := 0) hx hb dX9_rankAgain_13 (by decide) ?_
    obtain ⟨v2, hv2, hf⟩ := ob hf
    obtain ⟨hv2a, hv2b⟩ := ldA_ok hv2
    refine a_ild hC hH.1 1 rfl hv2a hv2b dX9_rankAgain_14 ?_
    refine k_PSi hC LX9_60 ⟨Nat.le_of_ble_eq_true rfl, Nat.le_of_ble_eq_true rfl⟩ ⟨Nat.zero_le _, Nat.zero_le _⟩ (cM_isBetween l E a3 (0 : Int32) v2 _ rfl) rfl rfl (vP_nil) hl.1 rfl (Nat.le_of_ble_eq_true rfl) rfl dX9_rankAgain_15 (fun hz15 => ?_)
    refine lv_if_ne (tgt := 24) hx hb dX9_rankAgain_18 (by decide) (fun c3 => ?_) (fun c3 => ?_)
    · have hf := ite_f hf c3
      refine lv_aload_n hx hb dX9_rankAgain_24 rfl (lv_at hl 0 rfl) ?_
      obtain ⟨t4, ht4, hf⟩ := ob hf
      refine k_WVsv hC LX9_127 ⟨Nat.le_of_ble_eq_true rfl, Nat.le_of_ble_eq_true rfl⟩ ⟨Nat.zero_le _, Nat.zero_le _⟩ (cM_findsRows l E ad q0_why q0_detail q0_reasonNow q0_detailNow q0_w q0_undos q0_savedRow q0_mind q0_changes q0_firstChange q0_isSaved q0_at q0_line q0_lineLength q0_text q0_length q0_next q0_numbers q0_sort q0_done t4 ht4) rfl rfl hH rfl rfl rfl hl.1 rfl (Nat.le_of_ble_eq_true rfl) rfl dX9_rankAgain_25 (fun H locs hz25 hH => ?_)
      have hH : Hp E (adr (wM E ad q0_why q0_detail q0_reasonNow q0_detailNow q0_w q0_undos q0_savedRow q0_mind q0_changes q0_firstChange q0_isSaved q0_at q0_line q0_lineLength q0_text q0_length q0_next q0_numbers q0_sort q0_done)) (wM E ad q0_why q0_detail q0_reasonNow q0_detailNow q0_w q0_undos q0_savedRow q0_mind q0_changes q0_firstChange q0_isSaved t4 q0_line q0_lineLength q0_text q0_length q0_next q0_numbers q0_sort q0_done) s.heap H locs := hH
      refine lv_aload_n hx hb dX9_rankAgain_28 rfl (lv_at hl 0 rfl) ?_
      refine lv_iload_n hx hb dX9_rankAgain_29 rfl (lv_at hl 1 rfl) ?_
      refine lv_iconst (v := 1) hx hb dX9_rankAgain_30 (by decide) ?_
      refine lv_iload_n hx hb dX9_rankAgain_31 rfl (lv_at hl 3 rfl) ?_
      obtain ⟨t5, ht5, hf⟩ := ob hf
      refine k_PVi hC LX9_135 ⟨Nat.le_of_ble_eq_true rfl, Nat.le_of_ble_eq_true rfl⟩ ⟨Nat.zero_le _, Nat.zero_le _⟩ (cM_counted l E ad q0_why q0_detail q0_reasonNow q0_detailNow q0_w q0_undos q0_savedRow q0_mind q0_changes q0_firstChange q0_isSaved t4 q0_line q0_lineLength q0_text q0_length q0_next q0_numbers q0_sort q0_done a1 (1 : Int32) a3 t5 ht5) rfl rfl hH.1 rfl rfl hl.1 rfl (Nat.le_of_ble_eq_true rfl) rfl dX9_rankAgain_32 (fun hz32 => ?_)
      refine lv_istore (lv' := [(4, .int t5), (0, .ref (ad 0)), (1, .int a1), (2, .int a2), (3, .int a3)]) hx hb dX9_rankAgain_35 hl (by decide) rfl (fun ls hl => ?_)
      refine lv_iload_n hx hb dX9_rankAgain_37 rfl (lv_at hl 3 rfl) ?_
      refine lv_if_eq (tgt := 46) hx hb dX9_rankAgain_38 (by decide) (fun c6 => ?_) (fun c6 => ?_)
      · have hf := ite_t hf c6
        refine lv_iload_n hx hb dX9_rankAgain_46 rfl (lv_at hl 4 rfl) ?_
        refine lv_iload hx hb dX9_rankAgain_47 (lv_at hl 0 rfl) ?_
        refine lv_isub hx hb dX9_rankAgain_49 ?_
        have hf := Option.some.inj hf
        subst hf
        exact e_Wi hC hH hr hlocks rfl rfl dX9_rankAgain_50
      · have hf := ite_f hf c6
        refine lv_iload hx hb dX9_rankAgain_41 (lv_at hl 0 rfl) ?_
        refine lv_goto (tgt := 50) hx hb dX9_rankAgain_43 (by decide) ?_
        have hf := Option.some.inj hf
        subst hf
        exact e_Wi hC hH hr hlocks rfl rfl dX9_rankAgain_50
    · have hf := ite_t hf c3
      refine lv_bipush (v := (-11)) hx hb dX9_rankAgain_21 (by decide) ?_
      have hf := Option.some.inj hf
      subst hf
      exact e_Wi hC hH hr hlocks rfl rfl dX9_rankAgain_23
abbrev rmM_select : Room := { frames := 3, cells := 0, slots := 0, locals := 68 }
set_option maxHeartbeats 4000000 in
set_option maxRecDepth 100000 in
theorem cM_select (l : Launch) (E : eE) (ad : Nat → Nat) (q0_why : Int32) (q0_detail : Int32) (q0_reasonNow : Int32) (q0_detailNow : Int32) (q0_w : (Nat → Int32)) (q0_undos : (Nat → Int32)) (q0_savedRow : (Nat → Int32)) (q0_mind : (Nat → Int32)) (q0_changes : Int32) (q0_firstChange : Int32) (q0_isSaved : Int32) (q0_at : (Nat → Int32)) (q0_line : (Nat → Int32)) (q0_lineLength : Int32) (q0_text : (Nat → Int32)) (q0_length : Int32) (q0_next : Int32) (q0_numbers : (Nat → Int32)) (q0_sort : Int32) (q0_done : Int32) (a1 : Int32) (a2 : Int32) (a3 : Int32) (t : Int32 × (Nat → Int32)) (hf : fM_select q0_w q0_at a1 a2 a3 = some t) : cW l E yX9_select cX9_select 5 (some .int) rmM_select [.ref (ad 0), .int a1, .int a2, .int a3] (wM E ad q0_why q0_detail q0_reasonNow q0_detailNow q0_w q0_undos q0_savedRow q0_mind q0_changes q0_firstChange q0_isSaved q0_at q0_line q0_lineLength q0_text q0_length q0_next q0_numbers q0_sort q0_done) (some (.int t.1)) (wM E ad q0_why q0_detail q0_reasonNow q0_detailNow q0_w q0_undos q0_savedRow q0_mind q0_changes q0_firstChange q0_isSaved t.2 q0_line q0_lineLength q0_text q0_length q0_next q0_numbers q0_sort q0_done) := by
  refine Met.ofW (cc := cX9_select) (maxL := 5) (ret := (some .int)) (by decide) rfl ?_
  intro p e s m args below meth c s₁ B hml hv
  obtain ⟨hargs, hP, hK, hD0⟩ := hv
  have hx := B.exec
  have hb := B.bytes
  have hr := B.returns
  have hts := atoms_spec (ws := ws_ yX9_select cX9_select 5 (some .int)) B.pre
  have hta : ∀ w ∈ lw_all, w.before args s = true := fun w h => hts w (List.mem_cons_of_mem _ h)
  have hown : s.vm.findClass RX9 = some m.cls := findClass_of_methodNamed B.named
  have hlocks := B.notSynchronized
  have hC : Cx p s m args c cX9_select 5 RX9 E := ⟨hx, hb, hml, hown, hta, hK⟩
  have hH : Hp E (adr (wM E ad q0_why q0_detail q0_reasonNow q0_detailNow q0_w q0_undos q0_savedRow q0_mind q0_changes q0_firstChange q0_isSaved q0_at q0_line q0_lineLength q0_text q0_length q0_next q0_numbers q0_sort q0_done)) (wM E ad q0_why q0_detail q0_reasonNow q0_detailNow q0_w q0_undos q0_savedRow q0_mind q0_changes q0_firstChange q0_isSaved q0_at q0_line q0_lineLength q0_text q0_length q0_next q0_numbers q0_sort q0_done) s.heap s.heap [] := Hp.start hP hD0
  obtain ⟨ls, he, hl⟩ := entry_ (m := m) (n := 5) hargs (Nat.le_of_ble_eq_true rfl)
  rw [he]
  have hl : lv_has ls 5 [(0, .ref (ad 0)), (1, .int a1), (2, .int a2), (3, .int a3)] := hl
  show W p l e rmM_select s m args below meth c s.heap [] 0 0 (MQ below (qW E (some .int) (some (.int t.1)) (wM E ad q0_why q0_detail q0_reasonNow q0_detailNow q0_w q0_undos q0_savedRow q0_mind q0_changes q0_firstChange q0_isSaved q0_at q0_line q0_lineLength q0_text q0_length q0_next q0_numbers q0_sort q0_done) (wM E ad q0_why q0_detail q0_reasonNow q0_detailNow q0_w q0_undos q0_savedRow q0_mind q0_changes q0_firstChange q0_isSaved t.2 q0_line q0_lineLength q0_text q0_length q0_next q0_numbers q0_sort q0_done)) args s 0 0 (adr (wM E ad q0_why q0_detail q0_reasonNow q0_detailNow q0_w q0_undos q0_savedRow q0_mind q0_changes q0_firstChange q0_isSaved q0_at q0_line q0_lineLength q0_text q0_length q0_next q0_numbers q0_sort q0_done))) (F0 m 0 ls [])
  suffices hmain : ∀ (H : Heap) (locs : List Loc), Hp E (adr (wM E ad q0_why q0_detail q0_reasonNow q0_detailNow q0_w q0_undos q0_savedRow q0_mind q0_changes q0_firstChange q0_isSaved q0_at q0_line q0_lineLength q0_text q0_length q0_next q0_numbers q0_sort q0_done)) (wM E ad q0_why q0_detail q0_reasonNow q0_detailNow q0_w q0_undos q0_savedRow q0_mind q0_changes q0_firstChange q0_isSaved q0_at q0_line q0_lineLength q0_text q0_length q0_next q0_numbers q0_sort q0_done) s.heap H locs → W p l e rmM_select s m args below meth c H locs 0 0 (MQ below (qW E (some .int) (some (.int t.1)) (wM E ad q0_why q0_detail q0_reasonNow q0_detailNow q0_w q0_undos q0_savedRow q0_mind q0_changes q0_firstChange q0_isSaved q0_at q0_line q0_lineLength q0_text q0_length q0_next q0_numbers q0_sort q0_done) (wM E ad q0_why q0_detail q0_reasonNow q0_detailNow q0_w q0_undos q0_savedRow q0_mind q0_changes q0_firstChange q0_isSaved t.2 q0_line q0_lineLength q0_text q0_length q0_next q0_numbers q0_sort q0_done)) args s 0 0 (adr (wM E ad q0_why q0_detail q0_reasonNow q0_detailNow q0_w q0_undos q0_savedRow q0_mind q0_changes q0_firstChange q0_isSaved q0_at q0_line q0_lineLength q0_text q0_length q0_next q0_numbers q0_sort q0_done))) (F0 m 0 ls []) from hmain _ _ hH
  clear hH
  have L17 : ∀ (n : Nat) (y0_11 : (Nat → Int32)) (a1 : Int32) (a2 : Int32) (a3 : Int32) (a4 : Int32) (ls : Array Slot), lv_has ls 5 [(0, .ref (ad 0)), (1, .int a1), (2, .int a2), (3, .int a3), (4, .int a4)] → ∀ (H : Heap) (locs : List Loc), Hp E (adr (wM E ad q0_why q0_detail q0_reasonNow q0_detailNow q0_w q0_undos q0_savedRow q0_mind q0_changes q0_firstChange q0_isSaved q0_at q0_line q0_lineLength q0_text q0_length q0_next q0_numbers q0_sort q0_done)) (wM E ad q0_why q0_detail q0_reasonNow q0_detailNow q0_w q0_undos q0_savedRow q0_mind q0_changes q0_firstChange q0_isSaved y0_11 q0_line q0_lineLength q0_text q0_length q0_next q0_numbers q0_sort q0_done) s.heap H locs → fM_select_17 n q0_w y0_11 a1 a2 a3 a4 = some t → W p l e rmM_select s m args below meth c H locs 0 0 (MQ below (qW E (some .int) (some (.int t.1)) (wM E ad q0_why q0_detail q0_reasonNow q0_detailNow q0_w q0_undos q0_savedRow q0_mind q0_changes q0_firstChange q0_isSaved q0_at q0_line q0_lineLength q0_text q0_length q0_next q0_numbers q0_sort q0_done) (wM E ad q0_why q0_detail q0_reasonNow q0_detailNow q0_w q0_undos q0_savedRow q0_mind q0_changes q0_firstChange q0_isSaved t.2 q0_line q0_lineLength q0_text q0_length q0_next q0_numbers q0_sort q0_done)) args s 0 0 (adr (wM E ad q0_why q0_detail q0_reasonNow q0_detailNow q0_w q0_undos q0_savedRow q0_mind q0_changes q0_firstChange q0_isSaved q0_at q0_line q0_lineLength q0_text q0_length q0_next q0_numbers q0_sort q0_done))) (F0 m 17 ls []) := by
    intro n
    induction n with
    | zero => intro y0_11 a1 a2 a3 a4 ls hl H locs hH hf; cases hf
    | succ n ih =>
      intro y0_11 a1 a2 a3 a4 ls hl H locs hH hf
      rw [fM_select_17] at hf
      refine lv_iload hx hb dX9_select_17 (lv_at hl 4 rfl) ?_
      refine lv_aload_n hx hb dX9_select_19 rfl (lv_at hl 0 rfl) ?_
      refine gX9_7 hC hH.1 0 rfl (v := .ref (ad 1)) rfl dX9_select_20 ?_
      refine lv_iconst (v := 0) hx hb dX9_select_23 (by decide) ?_
      obtain ⟨v3, hv3, hf⟩ := ob hf
      obtain ⟨hv3a, hv3b⟩ := ldA_ok hv3
      refine a_ild hC hH.1 1 rfl hv3a hv3b dX9_select_24 ?_
      refine lv_icmp_ge (tgt := 76) hx hb dX9_select_25 (by decide) (fun c4 => ?_) (fun c4 => ?_)
      · have hf := ite_t hf c4
        refine lv_bipush (v := (-15)) hx hb dX9_select_76 (by decide) ?_
        have hf := Option.some.inj hf
        subst hf
        exact e_Wi hC hH hr hlocks rfl rfl dX9_select_78
      · have hf := ite_f hf c4
        refine lv_aload_n hx hb dX9_select_28 rfl (lv_at hl 0 rfl) ?_
        refine lv_iload_n hx hb dX9_select_29 rfl (lv_at hl 1 rfl) ?_
        refine lv_iload hx hb dX9_select_30 (lv_at hl 4 rfl) ?_
        obtain ⟨t5, ht5, hf⟩ := ob hf
        refine k_PVi hC LX9_130 ⟨Nat.le_of_ble_eq_true rfl, Nat.le_of_ble_eq_true rfl⟩ ⟨Nat.zero_le _, Nat.zero_le _⟩ (cM_bitAt l E ad q0_why q0_detail q0_reasonNow q0_detailNow q0_w q0_undos q0_savedRow q0_mind q0_changes q0_firstChange q0_isSaved y0_11 q0_line q0_lineLength q0_text q0_length q0_next q0_numbers q0_sort q0_done a1 a4 t5 ht5) rfl rfl hH.1 rfl rfl hl.1 rfl (Nat.le_of_ble_eq_true rfl) rfl dX9_select_32 (fun hz32 => ?_)
        refine lv_iload_n hx hb dX9_select_35 rfl (lv_at hl 2 rfl) ?_
        refine lv_if_eq (tgt := 43) hx hb dX9_select_36 (by decide) (fun c6 => ?_) (fun c6 => ?_)
        · have hf := ite_t hf c6
          refine lv_iconst (v := 0) hx hb dX9_select_43 (by decide) ?_
          refine lv_icmp_ne (tgt := 70) hx hb dX9_select_44 (by decide) (fun c7 => ?_) (fun c7 => ?_)
          · have hf := ite_f hf c7
            refine lv_iinc (v := (a4 + (1 : Int32))) (lv' := [(4, .int (a4 + (1 : Int32))), (0, .ref (ad 0)), (1, .int a1), (2, .int a2), (3, .int a3)]) hx hb dX9_select_70 hl (k := 4) rfl rfl (by decide) rfl (fun ls hl => ?_)
            refine lv_goto (tgt := 17) hx hb dX9_select_73 (by decide) ?_
            exact ih y0_11 a1 a2 a3 (a4 + (1 : Int32)) ls (lv_sub hl [1, 2, 3, 4, 0] rfl) _ _ hH hf
          · have hf := ite_t hf c7
            refine lv_aload_n hx hb dX9_select_47 rfl (lv_at hl 0 rfl) ?_
            refine lv_iload_n hx hb dX9_select_48 rfl (lv_at hl 1 rfl) ?_
            refine lv_iload_n hx hb dX9_select_49 rfl (lv_at hl 2 rfl) ?_
            refine lv_if_eq (tgt := 57) hx hb dX9_select_50 (by decide) (fun c8 => ?_) (fun c8 => ?_)
            · have hf := ite_t hf c8
              refine lv_iconst (v := 0) hx hb dX9_select_57 (by decide) ?_
              refine lv_iload hx hb dX9_select_58 (lv_at hl 4 rfl) ?_
              obtain ⟨t9, ht9, hf⟩ := ob hf
              refine k_PVi hC LX9_135 ⟨Nat.le_of_ble_eq_true rfl, Nat.le_of_ble_eq_true rfl⟩ ⟨Nat.zero_le _, Nat.zero_le _⟩ (cM_counted l E ad q0_why q0_detail q0_reasonNow q0_detailNow q0_w q0_undos q0_savedRow q0_mind q0_changes q0_firstChange q0_isSaved y0_11 q0_line q0_lineLength q0_text q0_length q0_next q0_numbers q0_sort q0_done a1 (0 : Int32) a4 t9 ht9) rfl rfl hH.1 rfl rfl hl.1 rfl (Nat.le_of_ble_eq_true rfl) rfl dX9_select_60 (fun hz60 => ?_)
              refine lv_iload_n hx hb dX9_select_63 rfl (lv_at hl 3 rfl) ?_
              refine lv_icmp_ne (tgt := 70) hx hb dX9_select_64 (by decide) (fun c10 => ?_) (fun c10 => ?_)
              · have hf := ite_f hf c10
                refine lv_iinc (v := (a4 + (1 : Int32))) (lv' := [(4, .int (a4 + (1 : Int32))), (0, .ref (ad 0)), (1, .int a1), (2, .int a2), (3, .int a3)]) hx hb dX9_select_70 hl (k := 4) rfl rfl (by decide) rfl (fun ls hl => ?_)
                refine lv_goto (tgt := 17) hx hb dX9_select_73 (by decide) ?_
                exact ih y0_11 a1 a2 a3 (a4 + (1 : Int32)) ls (lv_sub hl [1, 2, 3, 4, 0] rfl) _ _ hH hf
              · have hf := ite_t hf c10
                refine lv_iload hx hb dX9_select_67 (lv_at hl 4 rfl) ?_
                have hf := Option.some.inj hf
                subst hf
                exact e_Wi hC hH hr hlocks rfl rfl dX9_select_69
            · have hf := ite_f hf c8
              refine lv_iconst (v := 1) hx hb dX9_select_53 (by decide) ?_
              refine lv_goto (tgt := 58) hx hb dX9_select_54 (by decide) ?_
              refine lv_iload hx hb dX9_select_58 (lv_at hl 4 rfl) ?_
              obtain ⟨t11, ht11, hf⟩ := ob hf
              refine k_PVi hC LX9_135 ⟨Nat.le_of_ble_eq_true rfl, Nat.le_of_ble_eq_true rfl⟩ ⟨Nat.zero_le _, Nat.zero_le _⟩ (cM_counted l E ad q0_why q0_detail q0_reasonNow q0_detailNow q0_w q0_undos q0_savedRow q0_mind q0_changes q0_firstChange q0_isSaved y0_11 q0_line q0_lineLength q0_text q0_length q0_next q0_numbers q0_sort q0_done a1 (1 : Int32) a4 t11 ht11) rfl rfl hH.1 rfl rfl hl.1 rfl (Nat.le_of_ble_eq_true rfl) rfl dX9_select_60 (fun hz60 => ?_)
              refine lv_iload_n hx hb dX9_select_63 rfl (lv_at hl 3 rfl) ?_
              refine lv_icmp_ne (tgt := 70) hx hb dX9_select_64 (by decide) (fun c12 => ?_) (fun c12 => ?_)
              · have hf := ite_f hf c12
                refine lv_iinc (v := (a4 + (1 : Int32))) (lv' := [(4, .int (a4 + (1 : Int32))), (0, .ref (ad 0)), (1, .int a1), (2, .int a2), (3, .int a3)]) hx hb dX9_select_70 hl (k := 4) rfl rfl (by decide) rfl (fun ls hl => ?_)
                refine lv_goto (tgt := 17) hx hb dX9_select_73 (by decide) ?_
                exact ih y0_11 a1 a2 a3 (a4 + (1 : Int32)) ls (lv_sub hl [1, 2, 3, 4, 0] rfl) _ _ hH hf
              · have hf := ite_t hf c12
                refine lv_iload hx hb dX9_select_67 (lv_at hl 4 rfl) ?_
                have hf := Option.some.inj hf
                subst hf
                exact e_Wi hC hH hr hlocks rfl rfl dX9_select_69
        · have hf := ite_f hf c6
          refine lv_iconst (v := 1) hx hb dX9_select_39 (by decide) ?_
          refine lv_goto (tgt := 44) hx hb dX9_select_40 (by decide) ?_
          refine lv_icmp_ne (tgt := 70) hx hb dX9_select_44 (by decide) (fun c13 => ?_) (fun c13 => ?_)
          · have hf := ite_f hf c13
            refine lv_iinc (v := (a4 + (1 : Int32))) (lv' := [(4, .int (a4 + (1 : Int32))), (0, .ref (ad 0)), (1, .int a1), (2, .int a2), (3, .int a3)]) hx hb dX9_select_70 hl (k := 4) rfl rfl (by decide) rfl (fun ls hl => ?_)
            refine lv_goto (tgt := 17) hx hb dX9_select_73 (by decide) ?_
            exact ih y0_11 a1 a2 a3 (a4 + (1 : Int32)) ls (lv_sub hl [1, 2, 3, 4, 0] rfl) _ _ hH hf
          · have hf := ite_t hf c13
            refine lv_aload_n hx hb dX9_select_47 rfl (lv_at hl 0 rfl) ?_
            refine lv_iload_n hx hb dX9_select_48 rfl (lv_at hl 1 rfl) ?_
            refine lv_iload_n hx hb dX9_select_49 rfl (lv_at hl 2 rfl) ?_
            refine lv_if_eq (tgt := 57) hx hb dX9_select_50 (by decide) (fun c14 => ?_) (fun c14 => ?_)
            · have hf := ite_t hf c14
              refine lv_iconst (v := 0) hx hb dX9_select_57 (by decide) ?_
              refine lv_iload hx hb dX9_select_58 (lv_at hl 4 rfl) ?_
              obtain ⟨t15, ht15, hf⟩ := ob hf
              refine k_PVi hC LX9_135 ⟨Nat.le_of_ble_eq_true rfl, Nat.le_of_ble_eq_true rfl⟩ ⟨Nat.zero_le _, Nat.zero_le _⟩ (cM_counted l E ad q0_why q0_detail q0_reasonNow q0_detailNow q0_w q0_undos q0_savedRow q0_mind q0_changes q0_firstChange q0_isSaved y0_11 q0_line q0_lineLength q0_text q0_length q0_next q0_numbers q0_sort q0_done a1 (0 : Int32) a4 t15 ht15) rfl rfl hH.1 rfl rfl hl.1 rfl (Nat.le_of_ble_eq_true rfl) rfl dX9_select_60 (fun hz60 => ?_)
              refine lv_iload_n hx hb dX9_select_63 rfl (lv_at hl 3 rfl) ?_
              refine lv_icmp_ne (tgt := 70) hx hb dX9_select_64 (by decide) (fun c16 => ?_) (fun c16 => ?_)
              · have hf := ite_f hf c16
                refine lv_iinc (v := (a4 + (1 : Int32))) (lv' := [(4, .int (a4 + (1 : Int32))), (0, .ref (ad 0)), (1, .int a1), (2, .int a2), (3, .int a3)]) hx hb dX9_select_70 hl (k := 4) rfl rfl (by decide) rfl (fun ls hl => ?_)
                refine lv_goto (tgt := 17) hx hb dX9_select_73 (by decide) ?_
                exact ih y0_11 a1 a2 a3 (a4 + (1 : Int32)) ls (lv_sub hl [1, 2, 3, 4, 0] rfl) _ _ hH hf
              · have hf := ite_t hf c16
                refine lv_iload hx hb dX9_select_67 (lv_at hl 4 rfl) ?_
                have hf := Option.some.inj hf
                subst hf
                exact e_Wi hC hH hr hlocks rfl rfl dX9_select_69
            · have hf := ite_f hf c14
              refine lv_iconst (v := 1) hx hb dX9_select_53 (by decide) ?_
              refine lv_goto (tgt := 58) hx hb dX9_select_54 (by decide) ?_
              refine lv_iload hx hb dX9_select_58 (lv_at hl 4 rfl) ?_
              obtain ⟨t17, ht17, hf⟩ := ob hf
              refine k_PVi hC LX9_135 ⟨Nat.le_of_ble_eq_true rfl, Nat.le_of_ble_eq_true rfl⟩ ⟨Nat.zero_le _, Nat.zero_le _⟩ (cM_counted l E ad q0_why q0_detail q0_reasonNow q0_detailNow q0_w q0_undos q0_savedRow q0_mind q0_changes q0_firstChange q0_isSaved y0_11 q0_line q0_lineLength q0_text q0_length q0_next q0_numbers q0_sort q0_done a1 (1 : Int32) a4 t17 ht17) rfl rfl hH.1 rfl rfl hl.1 rfl (Nat.le_of_ble_eq_true rfl) rfl dX9_select_60 (fun hz60 => ?_)
              refine lv_iload_n hx hb dX9_select_63 rfl (lv_at hl 3 rfl) ?_
              refine lv_icmp_ne (tgt := 70) hx hb dX9_select_64 (by decide) (fun c18 => ?_) (fun c18 => ?_)
              · have hf := ite_f hf c18
                refine lv_iinc (v := (a4 + (1 : Int32))) (lv' := [(4, .int (a4 + (1 : Int32))), (0, .ref (ad 0)), (1, .int a1), (2, .int a2), (3, .int a3)]) hx hb dX9_select_70 hl (k := 4) rfl rfl (by decide) rfl (fun ls hl => ?_)
                refine lv_goto (tgt := 17) hx hb dX9_select_73 (by decide) ?_
                exact ih y0_11 a1 a2 a3 (a4 + (1 : Int32)) ls (lv_sub hl [1, 2, 3, 4, 0] rfl) _ _ hH hf
              · have hf := ite_t hf c18
                refine lv_iload hx hb dX9_select_67 (lv_at hl 4 rfl) ?_
                have hf := Option.some.inj hf
                subst hf
                exact e_Wi hC hH hr hlocks rfl rfl dX9_select_69
  intro H locs hH
  rw [fM_select] at hf
  refine lv_iload_n hx hb dX9_select_0 rfl (lv_at hl 1 rfl) ?_
  refine k_PSi hC LX9_124 ⟨Nat.le_of_ble_eq_true rfl, Nat.le_of_ble_eq_true rfl⟩ ⟨Nat.zero_le _, Nat.zero_le _⟩ (cM_isRow l E a1 _ rfl) rfl rfl (vP_nil) hl.1 rfl (Nat.le_of_ble_eq_true rfl) rfl dX9_select_1 (fun hz1 => ?_)
  refine lv_if_ne (tgt := 10) hx hb dX9_select_4 (by decide) (fun c1 => ?_) (fun c1 => ?_)
  · have hf := ite_f hf c1
    refine lv_aload_n hx hb dX9_select_10 rfl (lv_at hl 0 rfl) ?_
    obtain ⟨t2, ht2, hf⟩ := ob hf
    refine k_WVsv hC LX9_127 ⟨Nat.le_of_ble_eq_true rfl, Nat.le_of_ble_eq_true rfl⟩ ⟨Nat.zero_le _, Nat.zero_le _⟩ (cM_findsRows l E ad q0_why q0_detail q0_reasonNow q0_detailNow q0_w q0_undos q0_savedRow q0_mind q0_changes q0_firstChange q0_isSaved q0_at q0_line q0_lineLength q0_text q0_length q0_next q0_numbers q0_sort q0_done t2 ht2) rfl rfl hH rfl rfl rfl hl.1 rfl (Nat.le_of_ble_eq_true rfl) rfl dX9_select_11 (fun H locs hz11 hH => ?_)
    have hH : Hp E (adr (wM E ad q0_why q0_detail q0_reasonNow q0_detailNow q0_w q0_undos q0_savedRow q0_mind q0_changes q0_firstChange q0_isSaved q0_at q0_line q0_lineLength q0_text q0_length q0_next q0_numbers q0_sort q0_done)) (wM E ad q0_why q0_detail q0_reasonNow q0_detailNow q0_w q0_undos q0_savedRow q0_mind q0_changes q0_firstChange q0_isSaved t2 q0_line q0_lineLength q0_text q0_length q0_next q0_numbers q0_sort q0_done) s.heap H locs := hH
    refine lv_iconst (v := 0) hx hb dX9_select_14 (by decide) ?_
    refine lv_istore (lv' := [(4, .int (0 : Int32)), (0, .ref (ad 0)), (1, .int a1), (2, .int a2), (3, .int a3)]) hx hb dX9_select_15 hl (by decide) rfl (fun ls hl => ?_)
    exact L17 FU t2 a1 a2 a3 (0 : Int32) ls (lv_sub hl [1, 2, 3, 4, 0] rfl) _ _ hH hf
  · have hf := ite_t hf c1
    refine lv_bipush (v := (-11)) hx hb dX9_select_7 (by decide) ?_
    have hf := Option.some.inj hf
    subst hf
    exact e_Wi hC hH hr hlocks rfl rfl dX9_select_9
abbrev rmM_standsIn : Room := { frames := 0, cells := 0, slots := 0, locals := 0 }
set_option maxHeartbeats 4000000 in
set_option maxRecDepth 100000 in
theorem cM_standsIn (l : Launch) (E : eE) (ad : Nat → Nat) (q0_why : Int32) (q0_detail : Int32) (q0_reasonNow : Int32) (q0_detailNow : Int32) (q0_w : (Nat → Int32)) (q0_undos : (Nat → Int32)) (q0_savedRow : (Nat → Int32)) (q0_mind : (Nat → Int32)) (q0_changes : Int32) (q0_firstChange : Int32) (q0_isSaved : Int32) (q0_at : (Nat → Int32)) (q0_line : (Nat → Int32)) (q0_lineLength : Int32) (q0_text : (Nat → Int32)) (q0_length : Int32) (q0_next : Int32) (q0_numbers : (Nat → Int32)) (q0_sort : Int32) (q0_done : Int32) (a1 : Int32) (a2 : Int32) (r : Int32) (hf : fM_standsIn q0_at a1 a2 = some r) : cP l E yX9_standsIn cX9_standsIn 4 (some .int) rmM_standsIn [.ref (ad 0), .int a1, .int a2] (wM E ad q0_why q0_detail q0_reasonNow q0_detailNow q0_w q0_undos q0_savedRow q0_mind q0_changes q0_firstChange q0_isSaved q0_at q0_line q0_lineLength q0_text q0_length q0_next q0_numbers q0_sort q0_done) (some (.int r)) := by
  refine Met.ofW (cc := cX9_standsIn) (maxL := 4) (ret := (some .int)) (by decide) rfl ?_
  intro p e s m args below meth c s₁ B hml hv
  obtain ⟨hargs, hP, hK⟩ := hv
  have hx := B.exec
  have hb := B.bytes
  have hr := B.returns
  have hts := atoms_spec (ws := ws_ yX9_standsIn cX9_standsIn 4 (some .int)) B.pre
  have hta : ∀ w ∈ lw_all, w.before args s = true := fun w h => hts w (List.mem_cons_of_mem _ h)
  have hown : s.vm.findClass RX9 = some m.cls := findClass_of_methodNamed B.named
  have hlocks := B.notSynchronized
  have hC : Cx p s m args c cX9_standsIn 4 RX9 E := ⟨hx, hb, hml, hown, hta, hK⟩
  obtain ⟨ls, he, hl⟩ := entry_ (m := m) (n := 4) hargs (Nat.le_of_ble_eq_true rfl)
  rw [he]
  have hl : lv_has ls 4 [(0, .ref (ad 0)), (1, .int a1), (2, .int a2)] := hl
  show W p l e rmM_standsIn s m args below meth c s.heap [] 0 0 (MQ below (qP (some .int) (some (.int r))) args s 0 0 (fun _ => False)) (F0 m 0 ls [])
  have L2 : ∀ (n : Nat) (a1 : Int32) (a2 : Int32) (a3 : Int32) (ls : Array Slot), lv_has ls 4 [(0, .ref (ad 0)), (1, .int a1), (2, .int a2), (3, .int a3)] → fM_standsIn_2 n q0_at a1 a2 a3 = some r → W p l e rmM_standsIn s m args below meth c s.heap [] 0 0 (MQ below (qP (some .int) (some (.int r))) args s 0 0 (fun _ => False)) (F0 m 2 ls []) := by
    intro n
    induction n with
    | zero => intro a1 a2 a3 ls hl hf; cases hf
    | succ n ih =>
      intro a1 a2 a3 ls hl hf
      rw [fM_standsIn_2] at hf
      refine lv_aload_n hx hb dX9_standsIn_2 rfl (lv_at hl 0 rfl) ?_
      refine gX9_22 hC hP 0 rfl (v := .ref (ad 5)) rfl dX9_standsIn_3 ?_
      refine lv_bipush (v := 64) hx hb dX9_standsIn_6 (by decide) ?_
      refine lv_iload_n hx hb dX9_standsIn_8 rfl (lv_at hl 1 rfl) ?_
      refine lv_imul hx hb dX9_standsIn_9 ?_
      refine lv_iload_n hx hb dX9_standsIn_10 rfl (lv_at hl 3 rfl) ?_
      refine lv_iadd hx hb dX9_standsIn_11 ?_
      obtain ⟨v1, hv1, hf⟩ := ob hf
      obtain ⟨hv1a, hv1b⟩ := ldA_ok hv1
      refine a_ild hC hP 5 rfl hv1a hv1b dX9_standsIn_12 ?_
      refine lv_iload_n hx hb dX9_standsIn_13 rfl (lv_at hl 2 rfl) ?_
      refine lv_icmp_eq (tgt := 23) hx hb dX9_standsIn_14 (by decide) (fun c2 => ?_) (fun c2 => ?_)
      · have hf := ite_t hf c2
        refine lv_iload_n hx hb dX9_standsIn_23 rfl (lv_at hl 3 rfl) ?_
        have hf := Option.some.inj hf
        exact e_Pi hC hr hlocks hf dX9_standsIn_24
      · have hf := ite_f hf c2
        refine lv_iinc (v := (a3 + (1 : Int32))) (lv' := [(3, .int (a3 + (1 : Int32))), (0, .ref (ad 0)), (1, .int a1), (2, .int a2)]) hx hb dX9_standsIn_17 hl (k := 3) rfl rfl (by decide) rfl (fun ls hl => ?_)
        refine lv_goto (tgt := 2) hx hb dX9_standsIn_20 (by decide) ?_
        exact ih a1 a2 (a3 + (1 : Int32)) ls (lv_sub hl [1, 2, 3, 0] rfl) hf
  rw [fM_standsIn] at hf
  refine lv_iconst (v := 0) hx hb dX9_standsIn_0 (by decide) ?_
  refine lv_istore_n (lv' := [(3, .int (0 : Int32)), (0, .ref (ad 0)), (1, .int a1), (2, .int a2)]) hx hb dX9_standsIn_1 rfl hl (by decide) rfl (fun ls hl => ?_)
  exact L2 FU a1 a2 (0 : Int32) ls (lv_sub hl [1, 2, 3, 0] rfl) hf
abbrev rmM_placeIn : Room := { frames := 2, cells := 0, slots := 0, locals := 47 }
set_option maxHeartbeats 4000000 in
set_option maxRecDepth 100000 in
theorem cM_placeIn (l : Launch) (E : eE) (ad : Nat → Nat) (q0_why : Int32) (q0_detail : Int32) (q0_reasonNow : Int32) (q0_detailNow : Int32) (q0_w : (Nat → Int32)) (q0_undos : (Nat → Int32)) (q0_savedRow : (Nat → Int32)) (q0_mind : (Nat → Int32)) (q0_changes : Int32) (q0_firstChange : Int32) (q0_isSaved : Int32) (q0_at : (Nat → Int32)) (q0_line : (Nat → Int32)) (q0_lineLength : Int32) (q0_text : (Nat → Int32)) (q0_length : Int32) (q0_next : Int32) (q0_numbers : (Nat → Int32)) (q0_sort : Int32) (q0_done : Int32) (a1 : Int32) (a2 : Int32) (t : Int32 × (Nat → Int32)) (hf : fM_placeIn q0_w q0_at a1 a2 = some t) : cW l E yX9_placeIn cX9_placeIn 3 (some .int) rmM_placeIn [.ref (ad 0), .int a1, .int a2] (wM E ad q0_why q0_detail q0_reasonNow q0_detailNow q0_w q0_undos q0_savedRow q0_mind q0_changes q0_firstChange q0_isSaved q0_at q0_line q0_lineLength q0_text q0_length q0_next q0_numbers q0_sort q0_done) (some (.int t.1)) (wM E ad q0_why q0_detail q0_reasonNow q0_detailNow q0_w q0_undos q0_savedRow q0_mind q0_changes q0_firstChange q0_isSaved t.2 q0_line q0_lineLength q0_text q0_length q0_next q0_numbers q0_sort q0_done) := by
  refine Met.ofW (cc := cX9_placeIn) (maxL := 3) (ret := (some .int)) (by decide) rfl ?_
  intro p e s m args below meth c s₁ B hml hv
  obtain ⟨hargs, hP, hK, hD0⟩ := hv
  have hx := B.exec
  have hb := B.bytes
  have hr := B.returns
  have hts := atoms_spec (ws := ws_ yX9_placeIn cX9_placeIn 3 (some .int)) B.pre
  have hta : ∀ w ∈ lw_all, w.before args s = true := fun w h => hts w (List.mem_cons_of_mem _ h)
  have hown : s.vm.findClass RX9 = some m.cls := findClass_of_methodNamed B.named
  have hlocks := B.notSynchronized
  have hC : Cx p s m args c cX9_placeIn 3 RX9 E := ⟨hx, hb, hml, hown, hta, hK⟩
  have hH : Hp E (adr (wM E ad q0_why q0_detail q0_reasonNow q0_detailNow q0_w q0_undos q0_savedRow q0_mind q0_changes q0_firstChange q0_isSaved q0_at q0_line q0_lineLength q0_text q0_length q0_next q0_numbers q0_sort q0_done)) (wM E ad q0_why q0_detail q0_reasonNow q0_detailNow q0_w q0_undos q0_savedRow q0_mind q0_changes q0_firstChange q0_isSaved q0_at q0_line q0_lineLength q0_text q0_length q0_next q0_numbers q0_sort q0_done) s.heap s.heap [] := Hp.start hP hD0
  obtain ⟨ls, he, hl⟩ := entry_ (m := m) (n := 3) hargs (Nat.le_of_ble_eq_true rfl)
  rw [he]
  have hl : lv_has ls 3 [(0, .ref (ad 0)), (1, .int a1), (2, .int a2)] := hl
  show W p l e rmM_placeIn s m args below meth c s.heap [] 0 0 (MQ below (qW E (some .int) (some (.int t.1)) (wM E ad q0_why q0_detail q0_reasonNow q0_detailNow q0_w q0_undos q0_savedRow q0_mind q0_changes q0_firstChange q0_isSaved q0_at q0_line q0_lineLength q0_text q0_length q0_next q0_numbers q0_sort q0_done) (wM E ad q0_why q0_detail q0_reasonNow q0_detailNow q0_w q0_undos q0_savedRow q0_mind q0_changes q0_firstChange q0_isSaved t.2 q0_line q0_lineLength q0_text q0_length q0_next q0_numbers q0_sort q0_done)) args s 0 0 (adr (wM E ad q0_why q0_detail q0_reasonNow q0_detailNow q0_w q0_undos q0_savedRow q0_mind q0_changes q0_firstChange q0_isSaved q0_at q0_line q0_lineLength q0_text q0_length q0_next q0_numbers q0_sort q0_done))) (F0 m 0 ls [])
  suffices hmain : ∀ (H : Heap) (locs : List Loc), Hp E (adr (wM E ad q0_why q0_detail q0_reasonNow q0_detailNow q0_w q0_undos q0_savedRow q0_mind q0_changes q0_firstChange q0_isSaved q0_at q0_line q0_lineLength q0_text q0_length q0_next q0_numbers q0_sort q0_done)) (wM E ad q0_why q0_detail q0_reasonNow q0_detailNow q0_w q0_undos q0_savedRow q0_mind q0_changes q0_firstChange q0_isSaved q0_at q0_line q0_lineLength q0_text q0_length q0_next q0_numbers q0_sort q0_done) s.heap H locs → W p l e rmM_placeIn s m args below meth c H locs 0 0 (MQ below (qW E (some .int) (some (.int t.1)) (wM E ad q0_why q0_detail q0_reasonNow q0_detailNow q0_w q0_undos q0_savedRow q0_mind q0_changes q0_firstChange q0_isSaved q0_at q0_line q0_lineLength q0_text q0_length q0_next q0_numbers q0_sort q0_done) (wM E ad q0_why q0_detail q0_reasonNow q0_detailNow q0_w q0_undos q0_savedRow q0_mind q0_changes q0_firstChange q0_isSaved t.2 q0_line q0_lineLength q0_text q0_length q0_next q0_numbers q0_sort q0_done)) args s 0 0 (adr (wM E ad q0_why q0_detail q0_reasonNow q0_detailNow q0_w q0_undos q0_savedRow q0_mind q0_changes q0_firstChange q0_isSaved q0_at q0_line q0_lineLength q0_text q0_length q0_next q0_numbers q0_sort q0_done))) (F0 m 0 ls []) from hmain _ _ hH
  clear hH
  intro H locs hH
  rw [fM_placeIn] at hf
  refine lv_iload_n hx hb dX9_placeIn_0 rfl (lv_at hl 1 rfl) ?_
  refine k_PSi hC LX9_124 ⟨Nat.le_of_ble_eq_true rfl, Nat.le_of_ble_eq_true rfl⟩ ⟨Nat.zero_le _, Nat.zero_le _⟩ (cM_isRow l E a1 _ rfl) rfl rfl (vP_nil) hl.1 rfl (Nat.le_of_ble_eq_true rfl) rfl dX9_placeIn_1 (fun hz1 => ?_)
  refine lv_if_eq (tgt := 15) hx hb dX9_placeIn_4 (by decide) (fun c1 => ?_) (fun c1 => ?_)
  · have hf := ite_t hf c1
    refine lv_bipush (v := (-11)) hx hb dX9_placeIn_15 (by decide) ?_
    have hf := Option.some.inj hf
    subst hf
    exact e_Wi hC hH hr hlocks rfl rfl dX9_placeIn_17
  · have hf := ite_f hf c1
    refine lv_aload_n hx hb dX9_placeIn_7 rfl (lv_at hl 0 rfl) ?_
    refine lv_iload_n hx hb dX9_placeIn_8 rfl (lv_at hl 2 rfl) ?_
    obtain ⟨t2, ht2, hf⟩ := ob hf
    refine k_PVi hC LX9_89 ⟨Nat.le_of_ble_eq_true rfl, Nat.le_of_ble_eq_true rfl⟩ ⟨Nat.zero_le _, Nat.zero_le _⟩ (cM_isLetter l E ad q0_why q0_detail q0_reasonNow q0_detailNow q0_w q0_undos q0_savedRow q0_mind q0_changes q0_firstChange q0_isSaved q0_at q0_line q0_lineLength q0_text q0_length q0_next q0_numbers q0_sort q0_done a2 t2 ht2) rfl rfl hH.1 rfl rfl hl.1 rfl (Nat.le_of_ble_eq_true rfl) rfl dX9_placeIn_9 (fun hz9 => ?_)
    refine lv_if_ne (tgt := 18) hx hb dX9_placeIn_12 (by decide) (fun c3 => ?_) (fun c3 => ?_)
    · have hf := ite_f hf c3
      refine lv_aload_n hx hb dX9_placeIn_18 rfl (lv_at hl 0 rfl) ?_
      obtain ⟨t4, ht4, hf⟩ := ob hf
      refine k_WVsv hC LX9_127 ⟨Nat.le_of_ble_eq_true rfl, Nat.le_of_ble_eq_true rfl⟩ ⟨Nat.zero_le _, Nat.zero_le _⟩ (cM_findsRows l E ad q0_why q0_detail q0_reasonNow q0_detailNow q0_w q0_undos q0_savedRow q0_mind q0_changes q0_firstChange q0_isSaved q0_at q0_line q0_lineLength q0_text q0_length q0_next q0_numbers q0_sort q0_done t4 ht4) rfl rfl hH rfl rfl rfl hl.1 rfl (Nat.le_of_ble_eq_true rfl) rfl dX9_placeIn_19 (fun H locs hz19 hH => ?_)
      have hH : Hp E (adr (wM E ad q0_why q0_detail q0_reasonNow q0_detailNow q0_w q0_undos q0_savedRow q0_mind q0_changes q0_firstChange q0_isSaved q0_at q0_line q0_lineLength q0_text q0_length q0_next q0_numbers q0_sort q0_done)) (wM E ad q0_why q0_detail q0_reasonNow q0_detailNow q0_w q0_undos q0_savedRow q0_mind q0_changes q0_firstChange q0_isSaved t4 q0_line q0_lineLength q0_text q0_length q0_next q0_numbers q0_sort q0_done) s.heap H locs := hH
      refine lv_aload_n hx hb dX9_placeIn_22 rfl (lv_at hl 0 rfl) ?_
      refine lv_iload_n hx hb dX9_placeIn_23 rfl (lv_at hl 1 rfl) ?_
      refine lv_iload_n hx hb dX9_placeIn_24 rfl (lv_at hl 2 rfl) ?_
      obtain ⟨t5, ht5, hf⟩ := ob hf
      refine k_PVi hC LX9_139 ⟨Nat.le_of_ble_eq_true rfl, Nat.le_of_ble_eq_true rfl⟩ ⟨Nat.zero_le _, Nat.zero_le _⟩ (cM_standsIn l E ad q0_why q0_detail q0_reasonNow q0_detailNow q0_w q0_undos q0_savedRow q0_mind q0_changes q0_firstChange q0_isSaved t4 q0_line q0_lineLength q0_text q0_length q0_next q0_numbers q0_sort q0_done a1 a2 t5 ht5) rfl rfl hH.1 rfl rfl hl.1 rfl (Nat.le_of_ble_eq_true rfl) rfl dX9_placeIn_25 (fun hz25 => ?_)
      have hf := Option.some.inj hf
      subst hf
      exact e_Wi hC hH hr hlocks rfl rfl dX9_placeIn_28
    · have hf := ite_t hf c3
      refine lv_bipush (v := (-11)) hx hb dX9_placeIn_15 (by decide) ?_
      have hf := Option.some.inj hf
      subst hf
      exact e_Wi hC hH hr hlocks rfl rfl dX9_placeIn_17
abbrev rmM_weight : Room := { frames := 2, cells := 0, slots := 0, locals := 43 }
set_option maxHeartbeats 4000000 in
set_option maxRecDepth 100000 in
theorem cM_weight (l : Launch) (E : eE) (ad : Nat → Nat) (q0_why : Int32) (q0_detail : Int32) (q0_reasonNow : Int32) (q0_detailNow : Int32) (q0_w : (Nat → Int32)) (q0_undos : (Nat → Int32)) (q0_savedRow : (Nat → Int32)) (q0_mind : (Nat → Int32)) (q0_changes : Int32) (q0_firstChange : Int32) (q0_isSaved : Int32) (q0_at : (Nat → Int32)) (q0_line : (Nat → Int32)) (q0_lineLength : Int32) (q0_text : (Nat → Int32)) (q0_length : Int32) (q0_next : Int32) (q0_numbers : (Nat → Int32)) (q0_sort : Int32) (q0_done : Int32) (a1 : Int32) (r : Int32) (hf : fM_weight q0_w a1 = some r) : cP l E yX9_weight cX9_weight 2 (some .int) rmM_weight [.ref (ad 0), .int a1] (wM E ad q0_why q0_detail q0_reasonNow q0_detailNow q0_w q0_undos q0_savedRow q0_mind q0_changes q0_firstChange q0_isSaved q0_at q0_line q0_lineLength q0_text q0_length q0_next q0_numbers q0_sort q0_done) (some (.int r)) := by
  refine Met.ofW (cc := cX9_weight) (maxL := 2) (ret := (some .int)) (by decide) rfl ?_
  intro p e s m args below meth c s₁ B hml hv
  obtain ⟨hargs, hP, hK⟩ := hv
  have hx := B.exec
  have hb := B.bytes
  have hr := B.returns
  have hts := atoms_spec (ws := ws_ yX9_weight cX9_weight 2 (some .int)) B.pre
  have hta : ∀ w ∈ lw_all, w.before args s = true := fun w h => hts w (List.mem_cons_of_mem _ h)
  have hown : s.vm.findClass RX9 = some m.cls := findClass_of_methodNamed B.named
  have hlocks := B.notSynchronized
  have hC : Cx p s m args c cX9_weight 2 RX9 E := ⟨hx, hb, hml, hown, hta, hK⟩
  obtain ⟨ls, he, hl⟩ := entry_ (m := m) (n := 2) hargs (Nat.le_of_ble_eq_true rfl)
  rw [he]
  have hl : lv_has ls 2 [(0, .ref (ad 0)), (1, .int a1)] := hl
  show W p l e rmM_weight s m args below meth c s.heap [] 0 0 (MQ below (qP (some .int) (some (.int r))) args s 0 0 (fun _ => False)) (F0 m 0 ls [])
  rw [fM_weight] at hf
  refine lv_aload_n hx hb dX9_weight_0 rfl (lv_at hl 0 rfl) ?_
  refine lv_iload_n hx hb dX9_weight_1 rfl (lv_at hl 1 rfl) ?_
  obtain ⟨t1, ht1, hf⟩ := ob hf
  refine k_PVi hC LX9_89 ⟨Nat.le_of_ble_eq_true rfl, Nat.le_of_ble_eq_true rfl⟩ ⟨Nat.zero_le _, Nat.zero_le _⟩ (cM_isLetter l E ad q0_why q0_detail q0_reasonNow q0_detailNow q0_w q0_undos q0_savedRow q0_mind q0_changes q0_firstChange q0_isSaved q0_at q0_line q0_lineLength q0_text q0_length q0_next q0_numbers q0_sort q0_done a1 t1 ht1) rfl rfl hP rfl rfl hl.1 rfl (Nat.le_of_ble_eq_true rfl) rfl dX9_weight_2 (fun hz2 => ?_)
  refine lv_if_eq (tgt := 16) hx hb dX9_weight_5 (by decide) (fun c2 => ?_) (fun c2 => ?_)
  · have hf := ite_t hf c2
    refine lv_bipush (v := (-11)) hx hb dX9_weight_16 (by decide) ?_
    have hf := Option.some.inj hf
    exact e_Pi hC hr hlocks hf dX9_weight_18
  · have hf := ite_f hf c2
    refine lv_aload_n hx hb dX9_weight_8 rfl (lv_at hl 0 rfl) ?_
    refine lv_iload_n hx hb dX9_weight_9 rfl (lv_at hl 1 rfl) ?_
    obtain ⟨t3, ht3, hf⟩ := ob hf
    refine k_PVi hC LX9_86 ⟨Nat.le_of_ble_eq_true rfl, Nat.le_of_ble_eq_true rfl⟩ ⟨Nat.zero_le _, Nat.zero_le _⟩ (cM_is l E ad q0_why q0_detail q0_reasonNow q0_detailNow q0_w q0_undos q0_savedRow q0_mind q0_changes q0_firstChange q0_isSaved q0_at q0_line q0_lineLength q0_text q0_length q0_next q0_numbers q0_sort q0_done a1 t3 ht3) rfl rfl hP rfl rfl hl.1 rfl (Nat.le_of_ble_eq_true rfl) rfl dX9_weight_10 (fun hz10 => ?_)
    refine lv_goto (tgt := 18) hx hb dX9_weight_13 (by decide) ?_
    have hf := Option.some.inj hf
    exact e_Pi hC hr hlocks hf dX9_weight_18
abbrev rmM_byBits : Room := { frames := 2, cells := 0, slots := 0, locals := 43 }
set_option maxHeartbeats 4000000 in
set_option maxRecDepth 100000 in
theorem cM_byBits (l : Launch) (E : eE) (ad : Nat → Nat) (q0_why : Int32) (q0_detail : Int32) (q0_reasonNow : Int32) (q0_detailNow : Int32) (q0_w : (Nat → Int32)) (q0_undos : (Nat → Int32)) (q0_savedRow : (Nat → Int32)) (q0_mind : (Nat → Int32)) (q0_changes : Int32) (q0_firstChange : Int32) (q0_isSaved : Int32) (q0_at : (Nat → Int32)) (q0_line : (Nat → Int32)) (q0_lineLength : Int32) (q0_text : (Nat → Int32)) (q0_length : Int32) (q0_next : Int32) (q0_numbers : (Nat → Int32)) (q0_sort : Int32) (q0_done : Int32) (a1 : Int32) (r : Int32) (hf : fM_byBits q0_w q0_at a1 = some r) : cP l E yX9_byBits cX9_byBits 4 (some .int) rmM_byBits [.ref (ad 0), .int a1] (wM E ad q0_why q0_detail q0_reasonNow q0_detailNow q0_w q0_undos q0_savedRow q0_mind q0_changes q0_firstChange q0_isSaved q0_at q0_line q0_lineLength q0_text q0_length q0_next q0_numbers q0_sort q0_done) (some (.int r)) := by
  refine Met.ofW (cc := cX9_byBits) (maxL := 4) (ret := (some .int)) (by decide) rfl ?_
  intro p e s m args below meth c s₁ B hml hv
  obtain ⟨hargs, hP, hK⟩ := hv
  have hx := B.exec
  have hb := B.bytes
  have hr := B.returns
  have hts := atoms_spec (ws := ws_ yX9_byBits cX9_byBits 4 (some .int)) B.pre
  have hta : ∀ w ∈ lw_all, w.before args s = true := fun w h => hts w (List.mem_cons_of_mem _ h)
  have hown : s.vm.findClass RX9 = some m.cls := findClass_of_methodNamed B.named
  have hlocks := B.notSynchronized
  have hC : Cx p s m args c cX9_byBits 4 RX9 E := ⟨hx, hb, hml, hown, hta, hK⟩
  obtain ⟨ls, he, hl⟩ := entry_ (m := m) (n := 4) hargs (Nat.le_of_ble_eq_true rfl)
  rw [he]
  have hl : lv_has ls 4 [(0, .ref (ad 0)), (1, .int a1)] := hl
  show W p l e rmM_byBits s m args below meth c s.heap [] 0 0 (MQ below (qP (some .int) (some (.int r))) args s 0 0 (fun _ => False)) (F0 m 0 ls [])
  have L4 : ∀ (n : Nat) (a1 : Int32) (a2 : Int32) (a3 : Int32) (ls : Array Slot), lv_has ls 4 [(0, .ref (ad 0)), (1, .int a1), (2, .int a2), (3, .int a3)] → fM_byBits_4 n q0_w q0_at a1 a2 a3 = some r → W p l e rmM_byBits s m args below meth c s.heap [] 0 0 (MQ below (qP (some .int) (some (.int r))) args s 0 0 (fun _ => False)) (F0 m 4 ls []) := by
    intro n
    induction n with
    | zero => intro a1 a2 a3 ls hl hf; cases hf
    | succ n ih =>
      intro a1 a2 a3 ls hl hf
      rw [fM_byBits_4] at hf
      refine lv_iload_n hx hb dX9_byBits_4 rfl (lv_at hl 3 rfl) ?_
      refine lv_iconst (v := 5) hx hb dX9_byBits_5 (by decide) ?_
      refine lv_icmp_ge (tgt := 31) hx hb dX9_byBits_6 (by decide) (fun c1 => ?_) (fun c1 => ?_)
      · have hf := ite_t hf c1
        refine lv_iload_n hx hb dX9_byBits_31 rfl (lv_at hl 2 rfl) ?_
        have hf := Option.some.inj hf
        exact e_Pi hC hr hlocks hf dX9_byBits_32
      · have hf := ite_f hf c1
        refine lv_iconst (v := 2) hx hb dX9_byBits_9 (by decide) ?_
        refine lv_iload_n hx hb dX9_byBits_10 rfl (lv_at hl 2 rfl) ?_
        refine lv_imul hx hb dX9_byBits_11 ?_
        refine lv_aload_n hx hb dX9_byBits_12 rfl (lv_at hl 0 rfl) ?_
        refine lv_iload_n hx hb dX9_byBits_13 rfl (lv_at hl 3 rfl) ?_
        refine lv_aload_n hx hb dX9_byBits_14 rfl (lv_at hl 0 rfl) ?_
        refine lv_iload_n hx hb dX9_byBits_15 rfl (lv_at hl 3 rfl) ?_
        refine lv_iload_n hx hb dX9_byBits_16 rfl (lv_at hl 1 rfl) ?_
        obtain ⟨t2, ht2, hf⟩ := ob hf
        refine k_PVi hC LX9_139 ⟨Nat.le_of_ble_eq_true rfl, Nat.le_of_ble_eq_true rfl⟩ ⟨Nat.zero_le _, Nat.zero_le _⟩ (cM_standsIn l E ad q0_why q0_detail q0_reasonNow q0_detailNow q0_w q0_undos q0_savedRow q0_mind q0_changes q0_firstChange q0_isSaved q0_at q0_line q0_lineLength q0_text q0_length q0_next q0_numbers q0_sort q0_done a3 a1 t2 ht2) rfl rfl hP rfl rfl hl.1 rfl (Nat.le_of_ble_eq_true rfl) rfl dX9_byBits_17 (fun hz17 => ?_)
        obtain ⟨t3, ht3, hf⟩ := ob hf
        refine k_PVi hC LX9_130 ⟨Nat.le_of_ble_eq_true rfl, Nat.le_of_ble_eq_true rfl⟩ ⟨Nat.zero_le _, Nat.zero_le _⟩ (cM_bitAt l E ad q0_why q0_detail q0_reasonNow q0_detailNow q0_w q0_undos q0_savedRow q0_mind q0_changes q0_firstChange q0_isSaved q0_at q0_line q0_lineLength q0_text q0_length q0_next q0_numbers q0_sort q0_done a3 t2 t3 ht3) rfl rfl hP rfl rfl hl.1 rfl (Nat.le_of_ble_eq_true rfl) rfl dX9_byBits_20 (fun hz20 => ?_)
        refine lv_iadd hx hb dX9_byBits_23 ?_
        refine lv_istore_n (lv' := [(2, .int (((2 : Int32) * a2) + t3)), (0, .ref (ad 0)), (1, .int a1), (3, .int a3)]) hx hb dX9_byBits_24 rfl hl (by decide) rfl (fun ls hl => ?_)
        refine lv_iinc (v := (a3 + (1 : Int32))) (lv' := [(3, .int (a3 + (1 : Int32))), (2, .int (((2 : Int32) * a2) + t3)), (0, .ref (ad 0)), (1, .int a1)]) hx hb dX9_byBits_25 hl (k := 3) rfl rfl (by decide) rfl (fun ls hl => ?_)
        refine lv_goto (tgt := 4) hx hb dX9_byBits_28 (by decide) ?_
        exact ih a1 (((2 : Int32) * a2) + t3) (a3 + (1 : Int32)) ls (lv_sub hl [2, 3, 1, 0] rfl) hf
  rw [fM_byBits] at hf
  refine lv_iconst (v := 0) hx hb dX9_byBits_0 (by decide) ?_
  refine lv_istore_n (lv' := [(2, .int (0 : Int32)), (0, .ref (ad 0)), (1, .int a1)]) hx hb dX9_byBits_1 rfl hl (by decide) rfl (fun ls hl => ?_)
  refine lv_iconst (v := 0) hx hb dX9_byBits_2 (by decide) ?_
  refine lv_istore_n (lv' := [(3, .int (0 : Int32)), (2, .int (0 : Int32)), (0, .ref (ad 0)), (1, .int a1)]) hx hb dX9_byBits_3 rfl hl (by decide) rfl (fun ls hl => ?_)
  exact L4 FU a1 (0 : Int32) (0 : Int32) ls (lv_sub hl [2, 3, 1, 0] rfl) hf
abbrev rmM_weightAgain : Room := { frames := 3, cells := 0, slots := 0, locals := 66 }
set_option maxHeartbeats 4000000 in
set_option maxRecDepth 100000 in
theorem cM_weightAgain (l : Launch) (E : eE) (ad : Nat → Nat) (q0_why : Int32) (q0_detail : Int32) (q0_reasonNow : Int32) (q0_detailNow : Int32) (q0_w : (Nat → Int32)) (q0_undos : (Nat → Int32)) (q0_savedRow : (Nat → Int32)) (q0_mind : (Nat → Int32)) (q0_changes : Int32) (q0_firstChange : Int32) (q0_isSaved : Int32) (q0_at : (Nat → Int32)) (q0_line : (Nat → Int32)) (q0_lineLength : Int32) (q0_text : (Nat → Int32)) (q0_length : Int32) (q0_next : Int32) (q0_numbers : (Nat → Int32)) (q0_sort : Int32) (q0_done : Int32) (a1 : Int32) (t : Int32 × (Nat → Int32)) (hf : fM_weightAgain q0_w q0_at a1 = some t) : cW l E yX9_weightAgain cX9_weightAgain 2 (some .int) rmM_weightAgain [.ref (ad 0), .int a1] (wM E ad q0_why q0_detail q0_reasonNow q0_detailNow q0_w q0_undos q0_savedRow q0_mind q0_changes q0_firstChange q0_isSaved q0_at q0_line q0_lineLength q0_text q0_length q0_next q0_numbers q0_sort q0_done) (some (.int t.1)) (wM E ad q0_why q0_detail q0_reasonNow q0_detailNow q0_w q0_undos q0_savedRow q0_mind q0_changes q0_firstChange q0_isSaved t.2 q0_line q0_lineLength q0_text q0_length q0_next q0_numbers q0_sort q0_done) := by
  refine Met.ofW (cc := cX9_weightAgain) (maxL := 2) (ret := (some .int)) (by decide) rfl ?_
  intro p e s m args below meth c s₁ B hml hv
  obtain ⟨hargs, hP, hK, hD0⟩ := hv
  have hx := B.exec
  have hb := B.bytes
  have hr := B.returns
  have hts := atoms_spec (ws := ws_ yX9_weightAgain cX9_weightAgain 2 (some .int)) B.pre
  have hta : ∀ w ∈ lw_all, w.before args s = true := fun w h => hts w (List.mem_cons_of_mem _ h)
  have hown : s.vm.findClass RX9 = some m.cls := findClass_of_methodNamed B.named
  have hlocks := B.notSynchronized
  have hC : Cx p s m args c cX9_weightAgain 2 RX9 E := ⟨hx, hb, hml, hown, hta, hK⟩
  have hH : Hp E (adr (wM E ad q0_why q0_detail q0_reasonNow q0_detailNow q0_w q0_undos q0_savedRow q0_mind q0_changes q0_firstChange q0_isSaved q0_at q0_line q0_lineLength q0_text q0_length q0_next q0_numbers q0_sort q0_done)) (wM E ad q0_why q0_detail q0_reasonNow q0_detailNow q0_w q0_undos q0_savedRow q0_mind q0_changes q0_firstChange q0_isSaved q0_at q0_line q0_lineLength q0_text q0_length q0_next q0_numbers q0_sort q0_done) s.heap s.heap [] := Hp.start hP hD0
  obtain ⟨ls, he, hl⟩ := entry_ (m := m) (n := 2) hargs (Nat.le_of_ble_eq_true rfl)
  rw [he]
  have hl : lv_has ls 2 [(0, .ref (ad 0)), (1, .int a1)] := hl
  show W p l e rmM_weightAgain s m args below meth c s.heap [] 0 0 (MQ below (qW E (some .int) (some (.int t.1)) (wM E ad q0_why q0_detail q0_reasonNow q0_detailNow q0_w q0_undos q0_savedRow q0_mind q0_changes q0_firstChange q0_isSaved q0_at q0_line q0_lineLength q0_text q0_length q0_next q0_numbers q0_sort q0_done) (wM E ad q0_why q0_detail q0_reasonNow q0_detailNow q0_w q0_undos q0_savedRow q0_mind q0_changes q0_firstChange q0_isSaved t.2 q0_line q0_lineLength q0_text q0_length q0_next q0_numbers q0_sort q0_done)) args s 0 0 (adr (wM E ad q0_why q0_detail q0_reasonNow q0_detailNow q0_w q0_undos q0_savedRow q0_mind q0_changes q0_firstChange q0_isSaved q0_at q0_line q0_lineLength q0_text q0_length q0_next q0_numbers q0_sort q0_done))) (F0 m 0 ls [])
  suffices hmain : ∀ (H : Heap) (locs : List Loc), Hp E (adr (wM E ad q0_why q0_detail q0_reasonNow q0_detailNow q0_w q0_undos q0_savedRow q0_mind q0_changes q0_firstChange q0_isSaved q0_at q0_line q0_lineLength q0_text q0_length q0_next q0_numbers q0_sort q0_done)) (wM E ad q0_why q0_detail q0_reasonNow q0_detailNow q0_w q0_undos q0_savedRow q0_mind q0_changes q0_firstChange q0_isSaved q0_at q0_line q0_lineLength q0_text q0_length q0_next q0_numbers q0_sort q0_done) s.heap H locs → W p l e rmM_weightAgain s m args below meth c H locs 0 0 (MQ below (qW E (some .int) (some (.int t.1)) (wM E ad q0_why q0_detail q0_reasonNow q0_detailNow q0_w q0_undos q0_savedRow q0_mind q0_changes q0_firstChange q0_isSaved q0_at q0_line q0_lineLength q0_text q0_length q0_next q0_numbers q0_sort q0_done) (wM E ad q0_why q0_detail q0_reasonNow q0_detailNow q0_w q0_undos q0_savedRow q0_mind q0_changes q0_firstChange q0_isSaved t.2 q0_line q0_lineLength q0_text q0_length q0_next q0_numbers q0_sort q0_done)) args s 0 0 (adr (wM E ad q0_why q0_detail q0_reasonNow q0_detailNow q0_w q0_undos q0_savedRow q0_mind q0_changes q0_firstChange q0_isSaved q0_at q0_line q0_lineLength q0_text q0_length q0_next q0_numbers q0_sort q0_done))) (F0 m 0 ls []) from hmain _ _ hH
  clear hH
  intro H locs hH
  rw [fM_weightAgain] at hf
  refine lv_aload_n hx hb dX9_weightAgain_0 rfl (lv_at hl 0 rfl) ?_
  refine lv_iload_n hx hb dX9_weightAgain_1 rfl (lv_at hl 1 rfl) ?_
  obtain ⟨t1, ht1, hf⟩ := ob hf
  refine k_PVi hC LX9_89 ⟨Nat.le_of_ble_eq_true rfl, Nat.le_of_ble_eq_true rfl⟩ ⟨Nat.zero_le _, Nat.zero_le _⟩ (cM_isLetter l E ad q0_why q0_detail q0_reasonNow q0_detailNow q0_w q0_undos q0_savedRow q0_mind q0_changes q0_firstChange q0_isSaved q0_at q0_line q0_lineLength q0_text q0_length q0_next q0_numbers q0_sort q0_done a1 t1 ht1) rfl rfl hH.1 rfl rfl hl.1 rfl (Nat.le_of_ble_eq_true rfl) rfl dX9_weightAgain_2 (fun hz2 => ?_)
  refine lv_if_ne (tgt := 11) hx hb dX9_weightAgain_5 (by decide) (fun c2 => ?_) (fun c2 => ?_)
  · have hf := ite_f hf c2
    refine lv_aload_n hx hb dX9_weightAgain_11 rfl (lv_at hl 0 rfl) ?_
    obtain ⟨t3, ht3, hf⟩ := ob hf
    refine k_WVsv hC LX9_127 ⟨Nat.le_of_ble_eq_true rfl, Nat.le_of_ble_eq_true rfl⟩ ⟨Nat.zero_le _, Nat.zero_le _⟩ (cM_findsRows l E ad q0_why q0_detail q0_reasonNow q0_detailNow q0_w q0_undos q0_savedRow q0_mind q0_changes q0_firstChange q0_isSaved q0_at q0_line q0_lineLength q0_text q0_length q0_next q0_numbers q0_sort q0_done t3 ht3) rfl rfl hH rfl rfl rfl hl.1 rfl (Nat.le_of_ble_eq_true rfl) rfl dX9_weightAgain_12 (fun H locs hz12 hH => ?_)
    have hH : Hp E (adr (wM E ad q0_why q0_detail q0_reasonNow q0_detailNow q0_w q0_undos q0_savedRow q0_mind q0_changes q0_firstChange q0_isSaved q0_at q0_line q0_lineLength q0_text q0_length q0_next q0_numbers q0_sort q0_done)) (wM E ad q0_why q0_detail q0_reasonNow q0_detailNow q0_w q0_undos q0_savedRow q0_mind q0_changes q0_firstChange q0_isSaved t3 q0_line q0_lineLength q0_text q0_length q0_next q0_numbers q0_sort q0_done) s.heap H locs := hH
    refine lv_aload_n hx hb dX9_weightAgain_15 rfl (lv_at hl 0 rfl) ?_
    refine lv_iload_n hx hb dX9_weightAgain_16 rfl (lv_at hl 1 rfl) ?_
    obtain ⟨t4, ht4, hf⟩ := ob hf
    refine k_PVi hC LX9_142 ⟨Nat.le_of_ble_eq_true rfl, Nat.le_of_ble_eq_true rfl⟩ ⟨Nat.zero_le _, Nat.zero_le _⟩ (cM_byBits l E ad q0_why q0_detail q0_reasonNow q0_detailNow q0_w q0_undos q0_savedRow q0_mind q0_changes q0_firstChange q0_isSaved t3 q0_line q0_lineLength q0_text q0_length q0_next q0_numbers q0_sort q0_done a1 t4 ht4) rfl rfl hH.1 rfl rfl hl.1 rfl (Nat.le_of_ble_eq_true rfl) rfl dX9_weightAgain_17 (fun hz17 => ?_)
    have hf := Option.some.inj hf
    subst hf
    exact e_Wi hC hH hr hlocks rfl rfl dX9_weightAgain_20
  · have hf := ite_t hf c2
    refine lv_bipush (v := (-11)) hx hb dX9_weightAgain_8 (by decide) ?_
    have hf := Option.some.inj hf
    subst hf
    exact e_Wi hC hH hr hlocks rfl rfl dX9_weightAgain_10
