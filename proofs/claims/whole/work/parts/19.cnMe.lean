abbrev rmM_isPart : Room := { frames := 0, cells := 0, slots := 0, locals := 0 }
set_option maxHeartbeats 4000000 in
set_option maxRecDepth 100000 in
theorem cM_isPart (l : Launch) (E : eE) (ad : Nat → Nat) (q0_why : Int32) (q0_detail : Int32) (q0_reasonNow : Int32) (q0_detailNow : Int32) (q0_w : (Nat → Int32)) (q0_undos : (Nat → Int32)) (q0_savedRow : (Nat → Int32)) (q0_mind : (Nat → Int32)) (q0_changes : Int32) (q0_firstChange : Int32) (q0_isSaved : Int32) (q0_at : (Nat → Int32)) (q0_line : (Nat → Int32)) (q0_lineLength : Int32) (q0_text : (Nat → Int32)) (q0_length : Int32) (q0_next : Int32) (q0_numbers : (Nat → Int32)) (q0_sort : Int32) (q0_done : Int32) (a1 : Int32) (a2 : Int32) (r : Int32) (hf : fM_isPart q0_w a1 a2 = some r) : cP l E yX9_isPart cX9_isPart 3 (some .boolean) rmM_isPart [.ref (ad 0), .int a1, .int a2] (wM E ad q0_why q0_detail q0_reasonNow q0_detailNow q0_w q0_undos q0_savedRow q0_mind q0_changes q0_firstChange q0_isSaved q0_at q0_line q0_lineLength q0_text q0_length q0_next q0_numbers q0_sort q0_done) (some (.int r)) := by
  refine Met.ofW (cc := cX9_isPart) (maxL := 3) (ret := (some .boolean)) (by decide) rfl ?_
  intro p e s m args below meth c s₁ B hml hv
  obtain ⟨hargs, hP, hK⟩ := hv
  have hx := B.exec
  have hb := B.bytes
  have hr := B.returns
  have hts := atoms_spec (ws := ws_ yX9_isPart cX9_isPart 3 (some .boolean)) B.pre
  have hta : ∀ w ∈ lw_all, w.before args s = true := fun w h => hts w (List.mem_cons_of_mem _ h)
  have hown : s.vm.findClass RX9 = some m.cls := findClass_of_methodNamed B.named
  have hlocks := B.notSynchronized
  have hC : Cx p s m args c cX9_isPart 3 RX9 E := ⟨hx, hb, hml, hown, hta, hK⟩
  obtain ⟨ls, he, hl⟩ := entry_ (m := m) (n := 3) hargs (Nat.le_of_ble_eq_true rfl)
  rw [he]
  have hl : lv_has ls 3 [(0, .ref (ad 0)), (1, .int a1), (2, .int a2)] := hl
  show W p l e rmM_isPart s m args below meth c s.heap [] 0 0 (MQ below (qP (some .boolean) (some (.int r))) args s 0 0 (fun _ => False)) (F0 m 0 ls [])
  rw [fM_isPart] at hf
  refine lv_iconst (v := 0) hx hb dX9_isPart_0 (by decide) ?_
  refine lv_iload_n hx hb dX9_isPart_1 rfl (lv_at hl 1 rfl) ?_
  refine lv_icmp_gt (tgt := 24) hx hb dX9_isPart_2 (by decide) (fun c1 => ?_) (fun c1 => ?_)
  · have hf := ite_t hf c1
    refine lv_iconst (v := 0) hx hb dX9_isPart_24 (by decide) ?_
    have hf := Option.some.inj hf
    exact e_Pz hC hr hlocks hf rfl dX9_isPart_25
  · have hf := ite_f hf c1
    refine lv_iload_n hx hb dX9_isPart_5 rfl (lv_at hl 1 rfl) ?_
    refine lv_iload_n hx hb dX9_isPart_6 rfl (lv_at hl 2 rfl) ?_
    refine lv_icmp_gt (tgt := 24) hx hb dX9_isPart_7 (by decide) (fun c2 => ?_) (fun c2 => ?_)
    · have hf := ite_t hf c2
      refine lv_iconst (v := 0) hx hb dX9_isPart_24 (by decide) ?_
      have hf := Option.some.inj hf
      exact e_Pz hC hr hlocks hf rfl dX9_isPart_25
    · have hf := ite_f hf c2
      refine lv_iload_n hx hb dX9_isPart_10 rfl (lv_at hl 2 rfl) ?_
      refine lv_aload_n hx hb dX9_isPart_11 rfl (lv_at hl 0 rfl) ?_
      refine gX9_7 hC hP 0 rfl (v := .ref (ad 1)) rfl dX9_isPart_12 ?_
      refine lv_iconst (v := 0) hx hb dX9_isPart_15 (by decide) ?_
      obtain ⟨v3, hv3, hf⟩ := ob hf
      obtain ⟨hv3a, hv3b⟩ := ldA_ok hv3
      refine a_ild hC hP 1 rfl hv3a hv3b dX9_isPart_16 ?_
      refine lv_icmp_gt (tgt := 24) hx hb dX9_isPart_17 (by decide) (fun c4 => ?_) (fun c4 => ?_)
      · have hf := ite_t hf c4
        refine lv_iconst (v := 0) hx hb dX9_isPart_24 (by decide) ?_
        have hf := Option.some.inj hf
        exact e_Pz hC hr hlocks hf rfl dX9_isPart_25
      · have hf := ite_f hf c4
        refine lv_iconst (v := 1) hx hb dX9_isPart_20 (by decide) ?_
        refine lv_goto (tgt := 25) hx hb dX9_isPart_21 (by decide) ?_
        have hf := Option.some.inj hf
        exact e_Pz hC hr hlocks hf rfl dX9_isPart_25
abbrev rmM_having : Room := { frames := 1, cells := 0, slots := 0, locals := 21 }
set_option maxHeartbeats 4000000 in
set_option maxRecDepth 100000 in
theorem cM_having (l : Launch) (E : eE) (ad : Nat → Nat) (q0_why : Int32) (q0_detail : Int32) (q0_reasonNow : Int32) (q0_detailNow : Int32) (q0_w : (Nat → Int32)) (q0_undos : (Nat → Int32)) (q0_savedRow : (Nat → Int32)) (q0_mind : (Nat → Int32)) (q0_changes : Int32) (q0_firstChange : Int32) (q0_isSaved : Int32) (q0_at : (Nat → Int32)) (q0_line : (Nat → Int32)) (q0_lineLength : Int32) (q0_text : (Nat → Int32)) (q0_length : Int32) (q0_next : Int32) (q0_numbers : (Nat → Int32)) (q0_sort : Int32) (q0_done : Int32) (a1 : Int32) (a2 : Int32) (a3 : Int32) (r : Int32) (hf : fM_having q0_w a1 a2 a3 = some r) : cP l E yX9_having cX9_having 6 (some .int) rmM_having [.ref (ad 0), .int a1, .int a2, .int a3] (wM E ad q0_why q0_detail q0_reasonNow q0_detailNow q0_w q0_undos q0_savedRow q0_mind q0_changes q0_firstChange q0_isSaved q0_at q0_line q0_lineLength q0_text q0_length q0_next q0_numbers q0_sort q0_done) (some (.int r)) := by
  refine Met.ofW (cc := cX9_having) (maxL := 6) (ret := (some .int)) (by decide) rfl ?_
  intro p e s m args below meth c s₁ B hml hv
  obtain ⟨hargs, hP, hK⟩ := hv
  have hx := B.exec
  have hb := B.bytes
  have hr := B.returns
  have hts := atoms_spec (ws := ws_ yX9_having cX9_having 6 (some .int)) B.pre
  have hta : ∀ w ∈ lw_all, w.before args s = true := fun w h => hts w (List.mem_cons_of_mem _ h)
  have hown : s.vm.findClass RX9 = some m.cls := findClass_of_methodNamed B.named
  have hlocks := B.notSynchronized
  have hC : Cx p s m args c cX9_having 6 RX9 E := ⟨hx, hb, hml, hown, hta, hK⟩
  obtain ⟨ls, he, hl⟩ := entry_ (m := m) (n := 6) hargs (Nat.le_of_ble_eq_true rfl)
  rw [he]
  have hl : lv_has ls 6 [(0, .ref (ad 0)), (1, .int a1), (2, .int a2), (3, .int a3)] := hl
  show W p l e rmM_having s m args below meth c s.heap [] 0 0 (MQ below (qP (some .int) (some (.int r))) args s 0 0 (fun _ => False)) (F0 m 0 ls [])
  have L6 : ∀ (n : Nat) (a2 : Int32) (a3 : Int32) (a4 : Int32) (a5 : Int32) (ls : Array Slot), lv_has ls 6 [(0, .ref (ad 0)), (2, .int a2), (3, .int a3), (4, .int a4), (5, .int a5)] → fM_having_6 n q0_w a2 a3 a4 a5 = some r → W p l e rmM_having s m args below meth c s.heap [] 0 0 (MQ below (qP (some .int) (some (.int r))) args s 0 0 (fun _ => False)) (F0 m 6 ls []) := by
    intro n
    induction n with
    | zero => intro a2 a3 a4 a5 ls hl hf; cases hf
    | succ n ih =>
      intro a2 a3 a4 a5 ls hl hf
      rw [fM_having_6] at hf
      refine lv_iload hx hb dX9_having_6 (lv_at hl 4 rfl) ?_
      refine lv_iload_n hx hb dX9_having_8 rfl (lv_at hl 1 rfl) ?_
      refine lv_icmp_ge (tgt := 38) hx hb dX9_having_9 (by decide) (fun c1 => ?_) (fun c1 => ?_)
      · have hf := ite_t hf c1
        refine lv_iload hx hb dX9_having_38 (lv_at hl 3 rfl) ?_
        have hf := Option.some.inj hf
        exact e_Pi hC hr hlocks hf dX9_having_40
      · have hf := ite_f hf c1
        refine lv_iload hx hb dX9_having_12 (lv_at hl 3 rfl) ?_
        refine lv_aload_n hx hb dX9_having_14 rfl (lv_at hl 0 rfl) ?_
        refine lv_iload hx hb dX9_having_15 (lv_at hl 4 rfl) ?_
        obtain ⟨t2, ht2, hf⟩ := ob hf
        refine k_PVi hC LX9_86 ⟨Nat.le_of_ble_eq_true rfl, Nat.le_of_ble_eq_true rfl⟩ ⟨Nat.zero_le _, Nat.zero_le _⟩ (cM_is l E ad q0_why q0_detail q0_reasonNow q0_detailNow q0_w q0_undos q0_savedRow q0_mind q0_changes q0_firstChange q0_isSaved q0_at q0_line q0_lineLength q0_text q0_length q0_next q0_numbers q0_sort q0_done a5 t2 ht2) rfl rfl hP rfl rfl hl.1 rfl (Nat.le_of_ble_eq_true rfl) rfl dX9_having_17 (fun hz17 => ?_)
        refine lv_iload_n hx hb dX9_having_20 rfl (lv_at hl 2 rfl) ?_
        refine lv_icmp_ne (tgt := 28) hx hb dX9_having_21 (by decide) (fun c3 => ?_) (fun c3 => ?_)
        · have hf := ite_f hf c3
          refine lv_iconst (v := 0) hx hb dX9_having_28 (by decide) ?_
          refine lv_iadd hx hb dX9_having_29 ?_
          refine lv_istore (lv' := [(4, .int (a4 + (0 : Int32))), (0, .ref (ad 0)), (2, .int a2), (3, .int a3), (5, .int a5)]) hx hb dX9_having_30 hl (by decide) rfl (fun ls hl => ?_)
          refine lv_iinc (v := (a5 + (1 : Int32))) (lv' := [(5, .int (a5 + (1 : Int32))), (4, .int (a4 + (0 : Int32))), (0, .ref (ad 0)), (2, .int a2), (3, .int a3)]) hx hb dX9_having_32 hl (k := 4) rfl rfl (by decide) rfl (fun ls hl => ?_)
          refine lv_goto (tgt := 6) hx hb dX9_having_35 (by decide) ?_
          exact ih a2 a3 (a4 + (0 : Int32)) (a5 + (1 : Int32)) ls (lv_sub hl [2, 3, 4, 1, 0] rfl) hf
        · have hf := ite_t hf c3
          refine lv_iconst (v := 1) hx hb dX9_having_24 (by decide) ?_
          refine lv_goto (tgt := 29) hx hb dX9_having_25 (by decide) ?_
          refine lv_iadd hx hb dX9_having_29 ?_
          refine lv_istore (lv' := [(4, .int (a4 + (1 : Int32))), (0, .ref (ad 0)), (2, .int a2), (3, .int a3), (5, .int a5)]) hx hb dX9_having_30 hl (by decide) rfl (fun ls hl => ?_)
          refine lv_iinc (v := (a5 + (1 : Int32))) (lv' := [(5, .int (a5 + (1 : Int32))), (4, .int (a4 + (1 : Int32))), (0, .ref (ad 0)), (2, .int a2), (3, .int a3)]) hx hb dX9_having_32 hl (k := 4) rfl rfl (by decide) rfl (fun ls hl => ?_)
          refine lv_goto (tgt := 6) hx hb dX9_having_35 (by decide) ?_
          exact ih a2 a3 (a4 + (1 : Int32)) (a5 + (1 : Int32)) ls (lv_sub hl [2, 3, 4, 1, 0] rfl) hf
  rw [fM_having] at hf
  refine lv_iconst (v := 0) hx hb dX9_having_0 (by decide) ?_
  refine lv_istore (lv' := [(4, .int (0 : Int32)), (0, .ref (ad 0)), (1, .int a1), (2, .int a2), (3, .int a3)]) hx hb dX9_having_1 hl (by decide) rfl (fun ls hl => ?_)
  refine lv_iload_n hx hb dX9_having_3 rfl (lv_at hl 2 rfl) ?_
  refine lv_istore (lv' := [(5, .int a1), (4, .int (0 : Int32)), (0, .ref (ad 0)), (1, .int a1), (2, .int a2), (3, .int a3)]) hx hb dX9_having_4 hl (by decide) rfl (fun ls hl => ?_)
  exact L6 FU a2 a3 (0 : Int32) a1 ls (lv_sub hl [2, 4, 5, 1, 0] rfl) hf
abbrev rmM_below : Room := { frames := 1, cells := 0, slots := 0, locals := 21 }
set_option maxHeartbeats 4000000 in
set_option maxRecDepth 100000 in
theorem cM_below (l : Launch) (E : eE) (ad : Nat → Nat) (q0_why : Int32) (q0_detail : Int32) (q0_reasonNow : Int32) (q0_detailNow : Int32) (q0_w : (Nat → Int32)) (q0_undos : (Nat → Int32)) (q0_savedRow : (Nat → Int32)) (q0_mind : (Nat → Int32)) (q0_changes : Int32) (q0_firstChange : Int32) (q0_isSaved : Int32) (q0_at : (Nat → Int32)) (q0_line : (Nat → Int32)) (q0_lineLength : Int32) (q0_text : (Nat → Int32)) (q0_length : Int32) (q0_next : Int32) (q0_numbers : (Nat → Int32)) (q0_sort : Int32) (q0_done : Int32) (a1 : Int32) (a2 : Int32) (a3 : Int32) (r : Int32) (hf : fM_below q0_w a1 a2 a3 = some r) : cP l E yX9_below cX9_below 6 (some .int) rmM_below [.ref (ad 0), .int a1, .int a2, .int a3] (wM E ad q0_why q0_detail q0_reasonNow q0_detailNow q0_w q0_undos q0_savedRow q0_mind q0_changes q0_firstChange q0_isSaved q0_at q0_line q0_lineLength q0_text q0_length q0_next q0_numbers q0_sort q0_done) (some (.int r)) := by
  refine Met.ofW (cc := cX9_below) (maxL := 6) (ret := (some .int)) (by decide) rfl ?_
  intro p e s m args below meth c s₁ B hml hv
  obtain ⟨hargs, hP, hK⟩ := hv
  have hx := B.exec
  have hb := B.bytes
  have hr := B.returns
  have hts := atoms_spec (ws := ws_ yX9_below cX9_below 6 (some .int)) B.pre
  have hta : ∀ w ∈ lw_all, w.before args s = true := fun w h => hts w (List.mem_cons_of_mem _ h)
  have hown : s.vm.findClass RX9 = some m.cls := findClass_of_methodNamed B.named
  have hlocks := B.notSynchronized
  have hC : Cx p s m args c cX9_below 6 RX9 E := ⟨hx, hb, hml, hown, hta, hK⟩
  obtain ⟨ls, he, hl⟩ := entry_ (m := m) (n := 6) hargs (Nat.le_of_ble_eq_true rfl)
  rw [he]
  have hl : lv_has ls 6 [(0, .ref (ad 0)), (1, .int a1), (2, .int a2), (3, .int a3)] := hl
  show W p l e rmM_below s m args below meth c s.heap [] 0 0 (MQ below (qP (some .int) (some (.int r))) args s 0 0 (fun _ => False)) (F0 m 0 ls [])
  have L6 : ∀ (n : Nat) (a2 : Int32) (a3 : Int32) (a4 : Int32) (a5 : Int32) (ls : Array Slot), lv_has ls 6 [(0, .ref (ad 0)), (2, .int a2), (3, .int a3), (4, .int a4), (5, .int a5)] → fM_below_6 n q0_w a2 a3 a4 a5 = some r → W p l e rmM_below s m args below meth c s.heap [] 0 0 (MQ below (qP (some .int) (some (.int r))) args s 0 0 (fun _ => False)) (F0 m 6 ls []) := by
    intro n
    induction n with
    | zero => intro a2 a3 a4 a5 ls hl hf; cases hf
    | succ n ih =>
      intro a2 a3 a4 a5 ls hl hf
      rw [fM_below_6] at hf
      refine lv_iload hx hb dX9_below_6 (lv_at hl 4 rfl) ?_
      refine lv_iload_n hx hb dX9_below_8 rfl (lv_at hl 1 rfl) ?_
      refine lv_icmp_ge (tgt := 38) hx hb dX9_below_9 (by decide) (fun c1 => ?_) (fun c1 => ?_)
      · have hf := ite_t hf c1
        refine lv_iload hx hb dX9_below_38 (lv_at hl 3 rfl) ?_
        have hf := Option.some.inj hf
        exact e_Pi hC hr hlocks hf dX9_below_40
      · have hf := ite_f hf c1
        refine lv_iload hx hb dX9_below_12 (lv_at hl 3 rfl) ?_
        refine lv_aload_n hx hb dX9_below_14 rfl (lv_at hl 0 rfl) ?_
        refine lv_iload hx hb dX9_below_15 (lv_at hl 4 rfl) ?_
        obtain ⟨t2, ht2, hf⟩ := ob hf
        refine k_PVi hC LX9_86 ⟨Nat.le_of_ble_eq_true rfl, Nat.le_of_ble_eq_true rfl⟩ ⟨Nat.zero_le _, Nat.zero_le _⟩ (cM_is l E ad q0_why q0_detail q0_reasonNow q0_detailNow q0_w q0_undos q0_savedRow q0_mind q0_changes q0_firstChange q0_isSaved q0_at q0_line q0_lineLength q0_text q0_length q0_next q0_numbers q0_sort q0_done a5 t2 ht2) rfl rfl hP rfl rfl hl.1 rfl (Nat.le_of_ble_eq_true rfl) rfl dX9_below_17 (fun hz17 => ?_)
        refine lv_iload_n hx hb dX9_below_20 rfl (lv_at hl 2 rfl) ?_
        refine lv_icmp_ge (tgt := 28) hx hb dX9_below_21 (by decide) (fun c3 => ?_) (fun c3 => ?_)
        · have hf := ite_t hf c3
          refine lv_iconst (v := 0) hx hb dX9_below_28 (by decide) ?_
          refine lv_iadd hx hb dX9_below_29 ?_
          refine lv_istore (lv' := [(4, .int (a4 + (0 : Int32))), (0, .ref (ad 0)), (2, .int a2), (3, .int a3), (5, .int a5)]) hx hb dX9_below_30 hl (by decide) rfl (fun ls hl => ?_)
          refine lv_iinc (v := (a5 + (1 : Int32))) (lv' := [(5, .int (a5 + (1 : Int32))), (4, .int (a4 + (0 : Int32))), (0, .ref (ad 0)), (2, .int a2), (3, .int a3)]) hx hb dX9_below_32 hl (k := 4) rfl rfl (by decide) rfl (fun ls hl => ?_)
          refine lv_goto (tgt := 6) hx hb dX9_below_35 (by decide) ?_
          exact ih a2 a3 (a4 + (0 : Int32)) (a5 + (1 : Int32)) ls (lv_sub hl [2, 3, 4, 1, 0] rfl) hf
        · have hf := ite_f hf c3
          refine lv_iconst (v := 1) hx hb dX9_below_24 (by decide) ?_
          refine lv_goto (tgt := 29) hx hb dX9_below_25 (by decide) ?_
          refine lv_iadd hx hb dX9_below_29 ?_
          refine lv_istore (lv' := [(4, .int (a4 + (1 : Int32))), (0, .ref (ad 0)), (2, .int a2), (3, .int a3), (5, .int a5)]) hx hb dX9_below_30 hl (by decide) rfl (fun ls hl => ?_)
          refine lv_iinc (v := (a5 + (1 : Int32))) (lv' := [(5, .int (a5 + (1 : Int32))), (4, .int (a4 + (1 : Int32))), (0, .ref (ad 0)), (2, .int a2), (3, .int a3)]) hx hb dX9_below_32 hl (k := 4) rfl rfl (by decide) rfl (fun ls hl => ?_)
          refine lv_goto (tgt := 6) hx hb dX9_below_35 (by decide) ?_
          exact ih a2 a3 (a4 + (1 : Int32)) (a5 + (1 : Int32)) ls (lv_sub hl [2, 3, 4, 1, 0] rfl) hf
  rw [fM_below] at hf
  refine lv_iconst (v := 0) hx hb dX9_below_0 (by decide) ?_
  refine lv_istore (lv' := [(4, .int (0 : Int32)), (0, .ref (ad 0)), (1, .int a1), (2, .int a2), (3, .int a3)]) hx hb dX9_below_1 hl (by decide) rfl (fun ls hl => ?_)
  refine lv_iload_n hx hb dX9_below_3 rfl (lv_at hl 2 rfl) ?_
  refine lv_istore (lv' := [(5, .int a1), (4, .int (0 : Int32)), (0, .ref (ad 0)), (1, .int a1), (2, .int a2), (3, .int a3)]) hx hb dX9_below_4 hl (by decide) rfl (fun ls hl => ?_)
  exact L6 FU a2 a3 (0 : Int32) a1 ls (lv_sub hl [2, 4, 5, 1, 0] rfl) hf
abbrev rmM_bySize : Room := { frames := 2, cells := 0, slots := 0, locals := 46 }
set_option maxHeartbeats 4000000 in
set_option maxRecDepth 100000 in
theorem cM_bySize (l : Launch) (E : eE) (ad : Nat → Nat) (q0_why : Int32) (q0_detail : Int32) (q0_reasonNow : Int32) (q0_detailNow : Int32) (q0_w : (Nat → Int32)) (q0_undos : (Nat → Int32)) (q0_savedRow : (Nat → Int32)) (q0_mind : (Nat → Int32)) (q0_changes : Int32) (q0_firstChange : Int32) (q0_isSaved : Int32) (q0_at : (Nat → Int32)) (q0_line : (Nat → Int32)) (q0_lineLength : Int32) (q0_text : (Nat → Int32)) (q0_length : Int32) (q0_next : Int32) (q0_numbers : (Nat → Int32)) (q0_sort : Int32) (q0_done : Int32) (a1 : Int32) (a2 : Int32) (a3 : Int32) (r : Int32) (hf : fM_bySize q0_w a1 a2 a3 = some r) : cP l E yX9_bySize cX9_bySize 5 (some .int) rmM_bySize [.ref (ad 0), .int a1, .int a2, .int a3] (wM E ad q0_why q0_detail q0_reasonNow q0_detailNow q0_w q0_undos q0_savedRow q0_mind q0_changes q0_firstChange q0_isSaved q0_at q0_line q0_lineLength q0_text q0_length q0_next q0_numbers q0_sort q0_done) (some (.int r)) := by
  refine Met.ofW (cc := cX9_bySize) (maxL := 5) (ret := (some .int)) (by decide) rfl ?_
  intro p e s m args below meth c s₁ B hml hv
  obtain ⟨hargs, hP, hK⟩ := hv
  have hx := B.exec
  have hb := B.bytes
  have hr := B.returns
  have hts := atoms_spec (ws := ws_ yX9_bySize cX9_bySize 5 (some .int)) B.pre
  have hta : ∀ w ∈ lw_all, w.before args s = true := fun w h => hts w (List.mem_cons_of_mem _ h)
  have hown : s.vm.findClass RX9 = some m.cls := findClass_of_methodNamed B.named
  have hlocks := B.notSynchronized
  have hC : Cx p s m args c cX9_bySize 5 RX9 E := ⟨hx, hb, hml, hown, hta, hK⟩
  obtain ⟨ls, he, hl⟩ := entry_ (m := m) (n := 5) hargs (Nat.le_of_ble_eq_true rfl)
  rw [he]
  have hl : lv_has ls 5 [(0, .ref (ad 0)), (1, .int a1), (2, .int a2), (3, .int a3)] := hl
  show W p l e rmM_bySize s m args below meth c s.heap [] 0 0 (MQ below (qP (some .int) (some (.int r))) args s 0 0 (fun _ => False)) (F0 m 0 ls [])
  have L3 : ∀ (n : Nat) (a1 : Int32) (a2 : Int32) (a3 : Int32) (a4 : Int32) (ls : Array Slot), lv_has ls 5 [(0, .ref (ad 0)), (1, .int a1), (2, .int a2), (3, .int a3), (4, .int a4)] → fM_bySize_3 n q0_w a1 a2 a3 a4 = some r → W p l e rmM_bySize s m args below meth c s.heap [] 0 0 (MQ below (qP (some .int) (some (.int r))) args s 0 0 (fun _ => False)) (F0 m 3 ls []) := by
    intro n
    induction n with
    | zero => intro a1 a2 a3 a4 ls hl hf; cases hf
    | succ n ih =>
      intro a1 a2 a3 a4 ls hl hf
      rw [fM_bySize_3] at hf
      refine lv_aload_n hx hb dX9_bySize_3 rfl (lv_at hl 0 rfl) ?_
      refine lv_iload_n hx hb dX9_bySize_4 rfl (lv_at hl 1 rfl) ?_
      refine lv_iload_n hx hb dX9_bySize_5 rfl (lv_at hl 2 rfl) ?_
      refine lv_iload hx hb dX9_bySize_6 (lv_at hl 4 rfl) ?_
      refine lv_iconst (v := 1) hx hb dX9_bySize_8 (by decide) ?_
      refine lv_iadd hx hb dX9_bySize_9 ?_
      obtain ⟨t1, ht1, hf⟩ := ob hf
      refine k_PVi hC LX9_145 ⟨Nat.le_of_ble_eq_true rfl, Nat.le_of_ble_eq_true rfl⟩ ⟨Nat.zero_le _, Nat.zero_le _⟩ (cM_below l E ad q0_why q0_detail q0_reasonNow q0_detailNow q0_w q0_undos q0_savedRow q0_mind q0_changes q0_firstChange q0_isSaved q0_at q0_line q0_lineLength q0_text q0_length q0_next q0_numbers q0_sort q0_done a1 a2 (a4 + (1 : Int32)) t1 ht1) rfl rfl hP rfl rfl hl.1 rfl (Nat.le_of_ble_eq_true rfl) rfl dX9_bySize_10 (fun hz10 => ?_)
      refine lv_iload_n hx hb dX9_bySize_13 rfl (lv_at hl 3 rfl) ?_
      refine lv_icmp_gt (tgt := 23) hx hb dX9_bySize_14 (by decide) (fun c2 => ?_) (fun c2 => ?_)
      · have hf := ite_t hf c2
        refine lv_iload hx hb dX9_bySize_23 (lv_at hl 4 rfl) ?_
        have hf := Option.some.inj hf
        exact e_Pi hC hr hlocks hf dX9_bySize_25
      · have hf := ite_f hf c2
        refine lv_iinc (v := (a4 + (1 : Int32))) (lv' := [(4, .int (a4 + (1 : Int32))), (0, .ref (ad 0)), (1, .int a1), (2, .int a2), (3, .int a3)]) hx hb dX9_bySize_17 hl (k := 4) rfl rfl (by decide) rfl (fun ls hl => ?_)
        refine lv_goto (tgt := 3) hx hb dX9_bySize_20 (by decide) ?_
        exact ih a1 a2 a3 (a4 + (1 : Int32)) ls (lv_sub hl [1, 2, 3, 4, 0] rfl) hf
  rw [fM_bySize] at hf
  refine lv_iconst (v := 0) hx hb dX9_bySize_0 (by decide) ?_
  refine lv_istore (lv' := [(4, .int (0 : Int32)), (0, .ref (ad 0)), (1, .int a1), (2, .int a2), (3, .int a3)]) hx hb dX9_bySize_1 hl (by decide) rfl (fun ls hl => ?_)
  exact L3 FU a1 a2 a3 (0 : Int32) ls (lv_sub hl [1, 2, 3, 4, 0] rfl) hf
abbrev rmM_isSized : Room := { frames := 1, cells := 0, slots := 0, locals := 22 }
set_option maxHeartbeats 4000000 in
set_option maxRecDepth 100000 in
theorem cM_isSized (l : Launch) (E : eE) (ad : Nat → Nat) (q0_why : Int32) (q0_detail : Int32) (q0_reasonNow : Int32) (q0_detailNow : Int32) (q0_w : (Nat → Int32)) (q0_undos : (Nat → Int32)) (q0_savedRow : (Nat → Int32)) (q0_mind : (Nat → Int32)) (q0_changes : Int32) (q0_firstChange : Int32) (q0_isSaved : Int32) (q0_at : (Nat → Int32)) (q0_line : (Nat → Int32)) (q0_lineLength : Int32) (q0_text : (Nat → Int32)) (q0_length : Int32) (q0_next : Int32) (q0_numbers : (Nat → Int32)) (q0_sort : Int32) (q0_done : Int32) (a1 : Int32) (a2 : Int32) (a3 : Int32) (r : Int32) (hf : fM_isSized q0_w a1 a2 a3 = some r) : cP l E yX9_isSized cX9_isSized 4 (some .boolean) rmM_isSized [.ref (ad 0), .int a1, .int a2, .int a3] (wM E ad q0_why q0_detail q0_reasonNow q0_detailNow q0_w q0_undos q0_savedRow q0_mind q0_changes q0_firstChange q0_isSaved q0_at q0_line q0_lineLength q0_text q0_length q0_next q0_numbers q0_sort q0_done) (some (.int r)) := by
  refine Met.ofW (cc := cX9_isSized) (maxL := 4) (ret := (some .boolean)) (by decide) rfl ?_
  intro p e s m args below meth c s₁ B hml hv
  obtain ⟨hargs, hP, hK⟩ := hv
  have hx := B.exec
  have hb := B.bytes
  have hr := B.returns
  have hts := atoms_spec (ws := ws_ yX9_isSized cX9_isSized 4 (some .boolean)) B.pre
  have hta : ∀ w ∈ lw_all, w.before args s = true := fun w h => hts w (List.mem_cons_of_mem _ h)
  have hown : s.vm.findClass RX9 = some m.cls := findClass_of_methodNamed B.named
  have hlocks := B.notSynchronized
  have hC : Cx p s m args c cX9_isSized 4 RX9 E := ⟨hx, hb, hml, hown, hta, hK⟩
  obtain ⟨ls, he, hl⟩ := entry_ (m := m) (n := 4) hargs (Nat.le_of_ble_eq_true rfl)
  rw [he]
  have hl : lv_has ls 4 [(0, .ref (ad 0)), (1, .int a1), (2, .int a2), (3, .int a3)] := hl
  show W p l e rmM_isSized s m args below meth c s.heap [] 0 0 (MQ below (qP (some .boolean) (some (.int r))) args s 0 0 (fun _ => False)) (F0 m 0 ls [])
  rw [fM_isSized] at hf
  refine lv_aload_n hx hb dX9_isSized_0 rfl (lv_at hl 0 rfl) ?_
  refine lv_iload_n hx hb dX9_isSized_1 rfl (lv_at hl 1 rfl) ?_
  refine lv_iload_n hx hb dX9_isSized_2 rfl (lv_at hl 2 rfl) ?_
  obtain ⟨t1, ht1, hf⟩ := ob hf
  refine k_PVi hC LX9_148 ⟨Nat.le_of_ble_eq_true rfl, Nat.le_of_ble_eq_true rfl⟩ ⟨Nat.zero_le _, Nat.zero_le _⟩ (cM_isPart l E ad q0_why q0_detail q0_reasonNow q0_detailNow q0_w q0_undos q0_savedRow q0_mind q0_changes q0_firstChange q0_isSaved q0_at q0_line q0_lineLength q0_text q0_length q0_next q0_numbers q0_sort q0_done a1 a2 t1 ht1) rfl rfl hP rfl rfl hl.1 rfl (Nat.le_of_ble_eq_true rfl) rfl dX9_isSized_3 (fun hz3 => ?_)
  refine lv_if_eq (tgt := 26) hx hb dX9_isSized_6 (by decide) (fun c2 => ?_) (fun c2 => ?_)
  · have hf := ite_t hf c2
    refine lv_iconst (v := 0) hx hb dX9_isSized_26 (by decide) ?_
    have hf := Option.some.inj hf
    exact e_Pz hC hr hlocks hf rfl dX9_isSized_27
  · have hf := ite_f hf c2
    refine lv_iload_n hx hb dX9_isSized_9 rfl (lv_at hl 3 rfl) ?_
    refine lv_iconst (v := 0) hx hb dX9_isSized_10 (by decide) ?_
    refine lv_iload_n hx hb dX9_isSized_11 rfl (lv_at hl 2 rfl) ?_
    refine lv_iload_n hx hb dX9_isSized_12 rfl (lv_at hl 1 rfl) ?_
    refine lv_isub hx hb dX9_isSized_13 ?_
    refine lv_iconst (v := 1) hx hb dX9_isSized_14 (by decide) ?_
    refine lv_isub hx hb dX9_isSized_15 ?_
    refine k_PSi hC LX9_60 ⟨Nat.le_of_ble_eq_true rfl, Nat.le_of_ble_eq_true rfl⟩ ⟨Nat.zero_le _, Nat.zero_le _⟩ (cM_isBetween l E a3 (0 : Int32) ((a2 - a1) - (1 : Int32)) _ rfl) rfl rfl (vP_nil) hl.1 rfl (Nat.le_of_ble_eq_true rfl) rfl dX9_isSized_16 (fun hz16 => ?_)
    refine lv_if_eq (tgt := 26) hx hb dX9_isSized_19 (by decide) (fun c3 => ?_) (fun c3 => ?_)
    · have hf := ite_t hf c3
      refine lv_iconst (v := 0) hx hb dX9_isSized_26 (by decide) ?_
      have hf := Option.some.inj hf
      exact e_Pz hC hr hlocks hf rfl dX9_isSized_27
    · have hf := ite_f hf c3
      refine lv_iconst (v := 1) hx hb dX9_isSized_22 (by decide) ?_
      refine lv_goto (tgt := 27) hx hb dX9_isSized_23 (by decide) ?_
      have hf := Option.some.inj hf
      exact e_Pz hC hr hlocks hf rfl dX9_isSized_27
abbrev rmM_quantile : Room := { frames := 3, cells := 0, slots := 0, locals := 70 }
set_option maxHeartbeats 4000000 in
set_option maxRecDepth 100000 in
theorem cM_quantile (l : Launch) (E : eE) (ad : Nat → Nat) (q0_why : Int32) (q0_detail : Int32) (q0_reasonNow : Int32) (q0_detailNow : Int32) (q0_w : (Nat → Int32)) (q0_undos : (Nat → Int32)) (q0_savedRow : (Nat → Int32)) (q0_mind : (Nat → Int32)) (q0_changes : Int32) (q0_firstChange : Int32) (q0_isSaved : Int32) (q0_at : (Nat → Int32)) (q0_line : (Nat → Int32)) (q0_lineLength : Int32) (q0_text : (Nat → Int32)) (q0_length : Int32) (q0_next : Int32) (q0_numbers : (Nat → Int32)) (q0_sort : Int32) (q0_done : Int32) (a1 : Int32) (a2 : Int32) (a3 : Int32) (r : Int32) (hf : fM_quantile q0_w a1 a2 a3 = some r) : cP l E yX9_quantile cX9_quantile 4 (some .int) rmM_quantile [.ref (ad 0), .int a1, .int a2, .int a3] (wM E ad q0_why q0_detail q0_reasonNow q0_detailNow q0_w q0_undos q0_savedRow q0_mind q0_changes q0_firstChange q0_isSaved q0_at q0_line q0_lineLength q0_text q0_length q0_next q0_numbers q0_sort q0_done) (some (.int r)) := by
  refine Met.ofW (cc := cX9_quantile) (maxL := 4) (ret := (some .int)) (by decide) rfl ?_
  intro p e s m args below meth c s₁ B hml hv
  obtain ⟨hargs, hP, hK⟩ := hv
  have hx := B.exec
  have hb := B.bytes
  have hr := B.returns
  have hts := atoms_spec (ws := ws_ yX9_quantile cX9_quantile 4 (some .int)) B.pre
  have hta : ∀ w ∈ lw_all, w.before args s = true := fun w h => hts w (List.mem_cons_of_mem _ h)
  have hown : s.vm.findClass RX9 = some m.cls := findClass_of_methodNamed B.named
  have hlocks := B.notSynchronized
  have hC : Cx p s m args c cX9_quantile 4 RX9 E := ⟨hx, hb, hml, hown, hta, hK⟩
  obtain ⟨ls, he, hl⟩ := entry_ (m := m) (n := 4) hargs (Nat.le_of_ble_eq_true rfl)
  rw [he]
  have hl : lv_has ls 4 [(0, .ref (ad 0)), (1, .int a1), (2, .int a2), (3, .int a3)] := hl
  show W p l e rmM_quantile s m args below meth c s.heap [] 0 0 (MQ below (qP (some .int) (some (.int r))) args s 0 0 (fun _ => False)) (F0 m 0 ls [])
  rw [fM_quantile] at hf
  refine lv_aload_n hx hb dX9_quantile_0 rfl (lv_at hl 0 rfl) ?_
  refine lv_iload_n hx hb dX9_quantile_1 rfl (lv_at hl 1 rfl) ?_
  refine lv_iload_n hx hb dX9_quantile_2 rfl (lv_at hl 2 rfl) ?_
  refine lv_iload_n hx hb dX9_quantile_3 rfl (lv_at hl 3 rfl) ?_
  obtain ⟨t1, ht1, hf⟩ := ob hf
  refine k_PVi hC LX9_152 ⟨Nat.le_of_ble_eq_true rfl, Nat.le_of_ble_eq_true rfl⟩ ⟨Nat.zero_le _, Nat.zero_le _⟩ (cM_isSized l E ad q0_why q0_detail q0_reasonNow q0_detailNow q0_w q0_undos q0_savedRow q0_mind q0_changes q0_firstChange q0_isSaved q0_at q0_line q0_lineLength q0_text q0_length q0_next q0_numbers q0_sort q0_done a1 a2 a3 t1 ht1) rfl rfl hP rfl rfl hl.1 rfl (Nat.le_of_ble_eq_true rfl) rfl dX9_quantile_4 (fun hz4 => ?_)
  refine lv_if_eq (tgt := 20) hx hb dX9_quantile_7 (by decide) (fun c2 => ?_) (fun c2 => ?_)
  · have hf := ite_t hf c2
    refine lv_bipush (v := (-11)) hx hb dX9_quantile_20 (by decide) ?_
    have hf := Option.some.inj hf
    exact e_Pi hC hr hlocks hf dX9_quantile_22
  · have hf := ite_f hf c2
    refine lv_aload_n hx hb dX9_quantile_10 rfl (lv_at hl 0 rfl) ?_
    refine lv_iload_n hx hb dX9_quantile_11 rfl (lv_at hl 1 rfl) ?_
    refine lv_iload_n hx hb dX9_quantile_12 rfl (lv_at hl 2 rfl) ?_
    refine lv_iload_n hx hb dX9_quantile_13 rfl (lv_at hl 3 rfl) ?_
    obtain ⟨t3, ht3, hf⟩ := ob hf
    refine k_PVi hC LX9_155 ⟨Nat.le_of_ble_eq_true rfl, Nat.le_of_ble_eq_true rfl⟩ ⟨Nat.zero_le _, Nat.zero_le _⟩ (cM_bySize l E ad q0_why q0_detail q0_reasonNow q0_detailNow q0_w q0_undos q0_savedRow q0_mind q0_changes q0_firstChange q0_isSaved q0_at q0_line q0_lineLength q0_text q0_length q0_next q0_numbers q0_sort q0_done a1 a2 a3 t3 ht3) rfl rfl hP rfl rfl hl.1 rfl (Nat.le_of_ble_eq_true rfl) rfl dX9_quantile_14 (fun hz14 => ?_)
    refine lv_goto (tgt := 22) hx hb dX9_quantile_17 (by decide) ?_
    have hf := Option.some.inj hf
    exact e_Pi hC hr hlocks hf dX9_quantile_22
abbrev rmM_bySizeAgain : Room := { frames := 2, cells := 0, slots := 0, locals := 46 }
set_option maxHeartbeats 4000000 in
set_option maxRecDepth 100000 in
theorem cM_bySizeAgain (l : Launch) (E : eE) (ad : Nat → Nat) (q0_why : Int32) (q0_detail : Int32) (q0_reasonNow : Int32) (q0_detailNow : Int32) (q0_w : (Nat → Int32)) (q0_undos : (Nat → Int32)) (q0_savedRow : (Nat → Int32)) (q0_mind : (Nat → Int32)) (q0_changes : Int32) (q0_firstChange : Int32) (q0_isSaved : Int32) (q0_at : (Nat → Int32)) (q0_line : (Nat → Int32)) (q0_lineLength : Int32) (q0_text : (Nat → Int32)) (q0_length : Int32) (q0_next : Int32) (q0_numbers : (Nat → Int32)) (q0_sort : Int32) (q0_done : Int32) (a1 : Int32) (a2 : Int32) (a3 : Int32) (r : Int32) (hf : fM_bySizeAgain q0_w a1 a2 a3 = some r) : cP l E yX9_bySizeAgain cX9_bySizeAgain 5 (some .int) rmM_bySizeAgain [.ref (ad 0), .int a1, .int a2, .int a3] (wM E ad q0_why q0_detail q0_reasonNow q0_detailNow q0_w q0_undos q0_savedRow q0_mind q0_changes q0_firstChange q0_isSaved q0_at q0_line q0_lineLength q0_text q0_length q0_next q0_numbers q0_sort q0_done) (some (.int r)) := by
  refine Met.ofW (cc := cX9_bySizeAgain) (maxL := 5) (ret := (some .int)) (by decide) rfl ?_
  intro p e s m args below meth c s₁ B hml hv
  obtain ⟨hargs, hP, hK⟩ := hv
  have hx := B.exec
  have hb := B.bytes
  have hr := B.returns
  have hts := atoms_spec (ws := ws_ yX9_bySizeAgain cX9_bySizeAgain 5 (some .int)) B.pre
  have hta : ∀ w ∈ lw_all, w.before args s = true := fun w h => hts w (List.mem_cons_of_mem _ h)
  have hown : s.vm.findClass RX9 = some m.cls := findClass_of_methodNamed B.named
  have hlocks := B.notSynchronized
  have hC : Cx p s m args c cX9_bySizeAgain 5 RX9 E := ⟨hx, hb, hml, hown, hta, hK⟩
  obtain ⟨ls, he, hl⟩ := entry_ (m := m) (n := 5) hargs (Nat.le_of_ble_eq_true rfl)
  rw [he]
  have hl : lv_has ls 5 [(0, .ref (ad 0)), (1, .int a1), (2, .int a2), (3, .int a3)] := hl
  show W p l e rmM_bySizeAgain s m args below meth c s.heap [] 0 0 (MQ below (qP (some .int) (some (.int r))) args s 0 0 (fun _ => False)) (F0 m 0 ls [])
  have L3 : ∀ (n : Nat) (a1 : Int32) (a2 : Int32) (a3 : Int32) (a4 : Int32) (ls : Array Slot), lv_has ls 5 [(0, .ref (ad 0)), (1, .int a1), (2, .int a2), (3, .int a3), (4, .int a4)] → fM_bySizeAgain_3 n q0_w a1 a2 a3 a4 = some r → W p l e rmM_bySizeAgain s m args below meth c s.heap [] 0 0 (MQ below (qP (some .int) (some (.int r))) args s 0 0 (fun _ => False)) (F0 m 3 ls []) := by
    intro n
    induction n with
    | zero => intro a1 a2 a3 a4 ls hl hf; cases hf
    | succ n ih =>
      intro a1 a2 a3 a4 ls hl hf
      rw [fM_bySizeAgain_3] at hf
      refine lv_iload hx hb dX9_bySizeAgain_3 (lv_at hl 4 rfl) ?_
      refine lv_iload_n hx hb dX9_bySizeAgain_5 rfl (lv_at hl 2 rfl) ?_
      refine lv_icmp_ge (tgt := 52) hx hb dX9_bySizeAgain_6 (by decide) (fun c1 => ?_) (fun c1 => ?_)
      · have hf := ite_t hf c1
        refine lv_bipush (v := (-11)) hx hb dX9_bySizeAgain_52 (by decide) ?_
        have hf := Option.some.inj hf
        exact e_Pi hC hr hlocks hf dX9_bySizeAgain_54
      · have hf := ite_f hf c1
        refine lv_aload_n hx hb dX9_bySizeAgain_9 rfl (lv_at hl 0 rfl) ?_
        refine lv_iload_n hx hb dX9_bySizeAgain_10 rfl (lv_at hl 1 rfl) ?_
        refine lv_iload_n hx hb dX9_bySizeAgain_11 rfl (lv_at hl 2 rfl) ?_
        refine lv_aload_n hx hb dX9_bySizeAgain_12 rfl (lv_at hl 0 rfl) ?_
        refine lv_iload hx hb dX9_bySizeAgain_13 (lv_at hl 4 rfl) ?_
        obtain ⟨t2, ht2, hf⟩ := ob hf
        refine k_PVi hC LX9_86 ⟨Nat.le_of_ble_eq_true rfl, Nat.le_of_ble_eq_true rfl⟩ ⟨Nat.zero_le _, Nat.zero_le _⟩ (cM_is l E ad q0_why q0_detail q0_reasonNow q0_detailNow q0_w q0_undos q0_savedRow q0_mind q0_changes q0_firstChange q0_isSaved q0_at q0_line q0_lineLength q0_text q0_length q0_next q0_numbers q0_sort q0_done a4 t2 ht2) rfl rfl hP rfl rfl hl.1 rfl (Nat.le_of_ble_eq_true rfl) rfl dX9_bySizeAgain_15 (fun hz15 => ?_)
        obtain ⟨t3, ht3, hf⟩ := ob hf
        refine k_PVi hC LX9_145 ⟨Nat.le_of_ble_eq_true rfl, Nat.le_of_ble_eq_true rfl⟩ ⟨Nat.zero_le _, Nat.zero_le _⟩ (cM_below l E ad q0_why q0_detail q0_reasonNow q0_detailNow q0_w q0_undos q0_savedRow q0_mind q0_changes q0_firstChange q0_isSaved q0_at q0_line q0_lineLength q0_text q0_length q0_next q0_numbers q0_sort q0_done a1 a2 t2 t3 ht3) rfl rfl hP rfl rfl hl.1 rfl (Nat.le_of_ble_eq_true rfl) rfl dX9_bySizeAgain_18 (fun hz18 => ?_)
        refine lv_aload_n hx hb dX9_bySizeAgain_21 rfl (lv_at hl 0 rfl) ?_
        refine lv_iload_n hx hb dX9_bySizeAgain_22 rfl (lv_at hl 1 rfl) ?_
        refine lv_iload hx hb dX9_bySizeAgain_23 (lv_at hl 4 rfl) ?_
        refine lv_aload_n hx hb dX9_bySizeAgain_25 rfl (lv_at hl 0 rfl) ?_
        refine lv_iload hx hb dX9_bySizeAgain_26 (lv_at hl 4 rfl) ?_
        obtain ⟨t4, ht4, hf⟩ := ob hf
        refine k_PVi hC LX9_86 ⟨Nat.le_of_ble_eq_true rfl, Nat.le_of_ble_eq_true rfl⟩ ⟨Nat.zero_le _, Nat.zero_le _⟩ (cM_is l E ad q0_why q0_detail q0_reasonNow q0_detailNow q0_w q0_undos q0_savedRow q0_mind q0_changes q0_firstChange q0_isSaved q0_at q0_line q0_lineLength q0_text q0_length q0_next q0_numbers q0_sort q0_done a4 t4 ht4) rfl rfl hP rfl rfl hl.1 rfl (Nat.le_of_ble_eq_true rfl) rfl dX9_bySizeAgain_28 (fun hz28 => ?_)
        obtain ⟨t5, ht5, hf⟩ := ob hf
        refine k_PVi hC LX9_158 ⟨Nat.le_of_ble_eq_true rfl, Nat.le_of_ble_eq_true rfl⟩ ⟨Nat.zero_le _, Nat.zero_le _⟩ (cM_having l E ad q0_why q0_detail q0_reasonNow q0_detailNow q0_w q0_undos q0_savedRow q0_mind q0_changes q0_firstChange q0_isSaved q0_at q0_line q0_lineLength q0_text q0_length q0_next q0_numbers q0_sort q0_done a1 a4 t4 t5 ht5) rfl rfl hP rfl rfl hl.1 rfl (Nat.le_of_ble_eq_true rfl) rfl dX9_bySizeAgain_31 (fun hz31 => ?_)
        refine lv_iadd hx hb dX9_bySizeAgain_34 ?_
        refine lv_iload_n hx hb dX9_bySizeAgain_35 rfl (lv_at hl 3 rfl) ?_
        refine lv_icmp_ne (tgt := 46) hx hb dX9_bySizeAgain_36 (by decide) (fun c6 => ?_) (fun c6 => ?_)
        · have hf := ite_f hf c6
          refine lv_iinc (v := (a4 + (1 : Int32))) (lv' := [(4, .int (a4 + (1 : Int32))), (0, .ref (ad 0)), (1, .int a1), (2, .int a2), (3, .int a3)]) hx hb dX9_bySizeAgain_46 hl (k := 4) rfl rfl (by decide) rfl (fun ls hl => ?_)
          refine lv_goto (tgt := 3) hx hb dX9_bySizeAgain_49 (by decide) ?_
          exact ih a1 a2 a3 (a4 + (1 : Int32)) ls (lv_sub hl [1, 2, 3, 4, 0] rfl) hf
        · have hf := ite_t hf c6
          refine lv_aload_n hx hb dX9_bySizeAgain_39 rfl (lv_at hl 0 rfl) ?_
          refine lv_iload hx hb dX9_bySizeAgain_40 (lv_at hl 4 rfl) ?_
          obtain ⟨t7, ht7, hf⟩ := ob hf
          refine k_PVi hC LX9_86 ⟨Nat.le_of_ble_eq_true rfl, Nat.le_of_ble_eq_true rfl⟩ ⟨Nat.zero_le _, Nat.zero_le _⟩ (cM_is l E ad q0_why q0_detail q0_reasonNow q0_detailNow q0_w q0_undos q0_savedRow q0_mind q0_changes q0_firstChange q0_isSaved q0_at q0_line q0_lineLength q0_text q0_length q0_next q0_numbers q0_sort q0_done a4 t7 ht7) rfl rfl hP rfl rfl hl.1 rfl (Nat.le_of_ble_eq_true rfl) rfl dX9_bySizeAgain_42 (fun hz42 => ?_)
          have hf := Option.some.inj hf
          exact e_Pi hC hr hlocks hf dX9_bySizeAgain_45
  rw [fM_bySizeAgain] at hf
  refine lv_iload_n hx hb dX9_bySizeAgain_0 rfl (lv_at hl 1 rfl) ?_
  refine lv_istore (lv' := [(4, .int a1), (0, .ref (ad 0)), (1, .int a1), (2, .int a2), (3, .int a3)]) hx hb dX9_bySizeAgain_1 hl (by decide) rfl (fun ls hl => ?_)
  exact L3 FU a1 a2 a3 a1 ls (lv_sub hl [1, 2, 3, 4, 0] rfl) hf
abbrev rmM_quantileAgain : Room := { frames := 3, cells := 0, slots := 0, locals := 70 }
set_option maxHeartbeats 4000000 in
set_option maxRecDepth 100000 in
theorem cM_quantileAgain (l : Launch) (E : eE) (ad : Nat → Nat) (q0_why : Int32) (q0_detail : Int32) (q0_reasonNow : Int32) (q0_detailNow : Int32) (q0_w : (Nat → Int32)) (q0_undos : (Nat → Int32)) (q0_savedRow : (Nat → Int32)) (q0_mind : (Nat → Int32)) (q0_changes : Int32) (q0_firstChange : Int32) (q0_isSaved : Int32) (q0_at : (Nat → Int32)) (q0_line : (Nat → Int32)) (q0_lineLength : Int32) (q0_text : (Nat → Int32)) (q0_length : Int32) (q0_next : Int32) (q0_numbers : (Nat → Int32)) (q0_sort : Int32) (q0_done : Int32) (a1 : Int32) (a2 : Int32) (a3 : Int32) (r : Int32) (hf : fM_quantileAgain q0_w a1 a2 a3 = some r) : cP l E yX9_quantileAgain cX9_quantileAgain 4 (some .int) rmM_quantileAgain [.ref (ad 0), .int a1, .int a2, .int a3] (wM E ad q0_why q0_detail q0_reasonNow q0_detailNow q0_w q0_undos q0_savedRow q0_mind q0_changes q0_firstChange q0_isSaved q0_at q0_line q0_lineLength q0_text q0_length q0_next q0_numbers q0_sort q0_done) (some (.int r)) := by
  refine Met.ofW (cc := cX9_quantileAgain) (maxL := 4) (ret := (some .int)) (by decide) rfl ?_
  intro p e s m args below meth c s₁ B hml hv
  obtain ⟨hargs, hP, hK⟩ := hv
  have hx := B.exec
  have hb := B.bytes
  have hr := B.returns
  have hts := atoms_spec (ws := ws_ yX9_quantileAgain cX9_quantileAgain 4 (some .int)) B.pre
  have hta : ∀ w ∈ lw_all, w.before args s = true := fun w h => hts w (List.mem_cons_of_mem _ h)
  have hown : s.vm.findClass RX9 = some m.cls := findClass_of_methodNamed B.named
  have hlocks := B.notSynchronized
  have hC : Cx p s m args c cX9_quantileAgain 4 RX9 E := ⟨hx, hb, hml, hown, hta, hK⟩
  obtain ⟨ls, he, hl⟩ := entry_ (m := m) (n := 4) hargs (Nat.le_of_ble_eq_true rfl)
  rw [he]
  have hl : lv_has ls 4 [(0, .ref (ad 0)), (1, .int a1), (2, .int a2), (3, .int a3)] := hl
  show W p l e rmM_quantileAgain s m args below meth c s.heap [] 0 0 (MQ below (qP (some .int) (some (.int r))) args s 0 0 (fun _ => False)) (F0 m 0 ls [])
  rw [fM_quantileAgain] at hf
  refine lv_aload_n hx hb dX9_quantileAgain_0 rfl (lv_at hl 0 rfl) ?_
  refine lv_iload_n hx hb dX9_quantileAgain_1 rfl (lv_at hl 1 rfl) ?_
  refine lv_iload_n hx hb dX9_quantileAgain_2 rfl (lv_at hl 2 rfl) ?_
  refine lv_iload_n hx hb dX9_quantileAgain_3 rfl (lv_at hl 3 rfl) ?_
  obtain ⟨t1, ht1, hf⟩ := ob hf
  refine k_PVi hC LX9_152 ⟨Nat.le_of_ble_eq_true rfl, Nat.le_of_ble_eq_true rfl⟩ ⟨Nat.zero_le _, Nat.zero_le _⟩ (cM_isSized l E ad q0_why q0_detail q0_reasonNow q0_detailNow q0_w q0_undos q0_savedRow q0_mind q0_changes q0_firstChange q0_isSaved q0_at q0_line q0_lineLength q0_text q0_length q0_next q0_numbers q0_sort q0_done a1 a2 a3 t1 ht1) rfl rfl hP rfl rfl hl.1 rfl (Nat.le_of_ble_eq_true rfl) rfl dX9_quantileAgain_4 (fun hz4 => ?_)
  refine lv_if_eq (tgt := 20) hx hb dX9_quantileAgain_7 (by decide) (fun c2 => ?_) (fun c2 => ?_)
  · have hf := ite_t hf c2
    refine lv_bipush (v := (-11)) hx hb dX9_quantileAgain_20 (by decide) ?_
    have hf := Option.some.inj hf
    exact e_Pi hC hr hlocks hf dX9_quantileAgain_22
  · have hf := ite_f hf c2
    refine lv_aload_n hx hb dX9_quantileAgain_10 rfl (lv_at hl 0 rfl) ?_
    refine lv_iload_n hx hb dX9_quantileAgain_11 rfl (lv_at hl 1 rfl) ?_
    refine lv_iload_n hx hb dX9_quantileAgain_12 rfl (lv_at hl 2 rfl) ?_
    refine lv_iload_n hx hb dX9_quantileAgain_13 rfl (lv_at hl 3 rfl) ?_
    obtain ⟨t3, ht3, hf⟩ := ob hf
    refine k_PVi hC LX9_161 ⟨Nat.le_of_ble_eq_true rfl, Nat.le_of_ble_eq_true rfl⟩ ⟨Nat.zero_le _, Nat.zero_le _⟩ (cM_bySizeAgain l E ad q0_why q0_detail q0_reasonNow q0_detailNow q0_w q0_undos q0_savedRow q0_mind q0_changes q0_firstChange q0_isSaved q0_at q0_line q0_lineLength q0_text q0_length q0_next q0_numbers q0_sort q0_done a1 a2 a3 t3 ht3) rfl rfl hP rfl rfl hl.1 rfl (Nat.le_of_ble_eq_true rfl) rfl dX9_quantileAgain_14 (fun hz14 => ?_)
    refine lv_goto (tgt := 22) hx hb dX9_quantileAgain_17 (by decide) ?_
    have hf := Option.some.inj hf
    exact e_Pi hC hr hlocks hf dX9_quantileAgain_22
abbrev rmM_count : Room := { frames := 2, cells := 0, slots := 0, locals := 46 }
set_option maxHeartbeats 4000000 in
set_option maxRecDepth 100000 in
theorem cM_count (l : Launch) (E : eE) (ad : Nat → Nat) (q0_why : Int32) (q0_detail : Int32) (q0_reasonNow : Int32) (q0_detailNow : Int32) (q0_w : (Nat → Int32)) (q0_undos : (Nat → Int32)) (q0_savedRow : (Nat → Int32)) (q0_mind : (Nat → Int32)) (q0_changes : Int32) (q0_firstChange : Int32) (q0_isSaved : Int32) (q0_at : (Nat → Int32)) (q0_line : (Nat → Int32)) (q0_lineLength : Int32) (q0_text : (Nat → Int32)) (q0_length : Int32) (q0_next : Int32) (q0_numbers : (Nat → Int32)) (q0_sort : Int32) (q0_done : Int32) (a1 : Int32) (a2 : Int32) (a3 : Int32) (r : Int32) (hf : fM_count q0_w a1 a2 a3 = some r) : cP l E yX9_count cX9_count 4 (some .int) rmM_count [.ref (ad 0), .int a1, .int a2, .int a3] (wM E ad q0_why q0_detail q0_reasonNow q0_detailNow q0_w q0_undos q0_savedRow q0_mind q0_changes q0_firstChange q0_isSaved q0_at q0_line q0_lineLength q0_text q0_length q0_next q0_numbers q0_sort q0_done) (some (.int r)) := by
  refine Met.ofW (cc := cX9_count) (maxL := 4) (ret := (some .int)) (by decide) rfl ?_
  intro p e s m args below meth c s₁ B hml hv
  obtain ⟨hargs, hP, hK⟩ := hv
  have hx := B.exec
  have hb := B.bytes
  have hr := B.returns
  have hts := atoms_spec (ws := ws_ yX9_count cX9_count 4 (some .int)) B.pre
  have hta : ∀ w ∈ lw_all, w.before args s = true := fun w h => hts w (List.mem_cons_of_mem _ h)
  have hown : s.vm.findClass RX9 = some m.cls := findClass_of_methodNamed B.named
  have hlocks := B.notSynchronized
  have hC : Cx p s m args c cX9_count 4 RX9 E := ⟨hx, hb, hml, hown, hta, hK⟩
  obtain ⟨ls, he, hl⟩ := entry_ (m := m) (n := 4) hargs (Nat.le_of_ble_eq_true rfl)
  rw [he]
  have hl : lv_has ls 4 [(0, .ref (ad 0)), (1, .int a1), (2, .int a2), (3, .int a3)] := hl
  show W p l e rmM_count s m args below meth c s.heap [] 0 0 (MQ below (qP (some .int) (some (.int r))) args s 0 0 (fun _ => False)) (F0 m 0 ls [])
  rw [fM_count] at hf
  refine lv_aload_n hx hb dX9_count_0 rfl (lv_at hl 0 rfl) ?_
  refine lv_iload_n hx hb dX9_count_1 rfl (lv_at hl 1 rfl) ?_
  refine lv_iload_n hx hb dX9_count_2 rfl (lv_at hl 2 rfl) ?_
  obtain ⟨t1, ht1, hf⟩ := ob hf
  refine k_PVi hC LX9_148 ⟨Nat.le_of_ble_eq_true rfl, Nat.le_of_ble_eq_true rfl⟩ ⟨Nat.zero_le _, Nat.zero_le _⟩ (cM_isPart l E ad q0_why q0_detail q0_reasonNow q0_detailNow q0_w q0_undos q0_savedRow q0_mind q0_changes q0_firstChange q0_isSaved q0_at q0_line q0_lineLength q0_text q0_length q0_next q0_numbers q0_sort q0_done a1 a2 t1 ht1) rfl rfl hP rfl rfl hl.1 rfl (Nat.le_of_ble_eq_true rfl) rfl dX9_count_3 (fun hz3 => ?_)
  refine lv_if_ne (tgt := 14) hx hb dX9_count_6 (by decide) (fun c2 => ?_) (fun c2 => ?_)
  · have hf := ite_f hf c2
    refine lv_iload_n hx hb dX9_count_14 rfl (lv_at hl 3 rfl) ?_
    refine k_PSi hC LX9_64 ⟨Nat.le_of_ble_eq_true rfl, Nat.le_of_ble_eq_true rfl⟩ ⟨Nat.zero_le _, Nat.zero_le _⟩ (cM_isWeight l E a3 _ rfl) rfl rfl (vP_nil) hl.1 rfl (Nat.le_of_ble_eq_true rfl) rfl dX9_count_15 (fun hz15 => ?_)
    refine lv_if_eq (tgt := 31) hx hb dX9_count_18 (by decide) (fun c3 => ?_) (fun c3 => ?_)
    · have hf := ite_t hf c3
      refine lv_bipush (v := (-12)) hx hb dX9_count_31 (by decide) ?_
      have hf := Option.some.inj hf
      exact e_Pi hC hr hlocks hf dX9_count_33
    · have hf := ite_f hf c3
      refine lv_aload_n hx hb dX9_count_21 rfl (lv_at hl 0 rfl) ?_
      refine lv_iload_n hx hb dX9_count_22 rfl (lv_at hl 1 rfl) ?_
      refine lv_iload_n hx hb dX9_count_23 rfl (lv_at hl 2 rfl) ?_
      refine lv_iload_n hx hb dX9_count_24 rfl (lv_at hl 3 rfl) ?_
      obtain ⟨t4, ht4, hf⟩ := ob hf
      refine k_PVi hC LX9_158 ⟨Nat.le_of_ble_eq_true rfl, Nat.le_of_ble_eq_true rfl⟩ ⟨Nat.zero_le _, Nat.zero_le _⟩ (cM_having l E ad q0_why q0_detail q0_reasonNow q0_detailNow q0_w q0_undos q0_savedRow q0_mind q0_changes q0_firstChange q0_isSaved q0_at q0_line q0_lineLength q0_text q0_length q0_next q0_numbers q0_sort q0_done a1 a2 a3 t4 ht4) rfl rfl hP rfl rfl hl.1 rfl (Nat.le_of_ble_eq_true rfl) rfl dX9_count_25 (fun hz25 => ?_)
      refine lv_goto (tgt := 33) hx hb dX9_count_28 (by decide) ?_
      have hf := Option.some.inj hf
      exact e_Pi hC hr hlocks hf dX9_count_33
  · have hf := ite_t hf c2
    refine lv_bipush (v := (-11)) hx hb dX9_count_9 (by decide) ?_
    refine lv_goto (tgt := 33) hx hb dX9_count_11 (by decide) ?_
    have hf := Option.some.inj hf
    exact e_Pi hC hr hlocks hf dX9_count_33
abbrev rmM_lighter : Room := { frames := 2, cells := 0, slots := 0, locals := 46 }
set_option maxHeartbeats 4000000 in
set_option maxRecDepth 100000 in
theorem cM_lighter (l : Launch) (E : eE) (ad : Nat → Nat) (q0_why : Int32) (q0_detail : Int32) (q0_reasonNow : Int32) (q0_detailNow : Int32) (q0_w : (Nat → Int32)) (q0_undos : (Nat → Int32)) (q0_savedRow : (Nat → Int32)) (q0_mind : (Nat → Int32)) (q0_changes : Int32) (q0_firstChange : Int32) (q0_isSaved : Int32) (q0_at : (Nat → Int32)) (q0_line : (Nat → Int32)) (q0_lineLength : Int32) (q0_text : (Nat → Int32)) (q0_length : Int32) (q0_next : Int32) (q0_numbers : (Nat → Int32)) (q0_sort : Int32) (q0_done : Int32) (a1 : Int32) (a2 : Int32) (a3 : Int32) (r : Int32) (hf : fM_lighter q0_w a1 a2 a3 = some r) : cP l E yX9_lighter cX9_lighter 4 (some .int) rmM_lighter [.ref (ad 0), .int a1, .int a2, .int a3] (wM E ad q0_why q0_detail q0_reasonNow q0_detailNow q0_w q0_undos q0_savedRow q0_mind q0_changes q0_firstChange q0_isSaved q0_at q0_line q0_lineLength q0_text q0_length q0_next q0_numbers q0_sort q0_done) (some (.int r)) := by
  refine Met.ofW (cc := cX9_lighter) (maxL := 4) (ret := (some .int)) (by decide) rfl ?_
  intro p e s m args below meth c s₁ B hml hv
  obtain ⟨hargs, hP, hK⟩ := hv
  have hx := B.exec
  have hb := B.bytes
  have hr := B.returns
  have hts := atoms_spec (ws := ws_ yX9_lighter cX9_lighter 4 (some .int)) B.pre
  have hta : ∀ w ∈ lw_all, w.before args s = true := fun w h => hts w (List.mem_cons_of_mem _ h)
  have hown : s.vm.findClass RX9 = some m.cls := findClass_of_methodNamed B.named
  have hlocks := B.notSynchronized
  have hC : Cx p s m args c cX9_lighter 4 RX9 E := ⟨hx, hb, hml, hown, hta, hK⟩
  obtain ⟨ls, he, hl⟩ := entry_ (m := m) (n := 4) hargs (Nat.le_of_ble_eq_true rfl)
  rw [he]
  have hl : lv_has ls 4 [(0, .ref (ad 0)), (1, .int a1), (2, .int a2), (3, .int a3)] := hl
  show W p l e rmM_lighter s m args below meth c s.heap [] 0 0 (MQ below (qP (some .int) (some (.int r))) args s 0 0 (fun _ => False)) (F0 m 0 ls [])
  rw [fM_lighter] at hf
  refine lv_aload_n hx hb dX9_lighter_0 rfl (lv_at hl 0 rfl) ?_
  refine lv_iload_n hx hb dX9_lighter_1 rfl (lv_at hl 1 rfl) ?_
  refine lv_iload_n hx hb dX9_lighter_2 rfl (lv_at hl 2 rfl) ?_
  obtain ⟨t1, ht1, hf⟩ := ob hf
  refine k_PVi hC LX9_148 ⟨Nat.le_of_ble_eq_true rfl, Nat.le_of_ble_eq_true rfl⟩ ⟨Nat.zero_le _, Nat.zero_le _⟩ (cM_isPart l E ad q0_why q0_detail q0_reasonNow q0_detailNow q0_w q0_undos q0_savedRow q0_mind q0_changes q0_firstChange q0_isSaved q0_at q0_line q0_lineLength q0_text q0_length q0_next q0_numbers q0_sort q0_done a1 a2 t1 ht1) rfl rfl hP rfl rfl hl.1 rfl (Nat.le_of_ble_eq_true rfl) rfl dX9_lighter_3 (fun hz3 => ?_)
  refine lv_if_ne (tgt := 14) hx hb dX9_lighter_6 (by decide) (fun c2 => ?_) (fun c2 => ?_)
  · have hf := ite_f hf c2
    refine lv_iload_n hx hb dX9_lighter_14 rfl (lv_at hl 3 rfl) ?_
    refine k_PSi hC LX9_64 ⟨Nat.le_of_ble_eq_true rfl, Nat.le_of_ble_eq_true rfl⟩ ⟨Nat.zero_le _, Nat.zero_le _⟩ (cM_isWeight l E a3 _ rfl) rfl rfl (vP_nil) hl.1 rfl (Nat.le_of_ble_eq_true rfl) rfl dX9_lighter_15 (fun hz15 => ?_)
    refine lv_if_eq (tgt := 31) hx hb dX9_lighter_18 (by decide) (fun c3 => ?_) (fun c3 => ?_)
    · have hf := ite_t hf c3
      refine lv_bipush (v := (-12)) hx hb dX9_lighter_31 (by decide) ?_
      have hf := Option.some.inj hf
      exact e_Pi hC hr hlocks hf dX9_lighter_33
    · have hf := ite_f hf c3
      refine lv_aload_n hx hb dX9_lighter_21 rfl (lv_at hl 0 rfl) ?_
      refine lv_iload_n hx hb dX9_lighter_22 rfl (lv_at hl 1 rfl) ?_
      refine lv_iload_n hx hb dX9_lighter_23 rfl (lv_at hl 2 rfl) ?_
      refine lv_iload_n hx hb dX9_lighter_24 rfl (lv_at hl 3 rfl) ?_
      obtain ⟨t4, ht4, hf⟩ := ob hf
      refine k_PVi hC LX9_145 ⟨Nat.le_of_ble_eq_true rfl, Nat.le_of_ble_eq_true rfl⟩ ⟨Nat.zero_le _, Nat.zero_le _⟩ (cM_below l E ad q0_why q0_detail q0_reasonNow q0_detailNow q0_w q0_undos q0_savedRow q0_mind q0_changes q0_firstChange q0_isSaved q0_at q0_line q0_lineLength q0_text q0_length q0_next q0_numbers q0_sort q0_done a1 a2 a3 t4 ht4) rfl rfl hP rfl rfl hl.1 rfl (Nat.le_of_ble_eq_true rfl) rfl dX9_lighter_25 (fun hz25 => ?_)
      refine lv_goto (tgt := 33) hx hb dX9_lighter_28 (by decide) ?_
      have hf := Option.some.inj hf
      exact e_Pi hC hr hlocks hf dX9_lighter_33
  · have hf := ite_t hf c2
    refine lv_bipush (v := (-11)) hx hb dX9_lighter_9 (by decide) ?_
    refine lv_goto (tgt := 33) hx hb dX9_lighter_11 (by decide) ?_
    have hf := Option.some.inj hf
    exact e_Pi hC hr hlocks hf dX9_lighter_33
