abbrev rmM_atLeast : Room := { frames := 2, cells := 0, slots := 0, locals := 46 }
set_option maxHeartbeats 4000000 in
set_option maxRecDepth 100000 in
theorem cM_atLeast (l : Launch) (E : eE) (ad : Nat → Nat) (q0_why : Int32) (q0_detail : Int32) (q0_reasonNow : Int32) (q0_detailNow : Int32) (q0_w : (Nat → Int32)) (q0_undos : (Nat → Int32)) (q0_savedRow : (Nat → Int32)) (q0_mind : (Nat → Int32)) (q0_changes : Int32) (q0_firstChange : Int32) (q0_isSaved : Int32) (q0_at : (Nat → Int32)) (q0_line : (Nat → Int32)) (q0_lineLength : Int32) (q0_text : (Nat → Int32)) (q0_length : Int32) (q0_next : Int32) (q0_numbers : (Nat → Int32)) (q0_sort : Int32) (q0_done : Int32) (a1 : Int32) (a2 : Int32) (a3 : Int32) (r : Int32) (hf : fM_atLeast q0_w a1 a2 a3 = some r) : cP l E yX9_atLeast cX9_atLeast 5 (some .int) rmM_atLeast [.ref (ad 0), .int a1, .int a2, .int a3] (wM E ad q0_why q0_detail q0_reasonNow q0_detailNow q0_w q0_undos q0_savedRow q0_mind q0_changes q0_firstChange q0_isSaved q0_at q0_line q0_lineLength q0_text q0_length q0_next q0_numbers q0_sort q0_done) (some (.int r)) := by
  refine Met.ofW (cc := cX9_atLeast) (maxL := 5) (ret := (some .int)) (by decide) rfl ?_
  intro p e s m args below meth c s₁ B hml hv
  obtain ⟨hargs, hP, hK⟩ := hv
  have hx := B.exec
  have hb := B.bytes
  have hr := B.returns
  have hts := atoms_spec (ws := ws_ yX9_atLeast cX9_atLeast 5 (some .int)) B.pre
  have hta : ∀ w ∈ lw_all, w.before args s = true := fun w h => hts w (List.mem_cons_of_mem _ h)
  have hown : s.vm.findClass RX9 = some m.cls := findClass_of_methodNamed B.named
  have hlocks := B.notSynchronized
  have hC : Cx p s m args c cX9_atLeast 5 RX9 E := ⟨hx, hb, hml, hown, hta, hK⟩
  obtain ⟨ls, he, hl⟩ := entry_ (m := m) (n := 5) hargs (Nat.le_of_ble_eq_true rfl)
  rw [he]
  have hl : lv_has ls 5 [(0, .ref (ad 0)), (1, .int a1), (2, .int a2), (3, .int a3)] := hl
  show W p l e rmM_atLeast s m args below meth c s.heap [] 0 0 (MQ below (qP (some .int) (some (.int r))) args s 0 0 (fun _ => False)) (F0 m 0 ls [])
  have L25 : ∀ (n : Nat) (a1 : Int32) (a2 : Int32) (a4 : Int32) (ls : Array Slot), lv_has ls 5 [(0, .ref (ad 0)), (1, .int a1), (2, .int a2), (4, .int a4)] → fM_atLeast_25 n q0_w a1 a2 a4 = some r → W p l e rmM_atLeast s m args below meth c s.heap [] 0 0 (MQ below (qP (some .int) (some (.int r))) args s 0 0 (fun _ => False)) (F0 m 25 ls []) := by
    intro n
    induction n with
    | zero => intro a1 a2 a4 ls hl hf; cases hf
    | succ n ih =>
      intro a1 a2 a4 ls hl hf
      rw [fM_atLeast_25] at hf
      refine lv_iload hx hb dX9_atLeast_25 (lv_at hl 3 rfl) ?_
      refine lv_bipush (v := 31) hx hb dX9_atLeast_27 (by decide) ?_
      refine lv_icmp_gt (tgt := 52) hx hb dX9_atLeast_29 (by decide) (fun c4 => ?_) (fun c4 => ?_)
      · have hf := ite_t hf c4
        refine lv_bipush (v := (-15)) hx hb dX9_atLeast_52 (by decide) ?_
        have hf := Option.some.inj hf
        exact e_Pi hC hr hlocks hf dX9_atLeast_54
      · have hf := ite_f hf c4
        refine lv_aload_n hx hb dX9_atLeast_32 rfl (lv_at hl 0 rfl) ?_
        refine lv_iload_n hx hb dX9_atLeast_33 rfl (lv_at hl 1 rfl) ?_
        refine lv_iload_n hx hb dX9_atLeast_34 rfl (lv_at hl 2 rfl) ?_
        refine lv_iload hx hb dX9_atLeast_35 (lv_at hl 3 rfl) ?_
        obtain ⟨t5, ht5, hf⟩ := ob hf
        refine k_PVi hC LX9_158 ⟨Nat.le_of_ble_eq_true rfl, Nat.le_of_ble_eq_true rfl⟩ ⟨Nat.zero_le _, Nat.zero_le _⟩ (cM_having l E ad q0_why q0_detail q0_reasonNow q0_detailNow q0_w q0_undos q0_savedRow q0_mind q0_changes q0_firstChange q0_isSaved q0_at q0_line q0_lineLength q0_text q0_length q0_next q0_numbers q0_sort q0_done a1 a2 a4 t5 ht5) rfl rfl hP rfl rfl hl.1 rfl (Nat.le_of_ble_eq_true rfl) rfl dX9_atLeast_37 (fun hz37 => ?_)
        refine lv_if_le (tgt := 46) hx hb dX9_atLeast_40 (by decide) (fun c6 => ?_) (fun c6 => ?_)
        · have hf := ite_t hf c6
          refine lv_iinc (v := (a4 + (1 : Int32))) (lv' := [(4, .int (a4 + (1 : Int32))), (0, .ref (ad 0)), (1, .int a1), (2, .int a2)]) hx hb dX9_atLeast_46 hl (k := 3) rfl rfl (by decide) rfl (fun ls hl => ?_)
          refine lv_goto (tgt := 25) hx hb dX9_atLeast_49 (by decide) ?_
          exact ih a1 a2 (a4 + (1 : Int32)) ls (lv_sub hl [1, 2, 3, 0] rfl) hf
        · have hf := ite_f hf c6
          refine lv_iload hx hb dX9_atLeast_43 (lv_at hl 3 rfl) ?_
          have hf := Option.some.inj hf
          exact e_Pi hC hr hlocks hf dX9_atLeast_45
  rw [fM_atLeast] at hf
  refine lv_aload_n hx hb dX9_atLeast_0 rfl (lv_at hl 0 rfl) ?_
  refine lv_iload_n hx hb dX9_atLeast_1 rfl (lv_at hl 1 rfl) ?_
  refine lv_iload_n hx hb dX9_atLeast_2 rfl (lv_at hl 2 rfl) ?_
  obtain ⟨t1, ht1, hf⟩ := ob hf
  refine k_PVi hC LX9_148 ⟨Nat.le_of_ble_eq_true rfl, Nat.le_of_ble_eq_true rfl⟩ ⟨Nat.zero_le _, Nat.zero_le _⟩ (cM_isPart l E ad q0_why q0_detail q0_reasonNow q0_detailNow q0_w q0_undos q0_savedRow q0_mind q0_changes q0_firstChange q0_isSaved q0_at q0_line q0_lineLength q0_text q0_length q0_next q0_numbers q0_sort q0_done a1 a2 t1 ht1) rfl rfl hP rfl rfl hl.1 rfl (Nat.le_of_ble_eq_true rfl) rfl dX9_atLeast_3 (fun hz3 => ?_)
  refine lv_if_ne (tgt := 12) hx hb dX9_atLeast_6 (by decide) (fun c2 => ?_) (fun c2 => ?_)
  · have hf := ite_f hf c2
    refine lv_iload_n hx hb dX9_atLeast_12 rfl (lv_at hl 3 rfl) ?_
    refine k_PSi hC LX9_64 ⟨Nat.le_of_ble_eq_true rfl, Nat.le_of_ble_eq_true rfl⟩ ⟨Nat.zero_le _, Nat.zero_le _⟩ (cM_isWeight l E a3 _ rfl) rfl rfl (vP_nil) hl.1 rfl (Nat.le_of_ble_eq_true rfl) rfl dX9_atLeast_13 (fun hz13 => ?_)
    refine lv_if_ne (tgt := 22) hx hb dX9_atLeast_16 (by decide) (fun c3 => ?_) (fun c3 => ?_)
    · have hf := ite_f hf c3
      refine lv_iload_n hx hb dX9_atLeast_22 rfl (lv_at hl 3 rfl) ?_
      refine lv_istore (lv' := [(4, .int a3), (0, .ref (ad 0)), (1, .int a1), (2, .int a2), (3, .int a3)]) hx hb dX9_atLeast_23 hl (by decide) rfl (fun ls hl => ?_)
      exact L25 FU a1 a2 a3 ls (lv_sub hl [1, 2, 3, 0] rfl) hf
    · have hf := ite_t hf c3
      refine lv_bipush (v := (-12)) hx hb dX9_atLeast_19 (by decide) ?_
      have hf := Option.some.inj hf
      exact e_Pi hC hr hlocks hf dX9_atLeast_21
  · have hf := ite_t hf c2
    refine lv_bipush (v := (-11)) hx hb dX9_atLeast_9 (by decide) ?_
    have hf := Option.some.inj hf
    exact e_Pi hC hr hlocks hf dX9_atLeast_11
abbrev rmM_find : Room := { frames := 2, cells := 0, slots := 0, locals := 46 }
set_option maxHeartbeats 4000000 in
set_option maxRecDepth 100000 in
theorem cM_find (l : Launch) (E : eE) (ad : Nat → Nat) (q0_why : Int32) (q0_detail : Int32) (q0_reasonNow : Int32) (q0_detailNow : Int32) (q0_w : (Nat → Int32)) (q0_undos : (Nat → Int32)) (q0_savedRow : (Nat → Int32)) (q0_mind : (Nat → Int32)) (q0_changes : Int32) (q0_firstChange : Int32) (q0_isSaved : Int32) (q0_at : (Nat → Int32)) (q0_line : (Nat → Int32)) (q0_lineLength : Int32) (q0_text : (Nat → Int32)) (q0_length : Int32) (q0_next : Int32) (q0_numbers : (Nat → Int32)) (q0_sort : Int32) (q0_done : Int32) (a1 : Int32) (a2 : Int32) (r : Int32) (hf : fM_find q0_w a1 a2 = some r) : cP l E yX9_find cX9_find 4 (some .int) rmM_find [.ref (ad 0), .int a1, .int a2] (wM E ad q0_why q0_detail q0_reasonNow q0_detailNow q0_w q0_undos q0_savedRow q0_mind q0_changes q0_firstChange q0_isSaved q0_at q0_line q0_lineLength q0_text q0_length q0_next q0_numbers q0_sort q0_done) (some (.int r)) := by
  refine Met.ofW (cc := cX9_find) (maxL := 4) (ret := (some .int)) (by decide) rfl ?_
  intro p e s m args below meth c s₁ B hml hv
  obtain ⟨hargs, hP, hK⟩ := hv
  have hx := B.exec
  have hb := B.bytes
  have hr := B.returns
  have hts := atoms_spec (ws := ws_ yX9_find cX9_find 4 (some .int)) B.pre
  have hta : ∀ w ∈ lw_all, w.before args s = true := fun w h => hts w (List.mem_cons_of_mem _ h)
  have hown : s.vm.findClass RX9 = some m.cls := findClass_of_methodNamed B.named
  have hlocks := B.notSynchronized
  have hC : Cx p s m args c cX9_find 4 RX9 E := ⟨hx, hb, hml, hown, hta, hK⟩
  obtain ⟨ls, he, hl⟩ := entry_ (m := m) (n := 4) hargs (Nat.le_of_ble_eq_true rfl)
  rw [he]
  have hl : lv_has ls 4 [(0, .ref (ad 0)), (1, .int a1), (2, .int a2)] := hl
  show W p l e rmM_find s m args below meth c s.heap [] 0 0 (MQ below (qP (some .int) (some (.int r))) args s 0 0 (fun _ => False)) (F0 m 0 ls [])
  have L12 : ∀ (n : Nat) (a1 : Int32) (a2 : Int32) (a3 : Int32) (ls : Array Slot), lv_has ls 4 [(0, .ref (ad 0)), (1, .int a1), (2, .int a2), (3, .int a3)] → fM_find_12 n q0_w a1 a2 a3 = some r → W p l e rmM_find s m args below meth c s.heap [] 0 0 (MQ below (qP (some .int) (some (.int r))) args s 0 0 (fun _ => False)) (F0 m 12 ls []) := by
    intro n
    induction n with
    | zero => intro a1 a2 a3 ls hl hf; cases hf
    | succ n ih =>
      intro a1 a2 a3 ls hl hf
      rw [fM_find_12] at hf
      refine lv_iload_n hx hb dX9_find_12 rfl (lv_at hl 3 rfl) ?_
      refine lv_aload_n hx hb dX9_find_13 rfl (lv_at hl 0 rfl) ?_
      refine gX9_7 hC hP 0 rfl (v := .ref (ad 1)) rfl dX9_find_14 ?_
      refine lv_iconst (v := 0) hx hb dX9_find_17 (by decide) ?_
      obtain ⟨v2, hv2, hf⟩ := ob hf
      obtain ⟨hv2a, hv2b⟩ := ldA_ok hv2
      refine a_ild hC hP 1 rfl hv2a hv2b dX9_find_18 ?_
      refine lv_icmp_ge (tgt := 50) hx hb dX9_find_19 (by decide) (fun c3 => ?_) (fun c3 => ?_)
      · have hf := ite_t hf c3
        refine lv_bipush (v := (-15)) hx hb dX9_find_50 (by decide) ?_
        have hf := Option.some.inj hf
        exact e_Pi hC hr hlocks hf dX9_find_52
      · have hf := ite_f hf c3
        refine lv_aload_n hx hb dX9_find_22 rfl (lv_at hl 0 rfl) ?_
        refine lv_iload_n hx hb dX9_find_23 rfl (lv_at hl 3 rfl) ?_
        obtain ⟨t4, ht4, hf⟩ := ob hf
        refine k_PVi hC LX9_86 ⟨Nat.le_of_ble_eq_true rfl, Nat.le_of_ble_eq_true rfl⟩ ⟨Nat.zero_le _, Nat.zero_le _⟩ (cM_is l E ad q0_why q0_detail q0_reasonNow q0_detailNow q0_w q0_undos q0_savedRow q0_mind q0_changes q0_firstChange q0_isSaved q0_at q0_line q0_lineLength q0_text q0_length q0_next q0_numbers q0_sort q0_done a3 t4 ht4) rfl rfl hP rfl rfl hl.1 rfl (Nat.le_of_ble_eq_true rfl) rfl dX9_find_24 (fun hz24 => ?_)
        refine lv_iload_n hx hb dX9_find_27 rfl (lv_at hl 1 rfl) ?_
        refine lv_icmp_ne (tgt := 44) hx hb dX9_find_28 (by decide) (fun c5 => ?_) (fun c5 => ?_)
        · have hf := ite_f hf c5
          refine lv_iinc (v := (a3 + (1 : Int32))) (lv' := [(3, .int (a3 + (1 : Int32))), (0, .ref (ad 0)), (1, .int a1), (2, .int a2)]) hx hb dX9_find_44 hl (k := 3) rfl rfl (by decide) rfl (fun ls hl => ?_)
          refine lv_goto (tgt := 12) hx hb dX9_find_47 (by decide) ?_
          exact ih a1 a2 (a3 + (1 : Int32)) ls (lv_sub hl [1, 2, 3, 0] rfl) hf
        · have hf := ite_t hf c5
          refine lv_aload_n hx hb dX9_find_31 rfl (lv_at hl 0 rfl) ?_
          refine lv_iconst (v := 0) hx hb dX9_find_32 (by decide) ?_
          refine lv_iload_n hx hb dX9_find_33 rfl (lv_at hl 3 rfl) ?_
          refine lv_iload_n hx hb dX9_find_34 rfl (lv_at hl 1 rfl) ?_
          obtain ⟨t6, ht6, hf⟩ := ob hf
          refine k_PVi hC LX9_158 ⟨Nat.le_of_ble_eq_true rfl, Nat.le_of_ble_eq_true rfl⟩ ⟨Nat.zero_le _, Nat.zero_le _⟩ (cM_having l E ad q0_why q0_detail q0_reasonNow q0_detailNow q0_w q0_undos q0_savedRow q0_mind q0_changes q0_firstChange q0_isSaved q0_at q0_line q0_lineLength q0_text q0_length q0_next q0_numbers q0_sort q0_done (0 : Int32) a3 a1 t6 ht6) rfl rfl hP rfl rfl hl.1 rfl (Nat.le_of_ble_eq_true rfl) rfl dX9_find_35 (fun hz35 => ?_)
          refine lv_iload_n hx hb dX9_find_38 rfl (lv_at hl 2 rfl) ?_
          refine lv_icmp_ne (tgt := 44) hx hb dX9_find_39 (by decide) (fun c7 => ?_) (fun c7 => ?_)
          · have hf := ite_f hf c7
            refine lv_iinc (v := (a3 + (1 : Int32))) (lv' := [(3, .int (a3 + (1 : Int32))), (0, .ref (ad 0)), (1, .int a1), (2, .int a2)]) hx hb dX9_find_44 hl (k := 3) rfl rfl (by decide) rfl (fun ls hl => ?_)
            refine lv_goto (tgt := 12) hx hb dX9_find_47 (by decide) ?_
            exact ih a1 a2 (a3 + (1 : Int32)) ls (lv_sub hl [1, 2, 3, 0] rfl) hf
          · have hf := ite_t hf c7
            refine lv_iload_n hx hb dX9_find_42 rfl (lv_at hl 3 rfl) ?_
            have hf := Option.some.inj hf
            exact e_Pi hC hr hlocks hf dX9_find_43
  rw [fM_find] at hf
  refine lv_iload_n hx hb dX9_find_0 rfl (lv_at hl 1 rfl) ?_
  refine k_PSi hC LX9_64 ⟨Nat.le_of_ble_eq_true rfl, Nat.le_of_ble_eq_true rfl⟩ ⟨Nat.zero_le _, Nat.zero_le _⟩ (cM_isWeight l E a1 _ rfl) rfl rfl (vP_nil) hl.1 rfl (Nat.le_of_ble_eq_true rfl) rfl dX9_find_1 (fun hz1 => ?_)
  refine lv_if_ne (tgt := 10) hx hb dX9_find_4 (by decide) (fun c1 => ?_) (fun c1 => ?_)
  · have hf := ite_f hf c1
    refine lv_iconst (v := 0) hx hb dX9_find_10 (by decide) ?_
    refine lv_istore_n (lv' := [(3, .int (0 : Int32)), (0, .ref (ad 0)), (1, .int a1), (2, .int a2)]) hx hb dX9_find_11 rfl hl (by decide) rfl (fun ls hl => ?_)
    exact L12 FU a1 a2 (0 : Int32) ls (lv_sub hl [1, 2, 3, 0] rfl) hf
  · have hf := ite_t hf c1
    refine lv_bipush (v := (-12)) hx hb dX9_find_7 (by decide) ?_
    have hf := Option.some.inj hf
    exact e_Pi hC hr hlocks hf dX9_find_9
abbrev rmM_common : Room := { frames := 2, cells := 0, slots := 0, locals := 46 }
set_option maxHeartbeats 4000000 in
set_option maxRecDepth 100000 in
theorem cM_common (l : Launch) (E : eE) (ad : Nat → Nat) (q0_why : Int32) (q0_detail : Int32) (q0_reasonNow : Int32) (q0_detailNow : Int32) (q0_w : (Nat → Int32)) (q0_undos : (Nat → Int32)) (q0_savedRow : (Nat → Int32)) (q0_mind : (Nat → Int32)) (q0_changes : Int32) (q0_firstChange : Int32) (q0_isSaved : Int32) (q0_at : (Nat → Int32)) (q0_line : (Nat → Int32)) (q0_lineLength : Int32) (q0_text : (Nat → Int32)) (q0_length : Int32) (q0_next : Int32) (q0_numbers : (Nat → Int32)) (q0_sort : Int32) (q0_done : Int32) (a1 : Int32) (a2 : Int32) (a3 : Int32) (r : Int32) (hf : fM_common q0_w a1 a2 a3 = some r) : cP l E yX9_common cX9_common 9 (some .int) rmM_common [.ref (ad 0), .int a1, .int a2, .int a3] (wM E ad q0_why q0_detail q0_reasonNow q0_detailNow q0_w q0_undos q0_savedRow q0_mind q0_changes q0_firstChange q0_isSaved q0_at q0_line q0_lineLength q0_text q0_length q0_next q0_numbers q0_sort q0_done) (some (.int r)) := by
  refine Met.ofW (cc := cX9_common) (maxL := 9) (ret := (some .int)) (by decide) rfl ?_
  intro p e s m args below meth c s₁ B hml hv
  obtain ⟨hargs, hP, hK⟩ := hv
  have hx := B.exec
  have hb := B.bytes
  have hr := B.returns
  have hts := atoms_spec (ws := ws_ yX9_common cX9_common 9 (some .int)) B.pre
  have hta : ∀ w ∈ lw_all, w.before args s = true := fun w h => hts w (List.mem_cons_of_mem _ h)
  have hown : s.vm.findClass RX9 = some m.cls := findClass_of_methodNamed B.named
  have hlocks := B.notSynchronized
  have hC : Cx p s m args c cX9_common 9 RX9 E := ⟨hx, hb, hml, hown, hta, hK⟩
  obtain ⟨ls, he, hl⟩ := entry_ (m := m) (n := 9) hargs (Nat.le_of_ble_eq_true rfl)
  rw [he]
  have hl : lv_has ls 9 [(0, .ref (ad 0)), (1, .int a1), (2, .int a2), (3, .int a3)] := hl
  show W p l e rmM_common s m args below meth c s.heap [] 0 0 (MQ below (qP (some .int) (some (.int r))) args s 0 0 (fun _ => False)) (F0 m 0 ls [])
  have L46 : ∀ (n : Nat) (a1 : Int32) (a2 : Int32) (a3 : Int32) (a4 : Int32) (a5 : Int32) (a6 : Int32) (a7 : Int32) (ls : Array Slot), lv_has ls 9 [(0, .ref (ad 0)), (1, .int a1), (2, .int a2), (3, .int a3), (4, .int a4), (5, .int a5), (6, .int a6), (7, .int a7)] → ∀ (o : Int32), fM_common_46 n q0_w a1 a2 a3 a4 a5 a6 a7 = some o → (∀ (ls : Array Slot), lv_has ls 9 [(0, .ref (ad 0)), (1, .int a1), (2, .int a2), (3, .int a3), (4, .int a4), (6, .int o)] → W p l e rmM_common s m args below meth c s.heap [] 0 0 (MQ below (qP (some .int) (some (.int r))) args s 0 0 (fun _ => False)) (F0 m 100 ls [])) → W p l e rmM_common s m args below meth c s.heap [] 0 0 (MQ below (qP (some .int) (some (.int r))) args s 0 0 (fun _ => False)) (F0 m 46 ls []) := by
    intro n
    induction n with
    | zero => intro a1 a2 a3 a4 a5 a6 a7 ls hl o hf hk; cases hf
    | succ n ih =>
      intro a1 a2 a3 a4 a5 a6 a7 ls hl o hf hk
      rw [fM_common_46] at hf
      refine lv_iload hx hb dX9_common_46 (lv_at hl 7 rfl) ?_
      refine lv_bipush (v := 31) hx hb dX9_common_48 (by decide) ?_
      refine lv_icmp_gt (tgt := 100) hx hb dX9_common_50 (by decide) (fun c6 => ?_) (fun c6 => ?_)
      · have hf := ite_t hf c6
        cases hf
        exact hk ls (lv_sub hl [0, 1, 2, 3, 4, 6] rfl)
      · have hf := ite_f hf c6
        refine lv_aload_n hx hb dX9_common_53 rfl (lv_at hl 0 rfl) ?_
        refine lv_iload_n hx hb dX9_common_54 rfl (lv_at hl 1 rfl) ?_
        refine lv_iload_n hx hb dX9_common_55 rfl (lv_at hl 2 rfl) ?_
        refine lv_iload hx hb dX9_common_56 (lv_at hl 7 rfl) ?_
        obtain ⟨t7, ht7, hf⟩ := ob hf
        refine k_PVi hC LX9_158 ⟨Nat.le_of_ble_eq_true rfl, Nat.le_of_ble_eq_true rfl⟩ ⟨Nat.zero_le _, Nat.zero_le _⟩ (cM_having l E ad q0_why q0_detail q0_reasonNow q0_detailNow q0_w q0_undos q0_savedRow q0_mind q0_changes q0_firstChange q0_isSaved q0_at q0_line q0_lineLength q0_text q0_length q0_next q0_numbers q0_sort q0_done a1 a2 a7 t7 ht7) rfl rfl hP rfl rfl hl.1 rfl (Nat.le_of_ble_eq_true rfl) rfl dX9_common_58 (fun hz58 => ?_)
        refine lv_istore (lv' := [(8, .int t7), (0, .ref (ad 0)), (1, .int a1), (2, .int a2), (3, .int a3), (4, .int a4), (5, .int a5), (6, .int a6), (7, .int a7)]) hx hb dX9_common_61 hl (by decide) rfl (fun ls hl => ?_)
        refine lv_iload hx hb dX9_common_63 (lv_at hl 7 rfl) ?_
        refine lv_iload hx hb dX9_common_65 (lv_at hl 0 rfl) ?_
        refine lv_iload hx hb dX9_common_67 (lv_at hl 6 rfl) ?_
        refine lv_icmp_gt (tgt := 86) hx hb dX9_common_69 (by decide) (fun c8 => ?_) (fun c8 => ?_)
        · have hf := ite_t hf c8
          refine lv_iconst (v := 1) hx hb dX9_common_86 (by decide) ?_
          refine lv_goto (tgt := 91) hx hb dX9_common_87 (by decide) ?_
          refine lv_iadd hx hb dX9_common_91 ?_
          refine lv_istore (lv' := [(6, .int (a6 + (1 : Int32))), (8, .int t7), (0, .ref (ad 0)), (1, .int a1), (2, .int a2), (3, .int a3), (4, .int a4), (5, .int a5), (7, .int a7)]) hx hb dX9_common_92 hl (by decide) rfl (fun ls hl => ?_)
          refine lv_iinc (v := (a7 + (1 : Int32))) (lv' := [(7, .int (a7 + (1 : Int32))), (6, .int (a6 + (1 : Int32))), (8, .int t7), (0, .ref (ad 0)), (1, .int a1), (2, .int a2), (3, .int a3), (4, .int a4), (5, .int a5)]) hx hb dX9_common_94 hl (k := 8) rfl rfl (by decide) rfl (fun ls hl => ?_)
          refine lv_goto (tgt := 46) hx hb dX9_common_97 (by decide) ?_
          exact ih a1 a2 a3 a4 a5 (a6 + (1 : Int32)) (a7 + (1 : Int32)) ls (lv_sub hl [3, 4, 5, 6, 7, 8, 1, 0] rfl) _ hf hk
        · have hf := ite_f hf c8
          refine lv_iload hx hb dX9_common_72 (lv_at hl 0 rfl) ?_
          refine lv_iload hx hb dX9_common_74 (lv_at hl 6 rfl) ?_
          refine lv_icmp_ne (tgt := 90) hx hb dX9_common_76 (by decide) (fun c9 => ?_) (fun c9 => ?_)
          · have hf := ite_f hf c9
            refine lv_iconst (v := 0) hx hb dX9_common_90 (by decide) ?_
            refine lv_iadd hx hb dX9_common_91 ?_
            refine lv_istore (lv' := [(6, .int (a6 + (0 : Int32))), (8, .int t7), (0, .ref (ad 0)), (1, .int a1), (2, .int a2), (3, .int a3), (4, .int a4), (5, .int a5), (7, .int a7)]) hx hb dX9_common_92 hl (by decide) rfl (fun ls hl => ?_)
            refine lv_iinc (v := (a7 + (1 : Int32))) (lv' := [(7, .int (a7 + (1 : Int32))), (6, .int (a6 + (0 : Int32))), (8, .int t7), (0, .ref (ad 0)), (1, .int a1), (2, .int a2), (3, .int a3), (4, .int a4), (5, .int a5)]) hx hb dX9_common_94 hl (k := 8) rfl rfl (by decide) rfl (fun ls hl => ?_)
            refine lv_goto (tgt := 46) hx hb dX9_common_97 (by decide) ?_
            exact ih a1 a2 a3 a4 a5 (a6 + (0 : Int32)) (a7 + (1 : Int32)) ls (lv_sub hl [3, 4, 5, 6, 7, 8, 1, 0] rfl) _ hf hk
          · have hf := ite_t hf c9
            refine lv_iload hx hb dX9_common_79 (lv_at hl 8 rfl) ?_
            refine lv_iload hx hb dX9_common_81 (lv_at hl 5 rfl) ?_
            refine lv_icmp_ge (tgt := 90) hx hb dX9_common_83 (by decide) (fun c10 => ?_) (fun c10 => ?_)
            · have hf := ite_t hf c10
              refine lv_iconst (v := 0) hx hb dX9_common_90 (by decide) ?_
              refine lv_iadd hx hb dX9_common_91 ?_
              refine lv_istore (lv' := [(6, .int (a6 + (0 : Int32))), (8, .int t7), (0, .ref (ad 0)), (1, .int a1), (2, .int a2), (3, .int a3), (4, .int a4), (5, .int a5), (7, .int a7)]) hx hb dX9_common_92 hl (by decide) rfl (fun ls hl => ?_)
              refine lv_iinc (v := (a7 + (1 : Int32))) (lv' := [(7, .int (a7 + (1 : Int32))), (6, .int (a6 + (0 : Int32))), (8, .int t7), (0, .ref (ad 0)), (1, .int a1), (2, .int a2), (3, .int a3), (4, .int a4), (5, .int a5)]) hx hb dX9_common_94 hl (k := 8) rfl rfl (by decide) rfl (fun ls hl => ?_)
              refine lv_goto (tgt := 46) hx hb dX9_common_97 (by decide) ?_
              exact ih a1 a2 a3 a4 a5 (a6 + (0 : Int32)) (a7 + (1 : Int32)) ls (lv_sub hl [3, 4, 5, 6, 7, 8, 1, 0] rfl) _ hf hk
            · have hf := ite_f hf c10
              refine lv_iconst (v := 1) hx hb dX9_common_86 (by decide) ?_
              refine lv_goto (tgt := 91) hx hb dX9_common_87 (by decide) ?_
              refine lv_iadd hx hb dX9_common_91 ?_
              refine lv_istore (lv' := [(6, .int (a6 + (1 : Int32))), (8, .int t7), (0, .ref (ad 0)), (1, .int a1), (2, .int a2), (3, .int a3), (4, .int a4), (5, .int a5), (7, .int a7)]) hx hb dX9_common_92 hl (by decide) rfl (fun ls hl => ?_)
              refine lv_iinc (v := (a7 + (1 : Int32))) (lv' := [(7, .int (a7 + (1 : Int32))), (6, .int (a6 + (1 : Int32))), (8, .int t7), (0, .ref (ad 0)), (1, .int a1), (2, .int a2), (3, .int a3), (4, .int a4), (5, .int a5)]) hx hb dX9_common_94 hl (k := 8) rfl rfl (by decide) rfl (fun ls hl => ?_)
              refine lv_goto (tgt := 46) hx hb dX9_common_97 (by decide) ?_
              exact ih a1 a2 a3 a4 a5 (a6 + (1 : Int32)) (a7 + (1 : Int32)) ls (lv_sub hl [3, 4, 5, 6, 7, 8, 1, 0] rfl) _ hf hk
  have L15 : ∀ (n : Nat) (a1 : Int32) (a2 : Int32) (a3 : Int32) (a4 : Int32) (ls : Array Slot), lv_has ls 9 [(0, .ref (ad 0)), (1, .int a1), (2, .int a2), (3, .int a3), (4, .int a4)] → fM_common_15 n q0_w a1 a2 a3 a4 = some r → W p l e rmM_common s m args below meth c s.heap [] 0 0 (MQ below (qP (some .int) (some (.int r))) args s 0 0 (fun _ => False)) (F0 m 15 ls []) := by
    intro n
    induction n with
    | zero => intro a1 a2 a3 a4 ls hl hf; cases hf
    | succ n ih =>
      intro a1 a2 a3 a4 ls hl hf
      rw [fM_common_15] at hf
      refine lv_iload hx hb dX9_common_15 (lv_at hl 4 rfl) ?_
      refine lv_bipush (v := 31) hx hb dX9_common_17 (by decide) ?_
      refine lv_icmp_gt (tgt := 115) hx hb dX9_common_19 (by decide) (fun c3 => ?_) (fun c3 => ?_)
      · have hf := ite_t hf c3
        refine lv_bipush (v := (-11)) hx hb dX9_common_115 (by decide) ?_
        have hf := Option.some.inj hf
        exact e_Pi hC hr hlocks hf dX9_common_117
      · have hf := ite_f hf c3
        refine lv_aload_n hx hb dX9_common_22 rfl (lv_at hl 0 rfl) ?_
        refine lv_iload_n hx hb dX9_common_23 rfl (lv_at hl 1 rfl) ?_
        refine lv_iload_n hx hb dX9_common_24 rfl (lv_at hl 2 rfl) ?_
        refine lv_iload hx hb dX9_common_25 (lv_at hl 4 rfl) ?_
        obtain ⟨t4, ht4, hf⟩ := ob hf
        refine k_PVi hC LX9_158 ⟨Nat.le_of_ble_eq_true rfl, Nat.le_of_ble_eq_true rfl⟩ ⟨Nat.zero_le _, Nat.zero_le _⟩ (cM_having l E ad q0_why q0_detail q0_reasonNow q0_detailNow q0_w q0_undos q0_savedRow q0_mind q0_changes q0_firstChange q0_isSaved q0_at q0_line q0_lineLength q0_text q0_length q0_next q0_numbers q0_sort q0_done a1 a2 a4 t4 ht4) rfl rfl hP rfl rfl hl.1 rfl (Nat.le_of_ble_eq_true rfl) rfl dX9_common_27 (fun hz27 => ?_)
        refine lv_istore (lv' := [(5, .int t4), (0, .ref (ad 0)), (1, .int a1), (2, .int a2), (3, .int a3), (4, .int a4)]) hx hb dX9_common_30 hl (by decide) rfl (fun ls hl => ?_)
        refine lv_iload hx hb dX9_common_32 (lv_at hl 0 rfl) ?_
        refine lv_if_ne (tgt := 40) hx hb dX9_common_34 (by decide) (fun c5 => ?_) (fun c5 => ?_)
        · have hf := ite_f hf c5
          refine lv_iconst (v := 0) hx hb dX9_common_40 (by decide) ?_
          refine lv_istore (lv' := [(6, .int (0 : Int32)), (5, .int t4), (0, .ref (ad 0)), (1, .int a1), (2, .int a2), (3, .int a3), (4, .int a4)]) hx hb dX9_common_41 hl (by decide) rfl (fun ls hl => ?_)
          refine lv_iconst (v := 0) hx hb dX9_common_43 (by decide) ?_
          refine lv_istore (lv' := [(7, .int (0 : Int32)), (6, .int (0 : Int32)), (5, .int t4), (0, .ref (ad 0)), (1, .int a1), (2, .int a2), (3, .int a3), (4, .int a4)]) hx hb dX9_common_44 hl (by decide) rfl (fun ls hl => ?_)
          obtain ⟨o11, ho11, hf⟩ := ob hf
          refine L46 FU a1 a2 a3 a4 t4 (0 : Int32) (0 : Int32) ls (lv_sub hl [3, 4, 5, 6, 7, 2, 1, 0] rfl) o11 ho11 (fun ls hl => ?_)
          refine lv_iload hx hb dX9_common_100 (lv_at hl 5 rfl) ?_
          refine lv_iload_n hx hb dX9_common_102 rfl (lv_at hl 3 rfl) ?_
          refine lv_icmp_ne (tgt := 109) hx hb dX9_common_103 (by decide) (fun c12 => ?_) (fun c12 => ?_)
          · have hf := ite_f hf c12
            refine lv_iinc (v := (a4 + (1 : Int32))) (lv' := [(4, .int (a4 + (1 : Int32))), (0, .ref (ad 0)), (1, .int a1), (2, .int a2), (3, .int a3), (6, .int o11)]) hx hb dX9_common_109 hl (k := 4) rfl rfl (by decide) rfl (fun ls hl => ?_)
            refine lv_goto (tgt := 15) hx hb dX9_common_112 (by decide) ?_
            exact ih a1 a2 a3 (a4 + (1 : Int32)) ls (lv_sub hl [1, 2, 3, 4, 0] rfl) hf
          · have hf := ite_t hf c12
            refine lv_iload hx hb dX9_common_106 (lv_at hl 4 rfl) ?_
            have hf := Option.some.inj hf
            exact e_Pi hC hr hlocks hf dX9_common_108
        · have hf := ite_t hf c5
          refine lv_goto (tgt := 109) hx hb dX9_common_37 (by decide) ?_
          refine lv_iinc (v := (a4 + (1 : Int32))) (lv' := [(4, .int (a4 + (1 : Int32))), (5, .int t4), (0, .ref (ad 0)), (1, .int a1), (2, .int a2), (3, .int a3)]) hx hb dX9_common_109 hl (k := 5) rfl rfl (by decide) rfl (fun ls hl => ?_)
          refine lv_goto (tgt := 15) hx hb dX9_common_112 (by decide) ?_
          exact ih a1 a2 a3 (a4 + (1 : Int32)) ls (lv_sub hl [2, 3, 4, 5, 0] rfl) hf
  rw [fM_common] at hf
  refine lv_aload_n hx hb dX9_common_0 rfl (lv_at hl 0 rfl) ?_
  refine lv_iload_n hx hb dX9_common_1 rfl (lv_at hl 1 rfl) ?_
  refine lv_iload_n hx hb dX9_common_2 rfl (lv_at hl 2 rfl) ?_
  obtain ⟨t1, ht1, hf⟩ := ob hf
  refine k_PVi hC LX9_148 ⟨Nat.le_of_ble_eq_true rfl, Nat.le_of_ble_eq_true rfl⟩ ⟨Nat.zero_le _, Nat.zero_le _⟩ (cM_isPart l E ad q0_why q0_detail q0_reasonNow q0_detailNow q0_w q0_undos q0_savedRow q0_mind q0_changes q0_firstChange q0_isSaved q0_at q0_line q0_lineLength q0_text q0_length q0_next q0_numbers q0_sort q0_done a1 a2 t1 ht1) rfl rfl hP rfl rfl hl.1 rfl (Nat.le_of_ble_eq_true rfl) rfl dX9_common_3 (fun hz3 => ?_)
  refine lv_if_ne (tgt := 12) hx hb dX9_common_6 (by decide) (fun c2 => ?_) (fun c2 => ?_)
  · have hf := ite_f hf c2
    refine lv_iconst (v := 0) hx hb dX9_common_12 (by decide) ?_
    refine lv_istore (lv' := [(4, .int (0 : Int32)), (0, .ref (ad 0)), (1, .int a1), (2, .int a2), (3, .int a3)]) hx hb dX9_common_13 hl (by decide) rfl (fun ls hl => ?_)
    exact L15 FU a1 a2 a3 (0 : Int32) ls (lv_sub hl [1, 2, 3, 4, 0] rfl) hf
  · have hf := ite_t hf c2
    refine lv_bipush (v := (-11)) hx hb dX9_common_9 (by decide) ?_
    have hf := Option.some.inj hf
    exact e_Pi hC hr hlocks hf dX9_common_11
abbrev rmM_unlike : Room := { frames := 2, cells := 0, slots := 0, locals := 46 }
set_option maxHeartbeats 4000000 in
set_option maxRecDepth 100000 in
theorem cM_unlike (l : Launch) (E : eE) (ad : Nat → Nat) (q0_why : Int32) (q0_detail : Int32) (q0_reasonNow : Int32) (q0_detailNow : Int32) (q0_w : (Nat → Int32)) (q0_undos : (Nat → Int32)) (q0_savedRow : (Nat → Int32)) (q0_mind : (Nat → Int32)) (q0_changes : Int32) (q0_firstChange : Int32) (q0_isSaved : Int32) (q0_at : (Nat → Int32)) (q0_line : (Nat → Int32)) (q0_lineLength : Int32) (q0_text : (Nat → Int32)) (q0_length : Int32) (q0_next : Int32) (q0_numbers : (Nat → Int32)) (q0_sort : Int32) (q0_done : Int32) (a1 : Int32) (a2 : Int32) (r : Int32) (hf : fM_unlike q0_w a1 a2 = some r) : cP l E yX9_unlike cX9_unlike 5 (some .int) rmM_unlike [.ref (ad 0), .int a1, .int a2] (wM E ad q0_why q0_detail q0_reasonNow q0_detailNow q0_w q0_undos q0_savedRow q0_mind q0_changes q0_firstChange q0_isSaved q0_at q0_line q0_lineLength q0_text q0_length q0_next q0_numbers q0_sort q0_done) (some (.int r)) := by
  refine Met.ofW (cc := cX9_unlike) (maxL := 5) (ret := (some .int)) (by decide) rfl ?_
  intro p e s m args below meth c s₁ B hml hv
  obtain ⟨hargs, hP, hK⟩ := hv
  have hx := B.exec
  have hb := B.bytes
  have hr := B.returns
  have hts := atoms_spec (ws := ws_ yX9_unlike cX9_unlike 5 (some .int)) B.pre
  have hta : ∀ w ∈ lw_all, w.before args s = true := fun w h => hts w (List.mem_cons_of_mem _ h)
  have hown : s.vm.findClass RX9 = some m.cls := findClass_of_methodNamed B.named
  have hlocks := B.notSynchronized
  have hC : Cx p s m args c cX9_unlike 5 RX9 E := ⟨hx, hb, hml, hown, hta, hK⟩
  obtain ⟨ls, he, hl⟩ := entry_ (m := m) (n := 5) hargs (Nat.le_of_ble_eq_true rfl)
  rw [he]
  have hl : lv_has ls 5 [(0, .ref (ad 0)), (1, .int a1), (2, .int a2)] := hl
  show W p l e rmM_unlike s m args below meth c s.heap [] 0 0 (MQ below (qP (some .int) (some (.int r))) args s 0 0 (fun _ => False)) (F0 m 0 ls [])
  have L5 : ∀ (n : Nat) (a1 : Int32) (a2 : Int32) (a3 : Int32) (a4 : Int32) (ls : Array Slot), lv_has ls 5 [(0, .ref (ad 0)), (1, .int a1), (2, .int a2), (3, .int a3), (4, .int a4)] → fM_unlike_5 n q0_w a1 a2 a3 a4 = some r → W p l e rmM_unlike s m args below meth c s.heap [] 0 0 (MQ below (qP (some .int) (some (.int r))) args s 0 0 (fun _ => False)) (F0 m 5 ls []) := by
    intro n
    induction n with
    | zero => intro a1 a2 a3 a4 ls hl hf; cases hf
    | succ n ih =>
      intro a1 a2 a3 a4 ls hl hf
      rw [fM_unlike_5] at hf
      refine lv_iload hx hb dX9_unlike_5 (lv_at hl 4 rfl) ?_
      refine lv_bipush (v := 31) hx hb dX9_unlike_7 (by decide) ?_
      refine lv_icmp_gt (tgt := 37) hx hb dX9_unlike_9 (by decide) (fun c1 => ?_) (fun c1 => ?_)
      · have hf := ite_t hf c1
        refine lv_iload_n hx hb dX9_unlike_37 rfl (lv_at hl 3 rfl) ?_
        have hf := Option.some.inj hf
        exact e_Pi hC hr hlocks hf dX9_unlike_38
      · have hf := ite_f hf c1
        refine lv_iload_n hx hb dX9_unlike_12 rfl (lv_at hl 3 rfl) ?_
        refine lv_aload_n hx hb dX9_unlike_13 rfl (lv_at hl 0 rfl) ?_
        refine lv_iload_n hx hb dX9_unlike_14 rfl (lv_at hl 1 rfl) ?_
        refine lv_iload_n hx hb dX9_unlike_15 rfl (lv_at hl 2 rfl) ?_
        refine lv_iload hx hb dX9_unlike_16 (lv_at hl 4 rfl) ?_
        obtain ⟨t2, ht2, hf⟩ := ob hf
        refine k_PVi hC LX9_158 ⟨Nat.le_of_ble_eq_true rfl, Nat.le_of_ble_eq_true rfl⟩ ⟨Nat.zero_le _, Nat.zero_le _⟩ (cM_having l E ad q0_why q0_detail q0_reasonNow q0_detailNow q0_w q0_undos q0_savedRow q0_mind q0_changes q0_firstChange q0_isSaved q0_at q0_line q0_lineLength q0_text q0_length q0_next q0_numbers q0_sort q0_done a1 a2 a4 t2 ht2) rfl rfl hP rfl rfl hl.1 rfl (Nat.le_of_ble_eq_true rfl) rfl dX9_unlike_18 (fun hz18 => ?_)
        refine lv_if_le (tgt := 28) hx hb dX9_unlike_21 (by decide) (fun c3 => ?_) (fun c3 => ?_)
        · have hf := ite_t hf c3
          refine lv_iconst (v := 0) hx hb dX9_unlike_28 (by decide) ?_
          refine lv_iadd hx hb dX9_unlike_29 ?_
          refine lv_istore_n (lv' := [(3, .int (a3 + (0 : Int32))), (0, .ref (ad 0)), (1, .int a1), (2, .int a2), (4, .int a4)]) hx hb dX9_unlike_30 rfl hl (by decide) rfl (fun ls hl => ?_)
          refine lv_iinc (v := (a4 + (1 : Int32))) (lv' := [(4, .int (a4 + (1 : Int32))), (3, .int (a3 + (0 : Int32))), (0, .ref (ad 0)), (1, .int a1), (2, .int a2)]) hx hb dX9_unlike_31 hl (k := 4) rfl rfl (by decide) rfl (fun ls hl => ?_)
          refine lv_goto (tgt := 5) hx hb dX9_unlike_34 (by decide) ?_
          exact ih a1 a2 (a3 + (0 : Int32)) (a4 + (1 : Int32)) ls (lv_sub hl [2, 3, 4, 1, 0] rfl) hf
        · have hf := ite_f hf c3
          refine lv_iconst (v := 1) hx hb dX9_unlike_24 (by decide) ?_
          refine lv_goto (tgt := 29) hx hb dX9_unlike_25 (by decide) ?_
          refine lv_iadd hx hb dX9_unlike_29 ?_
          refine lv_istore_n (lv' := [(3, .int (a3 + (1 : Int32))), (0, .ref (ad 0)), (1, .int a1), (2, .int a2), (4, .int a4)]) hx hb dX9_unlike_30 rfl hl (by decide) rfl (fun ls hl => ?_)
          refine lv_iinc (v := (a4 + (1 : Int32))) (lv' := [(4, .int (a4 + (1 : Int32))), (3, .int (a3 + (1 : Int32))), (0, .ref (ad 0)), (1, .int a1), (2, .int a2)]) hx hb dX9_unlike_31 hl (k := 4) rfl rfl (by decide) rfl (fun ls hl => ?_)
          refine lv_goto (tgt := 5) hx hb dX9_unlike_34 (by decide) ?_
          exact ih a1 a2 (a3 + (1 : Int32)) (a4 + (1 : Int32)) ls (lv_sub hl [2, 3, 4, 1, 0] rfl) hf
  rw [fM_unlike] at hf
  refine lv_iconst (v := 0) hx hb dX9_unlike_0 (by decide) ?_
  refine lv_istore_n (lv' := [(3, .int (0 : Int32)), (0, .ref (ad 0)), (1, .int a1), (2, .int a2)]) hx hb dX9_unlike_1 rfl hl (by decide) rfl (fun ls hl => ?_)
  refine lv_iconst (v := 0) hx hb dX9_unlike_2 (by decide) ?_
  refine lv_istore (lv' := [(4, .int (0 : Int32)), (3, .int (0 : Int32)), (0, .ref (ad 0)), (1, .int a1), (2, .int a2)]) hx hb dX9_unlike_3 hl (by decide) rfl (fun ls hl => ?_)
  exact L5 FU a1 a2 (0 : Int32) (0 : Int32) ls (lv_sub hl [2, 3, 4, 1, 0] rfl) hf
abbrev rmM_sum : Room := { frames := 1, cells := 0, slots := 0, locals := 21 }
set_option maxHeartbeats 4000000 in
set_option maxRecDepth 100000 in
theorem cM_sum (l : Launch) (E : eE) (ad : Nat → Nat) (q0_why : Int32) (q0_detail : Int32) (q0_reasonNow : Int32) (q0_detailNow : Int32) (q0_w : (Nat → Int32)) (q0_undos : (Nat → Int32)) (q0_savedRow : (Nat → Int32)) (q0_mind : (Nat → Int32)) (q0_changes : Int32) (q0_firstChange : Int32) (q0_isSaved : Int32) (q0_at : (Nat → Int32)) (q0_line : (Nat → Int32)) (q0_lineLength : Int32) (q0_text : (Nat → Int32)) (q0_length : Int32) (q0_next : Int32) (q0_numbers : (Nat → Int32)) (q0_sort : Int32) (q0_done : Int32) (a1 : Int32) (a2 : Int32) (r : Int32) (hf : fM_sum q0_w a1 a2 = some r) : cP l E yX9_sum cX9_sum 5 (some .int) rmM_sum [.ref (ad 0), .int a1, .int a2] (wM E ad q0_why q0_detail q0_reasonNow q0_detailNow q0_w q0_undos q0_savedRow q0_mind q0_changes q0_firstChange q0_isSaved q0_at q0_line q0_lineLength q0_text q0_length q0_next q0_numbers q0_sort q0_done) (some (.int r)) := by
  refine Met.ofW (cc := cX9_sum) (maxL := 5) (ret := (some .int)) (by decide) rfl ?_
  intro p e s m args below meth c s₁ B hml hv
  obtain ⟨hargs, hP, hK⟩ := hv
  have hx := B.exec
  have hb := B.bytes
  have hr := B.returns
  have hts := atoms_spec (ws := ws_ yX9_sum cX9_sum 5 (some .int)) B.pre
  have hta : ∀ w ∈ lw_all, w.before args s = true := fun w h => hts w (List.mem_cons_of_mem _ h)
  have hown : s.vm.findClass RX9 = some m.cls := findClass_of_methodNamed B.named
  have hlocks := B.notSynchronized
  have hC : Cx p s m args c cX9_sum 5 RX9 E := ⟨hx, hb, hml, hown, hta, hK⟩
  obtain ⟨ls, he, hl⟩ := entry_ (m := m) (n := 5) hargs (Nat.le_of_ble_eq_true rfl)
  rw [he]
  have hl : lv_has ls 5 [(0, .ref (ad 0)), (1, .int a1), (2, .int a2)] := hl
  show W p l e rmM_sum s m args below meth c s.heap [] 0 0 (MQ below (qP (some .int) (some (.int r))) args s 0 0 (fun _ => False)) (F0 m 0 ls [])
  have L5 : ∀ (n : Nat) (a2 : Int32) (a3 : Int32) (a4 : Int32) (ls : Array Slot), lv_has ls 5 [(0, .ref (ad 0)), (2, .int a2), (3, .int a3), (4, .int a4)] → fM_sum_5 n q0_w a2 a3 a4 = some r → W p l e rmM_sum s m args below meth c s.heap [] 0 0 (MQ below (qP (some .int) (some (.int r))) args s 0 0 (fun _ => False)) (F0 m 5 ls []) := by
    intro n
    induction n with
    | zero => intro a2 a3 a4 ls hl hf; cases hf
    | succ n ih =>
      intro a2 a3 a4 ls hl hf
      rw [fM_sum_5] at hf
      refine lv_iload hx hb dX9_sum_5 (lv_at hl 3 rfl) ?_
      refine lv_iload_n hx hb dX9_sum_7 rfl (lv_at hl 1 rfl) ?_
      refine lv_icmp_ge (tgt := 26) hx hb dX9_sum_8 (by decide) (fun c1 => ?_) (fun c1 => ?_)
      · have hf := ite_t hf c1
        refine lv_iload_n hx hb dX9_sum_26 rfl (lv_at hl 2 rfl) ?_
        have hf := Option.some.inj hf
        exact e_Pi hC hr hlocks hf dX9_sum_27
      · have hf := ite_f hf c1
        refine lv_iload_n hx hb dX9_sum_11 rfl (lv_at hl 2 rfl) ?_
        refine lv_aload_n hx hb dX9_sum_12 rfl (lv_at hl 0 rfl) ?_
        refine lv_iload hx hb dX9_sum_13 (lv_at hl 3 rfl) ?_
        obtain ⟨t2, ht2, hf⟩ := ob hf
        refine k_PVi hC LX9_86 ⟨Nat.le_of_ble_eq_true rfl, Nat.le_of_ble_eq_true rfl⟩ ⟨Nat.zero_le _, Nat.zero_le _⟩ (cM_is l E ad q0_why q0_detail q0_reasonNow q0_detailNow q0_w q0_undos q0_savedRow q0_mind q0_changes q0_firstChange q0_isSaved q0_at q0_line q0_lineLength q0_text q0_length q0_next q0_numbers q0_sort q0_done a4 t2 ht2) rfl rfl hP rfl rfl hl.1 rfl (Nat.le_of_ble_eq_true rfl) rfl dX9_sum_15 (fun hz15 => ?_)
        refine lv_iadd hx hb dX9_sum_18 ?_
        refine lv_istore_n (lv' := [(3, .int (a3 + t2)), (0, .ref (ad 0)), (2, .int a2), (4, .int a4)]) hx hb dX9_sum_19 rfl hl (by decide) rfl (fun ls hl => ?_)
        refine lv_iinc (v := (a4 + (1 : Int32))) (lv' := [(4, .int (a4 + (1 : Int32))), (3, .int (a3 + t2)), (0, .ref (ad 0)), (2, .int a2)]) hx hb dX9_sum_20 hl (k := 3) rfl rfl (by decide) rfl (fun ls hl => ?_)
        refine lv_goto (tgt := 5) hx hb dX9_sum_23 (by decide) ?_
        exact ih a2 (a3 + t2) (a4 + (1 : Int32)) ls (lv_sub hl [2, 3, 1, 0] rfl) hf
  rw [fM_sum] at hf
  refine lv_iconst (v := 0) hx hb dX9_sum_0 (by decide) ?_
  refine lv_istore_n (lv' := [(3, .int (0 : Int32)), (0, .ref (ad 0)), (1, .int a1), (2, .int a2)]) hx hb dX9_sum_1 rfl hl (by decide) rfl (fun ls hl => ?_)
  refine lv_iload_n hx hb dX9_sum_2 rfl (lv_at hl 2 rfl) ?_
  refine lv_istore (lv' := [(4, .int a1), (3, .int (0 : Int32)), (0, .ref (ad 0)), (1, .int a1), (2, .int a2)]) hx hb dX9_sum_3 hl (by decide) rfl (fun ls hl => ?_)
  exact L5 FU a2 (0 : Int32) a1 ls (lv_sub hl [2, 4, 1, 0] rfl) hf
abbrev rmM_median : Room := { frames := 3, cells := 0, slots := 0, locals := 70 }
set_option maxHeartbeats 4000000 in
set_option maxRecDepth 100000 in
theorem cM_median (l : Launch) (E : eE) (ad : Nat → Nat) (q0_why : Int32) (q0_detail : Int32) (q0_reasonNow : Int32) (q0_detailNow : Int32) (q0_w : (Nat → Int32)) (q0_undos : (Nat → Int32)) (q0_savedRow : (Nat → Int32)) (q0_mind : (Nat → Int32)) (q0_changes : Int32) (q0_firstChange : Int32) (q0_isSaved : Int32) (q0_at : (Nat → Int32)) (q0_line : (Nat → Int32)) (q0_lineLength : Int32) (q0_text : (Nat → Int32)) (q0_length : Int32) (q0_next : Int32) (q0_numbers : (Nat → Int32)) (q0_sort : Int32) (q0_done : Int32) (a1 : Int32) (a2 : Int32) (r : Int32) (hf : fM_median q0_w a1 a2 = some r) : cP l E yX9_median cX9_median 4 (some .int) rmM_median [.ref (ad 0), .int a1, .int a2] (wM E ad q0_why q0_detail q0_reasonNow q0_detailNow q0_w q0_undos q0_savedRow q0_mind q0_changes q0_firstChange q0_isSaved q0_at q0_line q0_lineLength q0_text q0_length q0_next q0_numbers q0_sort q0_done) (some (.int r)) := by
  refine Met.ofW (cc := cX9_median) (maxL := 4) (ret := (some .int)) (by decide) rfl ?_
  intro p e s m args below meth c s₁ B hml hv
  obtain ⟨hargs, hP, hK⟩ := hv
  have hx := B.exec
  have hb := B.bytes
  have hr := B.returns
  have hts := atoms_spec (ws := ws_ yX9_median cX9_median 4 (some .int)) B.pre
  have hta : ∀ w ∈ lw_all, w.before args s = true := fun w h => hts w (List.mem_cons_of_mem _ h)
  have hown : s.vm.findClass RX9 = some m.cls := findClass_of_methodNamed B.named
  have hlocks := B.notSynchronized
  have hC : Cx p s m args c cX9_median 4 RX9 E := ⟨hx, hb, hml, hown, hta, hK⟩
  obtain ⟨ls, he, hl⟩ := entry_ (m := m) (n := 4) hargs (Nat.le_of_ble_eq_true rfl)
  rw [he]
  have hl : lv_has ls 4 [(0, .ref (ad 0)), (1, .int a1), (2, .int a2)] := hl
  show W p l e rmM_median s m args below meth c s.heap [] 0 0 (MQ below (qP (some .int) (some (.int r))) args s 0 0 (fun _ => False)) (F0 m 0 ls [])
  rw [fM_median] at hf
  refine lv_iload_n hx hb dX9_median_0 rfl (lv_at hl 2 rfl) ?_
  refine lv_iload_n hx hb dX9_median_1 rfl (lv_at hl 1 rfl) ?_
  refine lv_isub hx hb dX9_median_2 ?_
  refine lv_istore_n (lv' := [(3, .int (a2 - a1)), (0, .ref (ad 0)), (1, .int a1), (2, .int a2)]) hx hb dX9_median_3 rfl hl (by decide) rfl (fun ls hl => ?_)
  refine lv_aload_n hx hb dX9_median_4 rfl (lv_at hl 1 rfl) ?_
  refine lv_iload_n hx hb dX9_median_5 rfl (lv_at hl 2 rfl) ?_
  refine lv_iload_n hx hb dX9_median_6 rfl (lv_at hl 3 rfl) ?_
  refine lv_iload_n hx hb dX9_median_7 rfl (lv_at hl 0 rfl) ?_
  refine lv_iconst (v := 2) hx hb dX9_median_8 (by decide) ?_
  refine lv_irem hx hb dX9_median_9 (by decide) ?_
  refine lv_if_ne (tgt := 21) hx hb dX9_median_10 (by decide) (fun c1 => ?_) (fun c1 => ?_)
  · have hf := ite_f hf c1
    refine lv_iload_n hx hb dX9_median_21 rfl (lv_at hl 0 rfl) ?_
    refine lv_iconst (v := 2) hx hb dX9_median_22 (by decide) ?_
    refine lv_idiv hx hb dX9_median_23 (by decide) ?_
    obtain ⟨t2, ht2, hf⟩ := ob hf
    refine k_PVi hC LX9_155 ⟨Nat.le_of_ble_eq_true rfl, Nat.le_of_ble_eq_true rfl⟩ ⟨Nat.zero_le _, Nat.zero_le _⟩ (cM_bySize l E ad q0_why q0_detail q0_reasonNow q0_detailNow q0_w q0_undos q0_savedRow q0_mind q0_changes q0_firstChange q0_isSaved q0_at q0_line q0_lineLength q0_text q0_length q0_next q0_numbers q0_sort q0_done a1 a2 ((a2 - a1) / (2 : Int32)) t2 ht2) rfl rfl hP rfl rfl hl.1 rfl (Nat.le_of_ble_eq_true rfl) rfl dX9_median_24 (fun hz24 => ?_)
    have hf := Option.some.inj hf
    exact e_Pi hC hr hlocks hf dX9_median_27
  · have hf := ite_t hf c1
    refine lv_iload_n hx hb dX9_median_13 rfl (lv_at hl 0 rfl) ?_
    refine lv_iconst (v := 2) hx hb dX9_median_14 (by decide) ?_
    refine lv_idiv hx hb dX9_median_15 (by decide) ?_
    refine lv_iconst (v := 1) hx hb dX9_median_16 (by decide) ?_
    refine lv_isub hx hb dX9_median_17 ?_
    refine lv_goto (tgt := 24) hx hb dX9_median_18 (by decide) ?_
    obtain ⟨t3, ht3, hf⟩ := ob hf
    refine k_PVi hC LX9_155 ⟨Nat.le_of_ble_eq_true rfl, Nat.le_of_ble_eq_true rfl⟩ ⟨Nat.zero_le _, Nat.zero_le _⟩ (cM_bySize l E ad q0_why q0_detail q0_reasonNow q0_detailNow q0_w q0_undos q0_savedRow q0_mind q0_changes q0_firstChange q0_isSaved q0_at q0_line q0_lineLength q0_text q0_length q0_next q0_numbers q0_sort q0_done a1 a2 (((a2 - a1) / (2 : Int32)) - (1 : Int32)) t3 ht3) rfl rfl hP rfl rfl hl.1 rfl (Nat.le_of_ble_eq_true rfl) rfl dX9_median_24 (fun hz24 => ?_)
    have hf := Option.some.inj hf
    exact e_Pi hC hr hlocks hf dX9_median_27
abbrev rmM_bagOf : Room := { frames := 4, cells := 0, slots := 0, locals := 93 }
set_option maxHeartbeats 4000000 in
set_option maxRecDepth 100000 in
theorem cM_bagOf (l : Launch) (E : eE) (ad : Nat → Nat) (q0_why : Int32) (q0_detail : Int32) (q0_reasonNow : Int32) (q0_detailNow : Int32) (q0_w : (Nat → Int32)) (q0_undos : (Nat → Int32)) (q0_savedRow : (Nat → Int32)) (q0_mind : (Nat → Int32)) (q0_changes : Int32) (q0_firstChange : Int32) (q0_isSaved : Int32) (q0_at : (Nat → Int32)) (q0_line : (Nat → Int32)) (q0_lineLength : Int32) (q0_text : (Nat → Int32)) (q0_length : Int32) (q0_next : Int32) (q0_numbers : (Nat → Int32)) (q0_sort : Int32) (q0_done : Int32) (a1 : Int32) (a2 : Int32) (r : Int32) (hf : fM_bagOf q0_w a1 a2 = some r) : cP l E yX9_bagOf cX9_bagOf 5 (some .int) rmM_bagOf [.ref (ad 0), .int a1, .int a2] (wM E ad q0_why q0_detail q0_reasonNow q0_detailNow q0_w q0_undos q0_savedRow q0_mind q0_changes q0_firstChange q0_isSaved q0_at q0_line q0_lineLength q0_text q0_length q0_next q0_numbers q0_sort q0_done) (some (.int r)) := by
  refine Met.ofW (cc := cX9_bagOf) (maxL := 5) (ret := (some .int)) (by decide) rfl ?_
  intro p e s m args below meth c s₁ B hml hv
  obtain ⟨hargs, hP, hK⟩ := hv
  have hx := B.exec
  have hb := B.bytes
  have hr := B.returns
  have hts := atoms_spec (ws := ws_ yX9_bagOf cX9_bagOf 5 (some .int)) B.pre
  have hta : ∀ w ∈ lw_all, w.before args s = true := fun w h => hts w (List.mem_cons_of_mem _ h)
  have hown : s.vm.findClass RX9 = some m.cls := findClass_of_methodNamed B.named
  have hlocks := B.notSynchronized
  have hC : Cx p s m args c cX9_bagOf 5 RX9 E := ⟨hx, hb, hml, hown, hta, hK⟩
  obtain ⟨ls, he, hl⟩ := entry_ (m := m) (n := 5) hargs (Nat.le_of_ble_eq_true rfl)
  rw [he]
  have hl : lv_has ls 5 [(0, .ref (ad 0)), (1, .int a1), (2, .int a2)] := hl
  show W p l e rmM_bagOf s m args below meth c s.heap [] 0 0 (MQ below (qP (some .int) (some (.int r))) args s 0 0 (fun _ => False)) (F0 m 0 ls [])
  rw [fM_bagOf] at hf
  refine lv_iload_n hx hb dX9_bagOf_0 rfl (lv_at hl 1 rfl) ?_
  refine lv_iconst (v := 0) hx hb dX9_bagOf_1 (by decide) ?_
  refine lv_aload_n hx hb dX9_bagOf_2 rfl (lv_at hl 0 rfl) ?_
  obtain ⟨t1, ht1, hf⟩ := ob hf
  refine k_PVi hC LX9_164 ⟨Nat.le_of_ble_eq_true rfl, Nat.le_of_ble_eq_true rfl⟩ ⟨Nat.zero_le _, Nat.zero_le _⟩ (cM_bags l E ad q0_why q0_detail q0_reasonNow q0_detailNow q0_w q0_undos q0_savedRow q0_mind q0_changes q0_firstChange q0_isSaved q0_at q0_line q0_lineLength q0_text q0_length q0_next q0_numbers q0_sort q0_done t1 ht1) rfl rfl hP rfl rfl hl.1 rfl (Nat.le_of_ble_eq_true rfl) rfl dX9_bagOf_3 (fun hz3 => ?_)
  refine lv_iconst (v := 1) hx hb dX9_bagOf_6 (by decide) ?_
  refine lv_isub hx hb dX9_bagOf_7 ?_
  refine k_PSi hC LX9_60 ⟨Nat.le_of_ble_eq_true rfl, Nat.le_of_ble_eq_true rfl⟩ ⟨Nat.zero_le _, Nat.zero_le _⟩ (cM_isBetween l E a1 (0 : Int32) (t1 - (1 : Int32)) _ rfl) rfl rfl (vP_nil) hl.1 rfl (Nat.le_of_ble_eq_true rfl) rfl dX9_bagOf_8 (fun hz8 => ?_)
  refine lv_if_ne (tgt := 17) hx hb dX9_bagOf_11 (by decide) (fun c2 => ?_) (fun c2 => ?_)
  · have hf := ite_f hf c2
    refine lv_aload_n hx hb dX9_bagOf_17 rfl (lv_at hl 0 rfl) ?_
    refine lv_iload_n hx hb dX9_bagOf_18 rfl (lv_at hl 1 rfl) ?_
    obtain ⟨t3, ht3, hf⟩ := ob hf
    refine k_PVi hC LX9_167 ⟨Nat.le_of_ble_eq_true rfl, Nat.le_of_ble_eq_true rfl⟩ ⟨Nat.zero_le _, Nat.zero_le _⟩ (cM_beginOf l E ad q0_why q0_detail q0_reasonNow q0_detailNow q0_w q0_undos q0_savedRow q0_mind q0_changes q0_firstChange q0_isSaved q0_at q0_line q0_lineLength q0_text q0_length q0_next q0_numbers q0_sort q0_done a1 t3 ht3) rfl rfl hP rfl rfl hl.1 rfl (Nat.le_of_ble_eq_true rfl) rfl dX9_bagOf_19 (fun hz19 => ?_)
    refine lv_istore_n (lv' := [(3, .int t3), (0, .ref (ad 0)), (1, .int a1), (2, .int a2)]) hx hb dX9_bagOf_22 rfl hl (by decide) rfl (fun ls hl => ?_)
    refine lv_aload_n hx hb dX9_bagOf_23 rfl (lv_at hl 1 rfl) ?_
    refine lv_iload_n hx hb dX9_bagOf_24 rfl (lv_at hl 2 rfl) ?_
    refine lv_iconst (v := 1) hx hb dX9_bagOf_25 (by decide) ?_
    refine lv_iadd hx hb dX9_bagOf_26 ?_
    obtain ⟨t4, ht4, hf⟩ := ob hf
    refine k_PVi hC LX9_167 ⟨Nat.le_of_ble_eq_true rfl, Nat.le_of_ble_eq_true rfl⟩ ⟨Nat.zero_le _, Nat.zero_le _⟩ (cM_beginOf l E ad q0_why q0_detail q0_reasonNow q0_detailNow q0_w q0_undos q0_savedRow q0_mind q0_changes q0_firstChange q0_isSaved q0_at q0_line q0_lineLength q0_text q0_length q0_next q0_numbers q0_sort q0_done (a1 + (1 : Int32)) t4 ht4) rfl rfl hP rfl rfl hl.1 rfl (Nat.le_of_ble_eq_true rfl) rfl dX9_bagOf_27 (fun hz27 => ?_)
    refine lv_istore (lv' := [(4, .int t4), (3, .int t3), (0, .ref (ad 0)), (1, .int a1), (2, .int a2)]) hx hb dX9_bagOf_30 hl (by decide) rfl (fun ls hl => ?_)
    refine lv_iload_n hx hb dX9_bagOf_32 rfl (lv_at hl 4 rfl) ?_
    by_cases c33_0 : a2 = (0 : Int32)
    · have hf := ite_t hf c33_0
      have e9 : (a2).toInt = 0 := by rw [c33_0]; decide
      refine lv_tableIn (tgt := 72) hx hb dX9_bagOf_33 (by omega) (by omega) (by rw [e9]; rfl) (by decide) ?_
      refine lv_iload_n hx hb dX9_bagOf_72 rfl (lv_at hl 1 rfl) ?_
      have hf := Option.some.inj hf
      exact e_Pi hC hr hlocks hf dX9_bagOf_73
    · have hf := ite_f hf c33_0
      by_cases c33_1 : a2 = (1 : Int32)
      · have hf := ite_t hf c33_1
        have e9 : (a2).toInt = 1 := by rw [c33_1]; decide
        refine lv_tableIn (tgt := 74) hx hb dX9_bagOf_33 (by omega) (by omega) (by rw [e9]; rfl) (by decide) ?_
        refine lv_iload hx hb dX9_bagOf_74 (lv_at hl 0 rfl) ?_
        refine lv_iload_n hx hb dX9_bagOf_76 rfl (lv_at hl 1 rfl) ?_
        refine lv_isub hx hb dX9_bagOf_77 ?_
        have hf := Option.some.inj hf
        exact e_Pi hC hr hlocks hf dX9_bagOf_78
      · have hf := ite_f hf c33_1
        by_cases c33_2 : a2 = (2 : Int32)
        · have hf := ite_t hf c33_2
          have e9 : (a2).toInt = 2 := by rw [c33_2]; decide
          refine lv_tableIn (tgt := 79) hx hb dX9_bagOf_33 (by omega) (by omega) (by rw [e9]; rfl) (by decide) ?_
          refine lv_aload_n hx hb dX9_bagOf_79 rfl (lv_at hl 2 rfl) ?_
          refine lv_iload_n hx hb dX9_bagOf_80 rfl (lv_at hl 1 rfl) ?_
          refine lv_iload hx hb dX9_bagOf_81 (lv_at hl 0 rfl) ?_
          obtain ⟨t5, ht5, hf⟩ := ob hf
          refine k_PVi hC LX9_170 ⟨Nat.le_of_ble_eq_true rfl, Nat.le_of_ble_eq_true rfl⟩ ⟨Nat.zero_le _, Nat.zero_le _⟩ (cM_sum l E ad q0_why q0_detail q0_reasonNow q0_detailNow q0_w q0_undos q0_savedRow q0_mind q0_changes q0_firstChange q0_isSaved q0_at q0_line q0_lineLength q0_text q0_length q0_next q0_numbers q0_sort q0_done t3 t4 t5 ht5) rfl rfl hP rfl rfl hl.1 rfl (Nat.le_of_ble_eq_true rfl) rfl dX9_bagOf_83 (fun hz83 => ?_)
          have hf := Option.some.inj hf
          exact e_Pi hC hr hlocks hf dX9_bagOf_86
        · have hf := ite_f hf c33_2
          by_cases c33_3 : a2 = (3 : Int32)
          · have hf := ite_t hf c33_3
            have e9 : (a2).toInt = 3 := by rw [c33_3]; decide
            refine lv_tableIn (tgt := 87) hx hb dX9_bagOf_33 (by omega) (by omega) (by rw [e9]; rfl) (by decide) ?_
            refine lv_aload_n hx hb dX9_bagOf_87 rfl (lv_at hl 2 rfl) ?_
            refine lv_iload_n hx hb dX9_bagOf_88 rfl (lv_at hl 1 rfl) ?_
            refine lv_iload hx hb dX9_bagOf_89 (lv_at hl 0 rfl) ?_
            obtain ⟨t6, ht6, hf⟩ := ob hf
            refine k_PVi hC LX9_173 ⟨Nat.le_of_ble_eq_true rfl, Nat.le_of_ble_eq_true rfl⟩ ⟨Nat.zero_le _, Nat.zero_le _⟩ (cM_median l E ad q0_why q0_detail q0_reasonNow q0_detailNow q0_w q0_undos q0_savedRow q0_mind q0_changes q0_firstChange q0_isSaved q0_at q0_line q0_lineLength q0_text q0_length q0_next q0_numbers q0_sort q0_done t3 t4 t6 ht6) rfl rfl hP rfl rfl hl.1 rfl (Nat.le_of_ble_eq_true rfl) rfl dX9_bagOf_91 (fun hz91 => ?_)
            have hf := Option.some.inj hf
            exact e_Pi hC hr hlocks hf dX9_bagOf_94
          · have hf := ite_f hf c33_3
            by_cases c33_4 : a2 = (4 : Int32)
            · have hf := ite_t hf c33_4
              have e9 : (a2).toInt = 4 := by rw [c33_4]; decide
              refine lv_tableIn (tgt := 95) hx hb dX9_bagOf_33 (by omega) (by omega) (by rw [e9]; rfl) (by decide) ?_
              refine lv_aload_n hx hb dX9_bagOf_95 rfl (lv_at hl 2 rfl) ?_
              refine lv_iload_n hx hb dX9_bagOf_96 rfl (lv_at hl 1 rfl) ?_
              refine lv_iload hx hb dX9_bagOf_97 (lv_at hl 0 rfl) ?_
              refine lv_iload hx hb dX9_bagOf_99 (lv_at hl 0 rfl) ?_
              refine lv_iload_n hx hb dX9_bagOf_101 rfl (lv_at hl 1 rfl) ?_
              refine lv_isub hx hb dX9_bagOf_102 ?_
              refine lv_iconst (v := 1) hx hb dX9_bagOf_103 (by decide) ?_
              refine lv_isub hx hb dX9_bagOf_104 ?_
              obtain ⟨t7, ht7, hf⟩ := ob hf
              refine k_PVi hC LX9_155 ⟨Nat.le_of_ble_eq_true rfl, Nat.le_of_ble_eq_true rfl⟩ ⟨Nat.zero_le _, Nat.zero_le _⟩ (cM_bySize l E ad q0_why q0_detail q0_reasonNow q0_detailNow q0_w q0_undos q0_savedRow q0_mind q0_changes q0_firstChange q0_isSaved q0_at q0_line q0_lineLength q0_text q0_length q0_next q0_numbers q0_sort q0_done t3 t4 ((t4 - t3) - (1 : Int32)) t7 ht7) rfl rfl hP rfl rfl hl.1 rfl (Nat.le_of_ble_eq_true rfl) rfl dX9_bagOf_105 (fun hz105 => ?_)
              have hf := Option.some.inj hf
              exact e_Pi hC hr hlocks hf dX9_bagOf_108
            · have hf := ite_f hf c33_4
              by_cases c33_5 : a2 = (5 : Int32)
              · have hf := ite_t hf c33_5
                have e9 : (a2).toInt = 5 := by rw [c33_5]; decide
                refine lv_tableIn (tgt := 109) hx hb dX9_bagOf_33 (by omega) (by omega) (by rw [e9]; rfl) (by decide) ?_
                refine lv_aload_n hx hb dX9_bagOf_109 rfl (lv_at hl 2 rfl) ?_
                refine lv_iload_n hx hb dX9_bagOf_110 rfl (lv_at hl 1 rfl) ?_
                refine lv_iload hx hb dX9_bagOf_111 (lv_at hl 0 rfl) ?_
                obtain ⟨t8, ht8, hf⟩ := ob hf
                refine k_PVi hC LX9_176 ⟨Nat.le_of_ble_eq_true rfl, Nat.le_of_ble_eq_true rfl⟩ ⟨Nat.zero_le _, Nat.zero_le _⟩ (cM_unlike l E ad q0_why q0_detail q0_reasonNow q0_detailNow q0_w q0_undos q0_savedRow q0_mind q0_changes q0_firstChange q0_isSaved q0_at q0_line q0_lineLength q0_text q0_length q0_next q0_numbers q0_sort q0_done t3 t4 t8 ht8) rfl rfl hP rfl rfl hl.1 rfl (Nat.le_of_ble_eq_true rfl) rfl dX9_bagOf_113 (fun hz113 => ?_)
                have hf := Option.some.inj hf
                exact e_Pi hC hr hlocks hf dX9_bagOf_116
              · have hf := ite_f hf c33_5
                have hd : W p l e rmM_bagOf s m args below meth c s.heap [] 0 0 (MQ below (qP (some .int) (some (.int r))) args s 0 0 (fun _ => False)) (F0 m 117 ls []) := by
                  refine lv_bipush (v := (-12)) hx hb dX9_bagOf_117 (by decide) ?_
                  have hf := Option.some.inj hf
                  exact e_Pi hC hr hlocks hf dX9_bagOf_119
                refine lv_tableOut (tgt := 117) hx hb dX9_bagOf_33 (by have n0 := lv_neT c33_0 (a := 0) (by decide); have n1 := lv_neT c33_1 (a := 1) (by decide); have n2 := lv_neT c33_2 (a := 2) (by decide); have n3 := lv_neT c33_3 (a := 3) (by decide); have n4 := lv_neT c33_4 (a := 4) (by decide); have n5 := lv_neT c33_5 (a := 5) (by decide); omega) (by decide) hd
  · have hf := ite_t hf c2
    refine lv_bipush (v := (-11)) hx hb dX9_bagOf_14 (by decide) ?_
    have hf := Option.some.inj hf
    exact e_Pi hC hr hlocks hf dX9_bagOf_16
abbrev rmM_bagAt : Room := { frames := 3, cells := 0, slots := 0, locals := 65 }
set_option maxHeartbeats 4000000 in
set_option maxRecDepth 100000 in
theorem cM_bagAt (l : Launch) (E : eE) (ad : Nat → Nat) (q0_why : Int32) (q0_detail : Int32) (q0_reasonNow : Int32) (q0_detailNow : Int32) (q0_w : (Nat → Int32)) (q0_undos : (Nat → Int32)) (q0_savedRow : (Nat → Int32)) (q0_mind : (Nat → Int32)) (q0_changes : Int32) (q0_firstChange : Int32) (q0_isSaved : Int32) (q0_at : (Nat → Int32)) (q0_line : (Nat → Int32)) (q0_lineLength : Int32) (q0_text : (Nat → Int32)) (q0_length : Int32) (q0_next : Int32) (q0_numbers : (Nat → Int32)) (q0_sort : Int32) (q0_done : Int32) (a1 : Int32) (r : Int32) (hf : fM_bagAt q0_w a1 = some r) : cP l E yX9_bagAt cX9_bagAt 2 (some .int) rmM_bagAt [.ref (ad 0), .int a1] (wM E ad q0_why q0_detail q0_reasonNow q0_detailNow q0_w q0_undos q0_savedRow q0_mind q0_changes q0_firstChange q0_isSaved q0_at q0_line q0_lineLength q0_text q0_length q0_next q0_numbers q0_sort q0_done) (some (.int r)) := by
  refine Met.ofW (cc := cX9_bagAt) (maxL := 2) (ret := (some .int)) (by decide) rfl ?_
  intro p e s m args below meth c s₁ B hml hv
  obtain ⟨hargs, hP, hK⟩ := hv
  have hx := B.exec
  have hb := B.bytes
  have hr := B.returns
  have hts := atoms_spec (ws := ws_ yX9_bagAt cX9_bagAt 2 (some .int)) B.pre
  have hta : ∀ w ∈ lw_all, w.before args s = true := fun w h => hts w (List.mem_cons_of_mem _ h)
  have hown : s.vm.findClass RX9 = some m.cls := findClass_of_methodNamed B.named
  have hlocks := B.notSynchronized
  have hC : Cx p s m args c cX9_bagAt 2 RX9 E := ⟨hx, hb, hml, hown, hta, hK⟩
  obtain ⟨ls, he, hl⟩ := entry_ (m := m) (n := 2) hargs (Nat.le_of_ble_eq_true rfl)
  rw [he]
  have hl : lv_has ls 2 [(0, .ref (ad 0)), (1, .int a1)] := hl
  show W p l e rmM_bagAt s m args below meth c s.heap [] 0 0 (MQ below (qP (some .int) (some (.int r))) args s 0 0 (fun _ => False)) (F0 m 0 ls [])
  rw [fM_bagAt] at hf
  refine lv_aload_n hx hb dX9_bagAt_0 rfl (lv_at hl 0 rfl) ?_
  refine lv_iload_n hx hb dX9_bagAt_1 rfl (lv_at hl 1 rfl) ?_
  obtain ⟨t1, ht1, hf⟩ := ob hf
  refine k_PVi hC LX9_89 ⟨Nat.le_of_ble_eq_true rfl, Nat.le_of_ble_eq_true rfl⟩ ⟨Nat.zero_le _, Nat.zero_le _⟩ (cM_isLetter l E ad q0_why q0_detail q0_reasonNow q0_detailNow q0_w q0_undos q0_savedRow q0_mind q0_changes q0_firstChange q0_isSaved q0_at q0_line q0_lineLength q0_text q0_length q0_next q0_numbers q0_sort q0_done a1 t1 ht1) rfl rfl hP rfl rfl hl.1 rfl (Nat.le_of_ble_eq_true rfl) rfl dX9_bagAt_2 (fun hz2 => ?_)
  refine lv_if_eq (tgt := 18) hx hb dX9_bagAt_5 (by decide) (fun c2 => ?_) (fun c2 => ?_)
  · have hf := ite_t hf c2
    refine lv_bipush (v := (-11)) hx hb dX9_bagAt_18 (by decide) ?_
    have hf := Option.some.inj hf
    exact e_Pi hC hr hlocks hf dX9_bagAt_20
  · have hf := ite_f hf c2
    refine lv_aload_n hx hb dX9_bagAt_8 rfl (lv_at hl 0 rfl) ?_
    refine lv_iload_n hx hb dX9_bagAt_9 rfl (lv_at hl 1 rfl) ?_
    obtain ⟨t3, ht3, hf⟩ := ob hf
    refine k_PVi hC LX9_118 ⟨Nat.le_of_ble_eq_true rfl, Nat.le_of_ble_eq_true rfl⟩ ⟨Nat.zero_le _, Nat.zero_le _⟩ (cM_bagsUpTo l E ad q0_why q0_detail q0_reasonNow q0_detailNow q0_w q0_undos q0_savedRow q0_mind q0_changes q0_firstChange q0_isSaved q0_at q0_line q0_lineLength q0_text q0_length q0_next q0_numbers q0_sort q0_done a1 t3 ht3) rfl rfl hP rfl rfl hl.1 rfl (Nat.le_of_ble_eq_true rfl) rfl dX9_bagAt_10 (fun hz10 => ?_)
    refine lv_iconst (v := 1) hx hb dX9_bagAt_13 (by decide) ?_
    refine lv_isub hx hb dX9_bagAt_14 ?_
    refine lv_goto (tgt := 20) hx hb dX9_bagAt_15 (by decide) ?_
    have hf := Option.some.inj hf
    exact e_Pi hC hr hlocks hf dX9_bagAt_20
abbrev rmM_sumOf : Room := { frames := 4, cells := 0, slots := 0, locals := 87 }
set_option maxHeartbeats 4000000 in
set_option maxRecDepth 100000 in
theorem cM_sumOf (l : Launch) (E : eE) (ad : Nat → Nat) (q0_why : Int32) (q0_detail : Int32) (q0_reasonNow : Int32) (q0_detailNow : Int32) (q0_w : (Nat → Int32)) (q0_undos : (Nat → Int32)) (q0_savedRow : (Nat → Int32)) (q0_mind : (Nat → Int32)) (q0_changes : Int32) (q0_firstChange : Int32) (q0_isSaved : Int32) (q0_at : (Nat → Int32)) (q0_line : (Nat → Int32)) (q0_lineLength : Int32) (q0_text : (Nat → Int32)) (q0_length : Int32) (q0_next : Int32) (q0_numbers : (Nat → Int32)) (q0_sort : Int32) (q0_done : Int32) (a1 : Int32) (r : Int32) (hf : fM_sumOf q0_w a1 = some r) : cP l E yX9_sumOf cX9_sumOf 2 (some .int) rmM_sumOf [.ref (ad 0), .int a1] (wM E ad q0_why q0_detail q0_reasonNow q0_detailNow q0_w q0_undos q0_savedRow q0_mind q0_changes q0_firstChange q0_isSaved q0_at q0_line q0_lineLength q0_text q0_length q0_next q0_numbers q0_sort q0_done) (some (.int r)) := by
  refine Met.ofW (cc := cX9_sumOf) (maxL := 2) (ret := (some .int)) (by decide) rfl ?_
  intro p e s m args below meth c s₁ B hml hv
  obtain ⟨hargs, hP, hK⟩ := hv
  have hx := B.exec
  have hb := B.bytes
  have hr := B.returns
  have hts := atoms_spec (ws := ws_ yX9_sumOf cX9_sumOf 2 (some .int)) B.pre
  have hta : ∀ w ∈ lw_all, w.before args s = true := fun w h => hts w (List.mem_cons_of_mem _ h)
  have hown : s.vm.findClass RX9 = some m.cls := findClass_of_methodNamed B.named
  have hlocks := B.notSynchronized
  have hC : Cx p s m args c cX9_sumOf 2 RX9 E := ⟨hx, hb, hml, hown, hta, hK⟩
  obtain ⟨ls, he, hl⟩ := entry_ (m := m) (n := 2) hargs (Nat.le_of_ble_eq_true rfl)
  rw [he]
  have hl : lv_has ls 2 [(0, .ref (ad 0)), (1, .int a1)] := hl
  show W p l e rmM_sumOf s m args below meth c s.heap [] 0 0 (MQ below (qP (some .int) (some (.int r))) args s 0 0 (fun _ => False)) (F0 m 0 ls [])
  rw [fM_sumOf] at hf
  refine lv_aload_n hx hb dX9_sumOf_0 rfl (lv_at hl 0 rfl) ?_
  refine lv_aload_n hx hb dX9_sumOf_1 rfl (lv_at hl 0 rfl) ?_
  refine lv_iload_n hx hb dX9_sumOf_2 rfl (lv_at hl 1 rfl) ?_
  obtain ⟨t1, ht1, hf⟩ := ob hf
  refine k_PVi hC LX9_167 ⟨Nat.le_of_ble_eq_true rfl, Nat.le_of_ble_eq_true rfl⟩ ⟨Nat.zero_le _, Nat.zero_le _⟩ (cM_beginOf l E ad q0_why q0_detail q0_reasonNow q0_detailNow q0_w q0_undos q0_savedRow q0_mind q0_changes q0_firstChange q0_isSaved q0_at q0_line q0_lineLength q0_text q0_length q0_next q0_numbers q0_sort q0_done a1 t1 ht1) rfl rfl hP rfl rfl hl.1 rfl (Nat.le_of_ble_eq_true rfl) rfl dX9_sumOf_3 (fun hz3 => ?_)
  refine lv_aload_n hx hb dX9_sumOf_6 rfl (lv_at hl 0 rfl) ?_
  refine lv_iload_n hx hb dX9_sumOf_7 rfl (lv_at hl 1 rfl) ?_
  refine lv_iconst (v := 1) hx hb dX9_sumOf_8 (by decide) ?_
  refine lv_iadd hx hb dX9_sumOf_9 ?_
  obtain ⟨t2, ht2, hf⟩ := ob hf
  refine k_PVi hC LX9_167 ⟨Nat.le_of_ble_eq_true rfl, Nat.le_of_ble_eq_true rfl⟩ ⟨Nat.zero_le _, Nat.zero_le _⟩ (cM_beginOf l E ad q0_why q0_detail q0_reasonNow q0_detailNow q0_w q0_undos q0_savedRow q0_mind q0_changes q0_firstChange q0_isSaved q0_at q0_line q0_lineLength q0_text q0_length q0_next q0_numbers q0_sort q0_done (a1 + (1 : Int32)) t2 ht2) rfl rfl hP rfl rfl hl.1 rfl (Nat.le_of_ble_eq_true rfl) rfl dX9_sumOf_10 (fun hz10 => ?_)
  obtain ⟨t3, ht3, hf⟩ := ob hf
  refine k_PVi hC LX9_170 ⟨Nat.le_of_ble_eq_true rfl, Nat.le_of_ble_eq_true rfl⟩ ⟨Nat.zero_le _, Nat.zero_le _⟩ (cM_sum l E ad q0_why q0_detail q0_reasonNow q0_detailNow q0_w q0_undos q0_savedRow q0_mind q0_changes q0_firstChange q0_isSaved q0_at q0_line q0_lineLength q0_text q0_length q0_next q0_numbers q0_sort q0_done t1 t2 t3 ht3) rfl rfl hP rfl rfl hl.1 rfl (Nat.le_of_ble_eq_true rfl) rfl dX9_sumOf_13 (fun hz13 => ?_)
  have hf := Option.some.inj hf
  exact e_Pi hC hr hlocks hf dX9_sumOf_16
abbrev rmM_sizeOf : Room := { frames := 4, cells := 0, slots := 0, locals := 87 }
set_option maxHeartbeats 4000000 in
set_option maxRecDepth 100000 in
theorem cM_sizeOf (l : Launch) (E : eE) (ad : Nat → Nat) (q0_why : Int32) (q0_detail : Int32) (q0_reasonNow : Int32) (q0_detailNow : Int32) (q0_w : (Nat → Int32)) (q0_undos : (Nat → Int32)) (q0_savedRow : (Nat → Int32)) (q0_mind : (Nat → Int32)) (q0_changes : Int32) (q0_firstChange : Int32) (q0_isSaved : Int32) (q0_at : (Nat → Int32)) (q0_line : (Nat → Int32)) (q0_lineLength : Int32) (q0_text : (Nat → Int32)) (q0_length : Int32) (q0_next : Int32) (q0_numbers : (Nat → Int32)) (q0_sort : Int32) (q0_done : Int32) (a1 : Int32) (r : Int32) (hf : fM_sizeOf q0_w a1 = some r) : cP l E yX9_sizeOf cX9_sizeOf 2 (some .int) rmM_sizeOf [.ref (ad 0), .int a1] (wM E ad q0_why q0_detail q0_reasonNow q0_detailNow q0_w q0_undos q0_savedRow q0_mind q0_changes q0_firstChange q0_isSaved q0_at q0_line q0_lineLength q0_text q0_length q0_next q0_numbers q0_sort q0_done) (some (.int r)) := by
  refine Met.ofW (cc := cX9_sizeOf) (maxL := 2) (ret := (some .int)) (by decide) rfl ?_
  intro p e s m args below meth c s₁ B hml hv
  obtain ⟨hargs, hP, hK⟩ := hv
  have hx := B.exec
  have hb := B.bytes
  have hr := B.returns
  have hts := atoms_spec (ws := ws_ yX9_sizeOf cX9_sizeOf 2 (some .int)) B.pre
  have hta : ∀ w ∈ lw_all, w.before args s = true := fun w h => hts w (List.mem_cons_of_mem _ h)
  have hown : s.vm.findClass RX9 = some m.cls := findClass_of_methodNamed B.named
  have hlocks := B.notSynchronized
  have hC : Cx p s m args c cX9_sizeOf 2 RX9 E := ⟨hx, hb, hml, hown, hta, hK⟩
  obtain ⟨ls, he, hl⟩ := entry_ (m := m) (n := 2) hargs (Nat.le_of_ble_eq_true rfl)
  rw [he]
  have hl : lv_has ls 2 [(0, .ref (ad 0)), (1, .int a1)] := hl
  show W p l e rmM_sizeOf s m args below meth c s.heap [] 0 0 (MQ below (qP (some .int) (some (.int r))) args s 0 0 (fun _ => False)) (F0 m 0 ls [])
  rw [fM_sizeOf] at hf
  refine lv_aload_n hx hb dX9_sizeOf_0 rfl (lv_at hl 0 rfl) ?_
  refine lv_iload_n hx hb dX9_sizeOf_1 rfl (lv_at hl 1 rfl) ?_
  refine lv_iconst (v := 1) hx hb dX9_sizeOf_2 (by decide) ?_
  refine lv_iadd hx hb dX9_sizeOf_3 ?_
  obtain ⟨t1, ht1, hf⟩ := ob hf
  refine k_PVi hC LX9_167 ⟨Nat.le_of_ble_eq_true rfl, Nat.le_of_ble_eq_true rfl⟩ ⟨Nat.zero_le _, Nat.zero_le _⟩ (cM_beginOf l E ad q0_why q0_detail q0_reasonNow q0_detailNow q0_w q0_undos q0_savedRow q0_mind q0_changes q0_firstChange q0_isSaved q0_at q0_line q0_lineLength q0_text q0_length q0_next q0_numbers q0_sort q0_done (a1 + (1 : Int32)) t1 ht1) rfl rfl hP rfl rfl hl.1 rfl (Nat.le_of_ble_eq_true rfl) rfl dX9_sizeOf_4 (fun hz4 => ?_)
  refine lv_aload_n hx hb dX9_sizeOf_7 rfl (lv_at hl 0 rfl) ?_
  refine lv_iload_n hx hb dX9_sizeOf_8 rfl (lv_at hl 1 rfl) ?_
  obtain ⟨t2, ht2, hf⟩ := ob hf
  refine k_PVi hC LX9_167 ⟨Nat.le_of_ble_eq_true rfl, Nat.le_of_ble_eq_true rfl⟩ ⟨Nat.zero_le _, Nat.zero_le _⟩ (cM_beginOf l E ad q0_why q0_detail q0_reasonNow q0_detailNow q0_w q0_undos q0_savedRow q0_mind q0_changes q0_firstChange q0_isSaved q0_at q0_line q0_lineLength q0_text q0_length q0_next q0_numbers q0_sort q0_done a1 t2 ht2) rfl rfl hP rfl rfl hl.1 rfl (Nat.le_of_ble_eq_true rfl) rfl dX9_sizeOf_9 (fun hz9 => ?_)
  refine lv_isub hx hb dX9_sizeOf_12 ?_
  have hf := Option.some.inj hf
  exact e_Pi hC hr hlocks hf dX9_sizeOf_13
