abbrev rmY_fill : Room := { frames := 1, cells := 0, slots := 0, locals := 21 }
set_option maxHeartbeats 4000000 in
set_option maxRecDepth 100000 in
theorem cY_fill (l : Launch) (E : eE) (ad : Nat → Nat) (q0_numbers : (Nat → Int32)) (ad2 : Nat → Nat) (q1_weights : (Nat → Int32)) (q1_size : Int32) (q1_marks : Int64) (q1_came : Int32) (q1_left : Int32) (q1_swaps : Int32) (a2 : Int32) (a3 : Int32) (t : (Nat → Int32)) (hf : fY_fill q0_numbers q1_weights a2 a3 = some t) : cW l E yX6_fill cX6_fill 6 none rmY_fill [.ref (ad 0), .ref (ad2 0), .int a2, .int a3] (wY E ad q0_numbers ++ wL E ad2 q1_weights q1_size q1_marks q1_came q1_left q1_swaps) none (wY E ad t ++ wL E ad2 q1_weights q1_size q1_marks q1_came q1_left q1_swaps) := by
  refine Met.ofW (cc := cX6_fill) (maxL := 6) (ret := none) (by decide) rfl ?_
  intro p e s m args below meth c s₁ B hml hv
  obtain ⟨hargs, hP, hK, hD0⟩ := hv
  have hx := B.exec
  have hb := B.bytes
  have hr := B.returns
  have hts := atoms_spec (ws := ws_ yX6_fill cX6_fill 6 none) B.pre
  have hta : ∀ w ∈ lw_all, w.before args s = true := fun w h => hts w (List.mem_cons_of_mem _ h)
  have hown : s.vm.findClass RX6 = some m.cls := findClass_of_methodNamed B.named
  have hlocks := B.notSynchronized
  have hC : Cx p s m args c cX6_fill 6 RX6 E := ⟨hx, hb, hml, hown, hta, hK⟩
  have hH : Hp E (adr (wY E ad q0_numbers ++ wL E ad2 q1_weights q1_size q1_marks q1_came q1_left q1_swaps)) (wY E ad q0_numbers ++ wL E ad2 q1_weights q1_size q1_marks q1_came q1_left q1_swaps) s.heap s.heap [] := Hp.start hP hD0
  obtain ⟨ls, he, hl⟩ := entry_ (m := m) (n := 6) hargs (Nat.le_of_ble_eq_true rfl)
  rw [he]
  have hl : lv_has ls 6 [(0, .ref (ad 0)), (1, .ref (ad2 0)), (2, .int a2), (3, .int a3)] := hl
  show W p l e rmY_fill s m args below meth c s.heap [] 0 0 (MQ below (qW E none none (wY E ad q0_numbers ++ wL E ad2 q1_weights q1_size q1_marks q1_came q1_left q1_swaps) (wY E ad t ++ wL E ad2 q1_weights q1_size q1_marks q1_came q1_left q1_swaps)) args s 0 0 (adr (wY E ad q0_numbers ++ wL E ad2 q1_weights q1_size q1_marks q1_came q1_left q1_swaps))) (F0 m 0 ls [])
  suffices hmain : ∀ (H : Heap) (locs : List Loc), Hp E (adr (wY E ad q0_numbers ++ wL E ad2 q1_weights q1_size q1_marks q1_came q1_left q1_swaps)) (wY E ad q0_numbers ++ wL E ad2 q1_weights q1_size q1_marks q1_came q1_left q1_swaps) s.heap H locs → W p l e rmY_fill s m args below meth c H locs 0 0 (MQ below (qW E none none (wY E ad q0_numbers ++ wL E ad2 q1_weights q1_size q1_marks q1_came q1_left q1_swaps) (wY E ad t ++ wL E ad2 q1_weights q1_size q1_marks q1_came q1_left q1_swaps)) args s 0 0 (adr (wY E ad q0_numbers ++ wL E ad2 q1_weights q1_size q1_marks q1_came q1_left q1_swaps))) (F0 m 0 ls []) from hmain _ _ hH
  clear hH
  have L30 : ∀ (n : Nat) (y0_0 : (Nat → Int32)) (a3 : Int32) (a4 : Int32) (ls : Array Slot), lv_has ls 6 [(0, .ref (ad 0)), (1, .ref (ad2 0)), (3, .int a3), (4, .int a4)] → ∀ (H : Heap) (locs : List Loc), Hp E (adr (wY E ad q0_numbers ++ wL E ad2 q1_weights q1_size q1_marks q1_came q1_left q1_swaps)) (wY E ad y0_0 ++ wL E ad2 q1_weights q1_size q1_marks q1_came q1_left q1_swaps) s.heap H locs → fY_fill_30 n y0_0 q1_weights a3 a4 = some t → W p l e rmY_fill s m args below meth c H locs 0 0 (MQ below (qW E none none (wY E ad q0_numbers ++ wL E ad2 q1_weights q1_size q1_marks q1_came q1_left q1_swaps) (wY E ad t ++ wL E ad2 q1_weights q1_size q1_marks q1_came q1_left q1_swaps)) args s 0 0 (adr (wY E ad q0_numbers ++ wL E ad2 q1_weights q1_size q1_marks q1_came q1_left q1_swaps))) (F0 m 30 ls []) := by
    intro n
    induction n with
    | zero => intro y0_0 a3 a4 ls hl H locs hH hf; cases hf
    | succ n ih =>
      intro y0_0 a3 a4 ls hl H locs hH hf
      rw [fY_fill_30] at hf
      refine lv_iload hx hb dX6_fill_30 (lv_at hl 3 rfl) ?_
      refine lv_iload_n hx hb dX6_fill_32 rfl (lv_at hl 2 rfl) ?_
      refine lv_icmp_ge (tgt := 76) hx hb dX6_fill_33 (by decide) (fun c2 => ?_) (fun c2 => ?_)
      · have hf := ite_t hf c2
        have hf := Option.some.inj hf
        subst hf
        exact e_Wv hC hH hr hlocks rfl dX6_fill_76
      · have hf := ite_f hf c2
        refine lv_aload_n hx hb dX6_fill_36 rfl (lv_at hl 1 rfl) ?_
        refine lv_iload hx hb dX6_fill_37 (lv_at hl 3 rfl) ?_
        obtain ⟨t3, ht3, hf⟩ := ob hf
        refine k_PVi hC LX6_15 ⟨Nat.le_of_ble_eq_true rfl, Nat.le_of_ble_eq_true rfl⟩ ⟨Nat.zero_le _, Nat.zero_le _⟩ (cL_at l E ad2 q1_weights q1_size q1_marks q1_came q1_left q1_swaps a4 t3 ht3) rfl rfl (hH.1.sub (ws' := wL E ad2 q1_weights q1_size q1_marks q1_came q1_left q1_swaps) [2, 3] rfl) rfl rfl hl.1 rfl (Nat.le_of_ble_eq_true rfl) rfl dX6_fill_39 (fun hz39 => ?_)
        refine lv_istore (lv' := [(5, .int t3), (0, .ref (ad 0)), (1, .ref (ad2 0)), (3, .int a3), (4, .int a4)]) hx hb dX6_fill_42 hl (by decide) rfl (fun ls hl => ?_)
        refine lv_iload hx hb dX6_fill_44 (lv_at hl 0 rfl) ?_
        refine lv_if_lt (tgt := 70) hx hb dX6_fill_46 (by decide) (fun c4 => ?_) (fun c4 => ?_)
        · have hf := ite_t hf c4
          refine lv_iinc (v := (a4 + (1 : Int32))) (lv' := [(4, .int (a4 + (1 : Int32))), (5, .int t3), (0, .ref (ad 0)), (1, .ref (ad2 0)), (3, .int a3)]) hx hb dX6_fill_70 hl (k := 4) rfl rfl (by decide) rfl (fun ls hl => ?_)
          refine lv_goto (tgt := 30) hx hb dX6_fill_73 (by decide) ?_
          exact ih y0_0 a3 (a4 + (1 : Int32)) ls (lv_sub hl [2, 3, 4, 0] rfl) _ _ hH hf
        · have hf := ite_f hf c4
          refine lv_iload hx hb dX6_fill_49 (lv_at hl 0 rfl) ?_
          refine lv_aload_n hx hb dX6_fill_51 rfl (lv_at hl 1 rfl) ?_
          refine gX6_9 hC hH.1 0 rfl (v := .ref (ad 1)) rfl dX6_fill_52 ?_
          refine va_alen (v := 32) hx hb hK.1 hH.1 1 0 rfl rfl rfl dX6_fill_55 ?_
          refine lv_icmp_ge (tgt := 70) hx hb dX6_fill_56 (by decide) (fun c5 => ?_) (fun c5 => ?_)
          · have hf := ite_t hf c5
            refine lv_iinc (v := (a4 + (1 : Int32))) (lv' := [(4, .int (a4 + (1 : Int32))), (5, .int t3), (0, .ref (ad 0)), (1, .ref (ad2 0)), (3, .int a3)]) hx hb dX6_fill_70 hl (k := 4) rfl rfl (by decide) rfl (fun ls hl => ?_)
            refine lv_goto (tgt := 30) hx hb dX6_fill_73 (by decide) ?_
            exact ih y0_0 a3 (a4 + (1 : Int32)) ls (lv_sub hl [2, 3, 4, 0] rfl) _ _ hH hf
          · have hf := ite_f hf c5
            refine lv_aload_n hx hb dX6_fill_59 rfl (lv_at hl 1 rfl) ?_
            refine gX6_9 hC hH.1 0 rfl (v := .ref (ad 1)) rfl dX6_fill_60 ?_
            refine lv_iload hx hb dX6_fill_63 (lv_at hl 0 rfl) ?_
            refine lv_dup2_11 hx hb dX6_fill_65 rfl rfl ?_
            obtain ⟨v6, hv6, hf⟩ := ob hf
            obtain ⟨hv6a, hv6b⟩ := ldA_ok hv6
            refine a_ild hC hH.1 1 rfl hv6a hv6b dX6_fill_66 ?_
            refine lv_iconst (v := 1) hx hb dX6_fill_67 (by decide) ?_
            refine lv_iadd hx hb dX6_fill_68 ?_
            obtain ⟨g7, hg7, hf⟩ := ob hf
            obtain ⟨hg7a, hg7b⟩ := stA_ok hg7
            refine a_ist hC hH 1 rfl hg7a hg7b (W1 := wY E ad g7 ++ wL E ad2 q1_weights q1_size q1_marks q1_came q1_left q1_swaps) rfl dX6_fill_69 (fun H locs hH => ?_)
            refine lv_iinc (v := (a4 + (1 : Int32))) (lv' := [(4, .int (a4 + (1 : Int32))), (5, .int t3), (0, .ref (ad 0)), (1, .ref (ad2 0)), (3, .int a3)]) hx hb dX6_fill_70 hl (k := 4) rfl rfl (by decide) rfl (fun ls hl => ?_)
            refine lv_goto (tgt := 30) hx hb dX6_fill_73 (by decide) ?_
            exact ih g7 a3 (a4 + (1 : Int32)) ls (lv_sub hl [2, 3, 4, 0] rfl) _ _ hH hf
  have L3 : ∀ (n : Nat) (y0_0 : (Nat → Int32)) (a2 : Int32) (a3 : Int32) (a4 : Int32) (ls : Array Slot), lv_has ls 6 [(0, .ref (ad 0)), (1, .ref (ad2 0)), (2, .int a2), (3, .int a3), (4, .int a4)] → ∀ (H : Heap) (locs : List Loc), Hp E (adr (wY E ad q0_numbers ++ wL E ad2 q1_weights q1_size q1_marks q1_came q1_left q1_swaps)) (wY E ad y0_0 ++ wL E ad2 q1_weights q1_size q1_marks q1_came q1_left q1_swaps) s.heap H locs → fY_fill_3 n y0_0 q1_weights a2 a3 a4 = some t → W p l e rmY_fill s m args below meth c H locs 0 0 (MQ below (qW E none none (wY E ad q0_numbers ++ wL E ad2 q1_weights q1_size q1_marks q1_came q1_left q1_swaps) (wY E ad t ++ wL E ad2 q1_weights q1_size q1_marks q1_came q1_left q1_swaps)) args s 0 0 (adr (wY E ad q0_numbers ++ wL E ad2 q1_weights q1_size q1_marks q1_came q1_left q1_swaps))) (F0 m 3 ls []) := by
    intro n
    induction n with
    | zero => intro y0_0 a2 a3 a4 ls hl H locs hH hf; cases hf
    | succ n ih =>
      intro y0_0 a2 a3 a4 ls hl H locs hH hf
      rw [fY_fill_3] at hf
      refine lv_iload hx hb dX6_fill_3 (lv_at hl 4 rfl) ?_
      refine lv_aload_n hx hb dX6_fill_5 rfl (lv_at hl 0 rfl) ?_
      refine gX6_9 hC hH.1 0 rfl (v := .ref (ad 1)) rfl dX6_fill_6 ?_
      refine va_alen (v := 32) hx hb hK.1 hH.1 1 0 rfl rfl rfl dX6_fill_9 ?_
      refine lv_icmp_ge (tgt := 27) hx hb dX6_fill_10 (by decide) (fun c1 => ?_) (fun c1 => ?_)
      · have hf := ite_t hf c1
        refine lv_iload_n hx hb dX6_fill_27 rfl (lv_at hl 2 rfl) ?_
        refine lv_istore (lv' := [(4, .int a2), (0, .ref (ad 0)), (1, .ref (ad2 0)), (2, .int a2), (3, .int a3)]) hx hb dX6_fill_28 hl (by decide) rfl (fun ls hl => ?_)
        exact L30 FU y0_0 a3 a2 ls (lv_sub hl [1, 2, 4, 0] rfl) _ _ hH hf
      · have hf := ite_f hf c1
        refine lv_aload_n hx hb dX6_fill_13 rfl (lv_at hl 0 rfl) ?_
        refine gX6_9 hC hH.1 0 rfl (v := .ref (ad 1)) rfl dX6_fill_14 ?_
        refine lv_iload hx hb dX6_fill_17 (lv_at hl 4 rfl) ?_
        refine lv_iconst (v := 0) hx hb dX6_fill_19 (by decide) ?_
        obtain ⟨g8, hg8, hf⟩ := ob hf
        obtain ⟨hg8a, hg8b⟩ := stA_ok hg8
        refine a_ist hC hH 1 rfl hg8a hg8b (W1 := wY E ad g8 ++ wL E ad2 q1_weights q1_size q1_marks q1_came q1_left q1_swaps) rfl dX6_fill_20 (fun H locs hH => ?_)
        refine lv_iinc (v := (a4 + (1 : Int32))) (lv' := [(4, .int (a4 + (1 : Int32))), (0, .ref (ad 0)), (1, .ref (ad2 0)), (2, .int a2), (3, .int a3)]) hx hb dX6_fill_21 hl (k := 4) rfl rfl (by decide) rfl (fun ls hl => ?_)
        refine lv_goto (tgt := 3) hx hb dX6_fill_24 (by decide) ?_
        exact ih g8 a2 a3 (a4 + (1 : Int32)) ls (lv_sub hl [1, 2, 3, 4, 0] rfl) _ _ hH hf
  intro H locs hH
  rw [fY_fill] at hf
  refine lv_iconst (v := 0) hx hb dX6_fill_0 (by decide) ?_
  refine lv_istore (lv' := [(4, .int (0 : Int32)), (0, .ref (ad 0)), (1, .ref (ad2 0)), (2, .int a2), (3, .int a3)]) hx hb dX6_fill_1 hl (by decide) rfl (fun ls hl => ?_)
  exact L3 FU q0_numbers a2 a3 (0 : Int32) ls (lv_sub hl [1, 2, 3, 4, 0] rfl) _ _ hH hf
abbrev rmY_unlike : Room := { frames := 0, cells := 0, slots := 0, locals := 0 }
set_option maxHeartbeats 4000000 in
set_option maxRecDepth 100000 in
theorem cY_unlike (l : Launch) (E : eE) (ad : Nat → Nat) (q0_numbers : (Nat → Int32)) (r : Int32) (hf : fY_unlike q0_numbers = some r) : cP l E yX6_unlike cX6_unlike 3 (some .int) rmY_unlike [.ref (ad 0)] (wY E ad q0_numbers) (some (.int r)) := by
  refine Met.ofW (cc := cX6_unlike) (maxL := 3) (ret := (some .int)) (by decide) rfl ?_
  intro p e s m args below meth c s₁ B hml hv
  obtain ⟨hargs, hP, hK⟩ := hv
  have hx := B.exec
  have hb := B.bytes
  have hr := B.returns
  have hts := atoms_spec (ws := ws_ yX6_unlike cX6_unlike 3 (some .int)) B.pre
  have hta : ∀ w ∈ lw_all, w.before args s = true := fun w h => hts w (List.mem_cons_of_mem _ h)
  have hown : s.vm.findClass RX6 = some m.cls := findClass_of_methodNamed B.named
  have hlocks := B.notSynchronized
  have hC : Cx p s m args c cX6_unlike 3 RX6 E := ⟨hx, hb, hml, hown, hta, hK⟩
  obtain ⟨ls, he, hl⟩ := entry_ (m := m) (n := 3) hargs (Nat.le_of_ble_eq_true rfl)
  rw [he]
  have hl : lv_has ls 3 [(0, .ref (ad 0))] := hl
  show W p l e rmY_unlike s m args below meth c s.heap [] 0 0 (MQ below (qP (some .int) (some (.int r))) args s 0 0 (fun _ => False)) (F0 m 0 ls [])
  have L4 : ∀ (n : Nat) (a1 : Int32) (a2 : Int32) (ls : Array Slot), lv_has ls 3 [(0, .ref (ad 0)), (1, .int a1), (2, .int a2)] → fY_unlike_4 n q0_numbers a1 a2 = some r → W p l e rmY_unlike s m args below meth c s.heap [] 0 0 (MQ below (qP (some .int) (some (.int r))) args s 0 0 (fun _ => False)) (F0 m 4 ls []) := by
    intro n
    induction n with
    | zero => intro a1 a2 ls hl hf; cases hf
    | succ n ih =>
      intro a1 a2 ls hl hf
      rw [fY_unlike_4] at hf
      refine lv_iload_n hx hb dX6_unlike_4 rfl (lv_at hl 2 rfl) ?_
      refine lv_aload_n hx hb dX6_unlike_5 rfl (lv_at hl 0 rfl) ?_
      refine gX6_9 hC hP 0 rfl (v := .ref (ad 1)) rfl dX6_unlike_6 ?_
      refine va_alen (v := 32) hx hb hK.1 hP 1 0 rfl rfl rfl dX6_unlike_9 ?_
      refine lv_icmp_ge (tgt := 31) hx hb dX6_unlike_10 (by decide) (fun c1 => ?_) (fun c1 => ?_)
      · have hf := ite_t hf c1
        refine lv_iload_n hx hb dX6_unlike_31 rfl (lv_at hl 1 rfl) ?_
        have hf := Option.some.inj hf
        exact e_Pi hC hr hlocks hf dX6_unlike_32
      · have hf := ite_f hf c1
        refine lv_aload_n hx hb dX6_unlike_13 rfl (lv_at hl 0 rfl) ?_
        refine gX6_9 hC hP 0 rfl (v := .ref (ad 1)) rfl dX6_unlike_14 ?_
        refine lv_iload_n hx hb dX6_unlike_17 rfl (lv_at hl 2 rfl) ?_
        obtain ⟨v2, hv2, hf⟩ := ob hf
        obtain ⟨hv2a, hv2b⟩ := ldA_ok hv2
        refine a_ild hC hP 1 rfl hv2a hv2b dX6_unlike_18 ?_
        refine lv_if_le (tgt := 25) hx hb dX6_unlike_19 (by decide) (fun c3 => ?_) (fun c3 => ?_)
        · have hf := ite_t hf c3
          refine lv_iinc (v := (a2 + (1 : Int32))) (lv' := [(2, .int (a2 + (1 : Int32))), (0, .ref (ad 0)), (1, .int a1)]) hx hb dX6_unlike_25 hl (k := 2) rfl rfl (by decide) rfl (fun ls hl => ?_)
          refine lv_goto (tgt := 4) hx hb dX6_unlike_28 (by decide) ?_
          exact ih a1 (a2 + (1 : Int32)) ls (lv_sub hl [1, 2, 0] rfl) hf
        · have hf := ite_f hf c3
          refine lv_iinc (v := (a1 + (1 : Int32))) (lv' := [(1, .int (a1 + (1 : Int32))), (0, .ref (ad 0)), (2, .int a2)]) hx hb dX6_unlike_22 hl (k := 1) rfl rfl (by decide) rfl (fun ls hl => ?_)
          refine lv_iinc (v := (a2 + (1 : Int32))) (lv' := [(2, .int (a2 + (1 : Int32))), (1, .int (a1 + (1 : Int32))), (0, .ref (ad 0))]) hx hb dX6_unlike_25 hl (k := 2) rfl rfl (by decide) rfl (fun ls hl => ?_)
          refine lv_goto (tgt := 4) hx hb dX6_unlike_28 (by decide) ?_
          exact ih (a1 + (1 : Int32)) (a2 + (1 : Int32)) ls (lv_sub hl [2, 1, 0] rfl) hf
  rw [fY_unlike] at hf
  refine lv_iconst (v := 0) hx hb dX6_unlike_0 (by decide) ?_
  refine lv_istore_n (lv' := [(1, .int (0 : Int32)), (0, .ref (ad 0))]) hx hb dX6_unlike_1 rfl hl (by decide) rfl (fun ls hl => ?_)
  refine lv_iconst (v := 0) hx hb dX6_unlike_2 (by decide) ?_
  refine lv_istore_n (lv' := [(2, .int (0 : Int32)), (1, .int (0 : Int32)), (0, .ref (ad 0))]) hx hb dX6_unlike_3 rfl hl (by decide) rfl (fun ls hl => ?_)
  exact L4 FU (0 : Int32) (0 : Int32) ls (lv_sub hl [2, 1, 0] rfl) hf
abbrev rmY_numberAheadOf : Room := { frames := 0, cells := 0, slots := 0, locals := 0 }
set_option maxHeartbeats 4000000 in
set_option maxRecDepth 100000 in
theorem cY_numberAheadOf (l : Launch) (E : eE) (ad : Nat → Nat) (q0_numbers : (Nat → Int32)) (a1 : Int32) (r : Int32) (hf : fY_numberAheadOf q0_numbers a1 = some r) : cP l E yX6_numberAheadOf cX6_numberAheadOf 5 (some .int) rmY_numberAheadOf [.ref (ad 0), .int a1] (wY E ad q0_numbers) (some (.int r)) := by
  refine Met.ofW (cc := cX6_numberAheadOf) (maxL := 5) (ret := (some .int)) (by decide) rfl ?_
  intro p e s m args below meth c s₁ B hml hv
  obtain ⟨hargs, hP, hK⟩ := hv
  have hx := B.exec
  have hb := B.bytes
  have hr := B.returns
  have hts := atoms_spec (ws := ws_ yX6_numberAheadOf cX6_numberAheadOf 5 (some .int)) B.pre
  have hta : ∀ w ∈ lw_all, w.before args s = true := fun w h => hts w (List.mem_cons_of_mem _ h)
  have hown : s.vm.findClass RX6 = some m.cls := findClass_of_methodNamed B.named
  have hlocks := B.notSynchronized
  have hC : Cx p s m args c cX6_numberAheadOf 5 RX6 E := ⟨hx, hb, hml, hown, hta, hK⟩
  obtain ⟨ls, he, hl⟩ := entry_ (m := m) (n := 5) hargs (Nat.le_of_ble_eq_true rfl)
  rw [he]
  have hl : lv_has ls 5 [(0, .ref (ad 0)), (1, .int a1)] := hl
  show W p l e rmY_numberAheadOf s m args below meth c s.heap [] 0 0 (MQ below (qP (some .int) (some (.int r))) args s 0 0 (fun _ => False)) (F0 m 0 ls [])
  have L29 : ∀ (n : Nat) (a1 : Int32) (a2 : Int32) (a3 : Int32) (a4 : Int32) (ls : Array Slot), lv_has ls 5 [(0, .ref (ad 0)), (1, .int a1), (2, .int a2), (3, .int a3), (4, .int a4)] → fY_numberAheadOf_29 n q0_numbers a1 a2 a3 a4 = some r → W p l e rmY_numberAheadOf s m args below meth c s.heap [] 0 0 (MQ below (qP (some .int) (some (.int r))) args s 0 0 (fun _ => False)) (F0 m 29 ls []) := by
    intro n
    induction n with
    | zero => intro a1 a2 a3 a4 ls hl hf; cases hf
    | succ n ih =>
      intro a1 a2 a3 a4 ls hl hf
      rw [fY_numberAheadOf_29] at hf
      refine lv_iload hx hb dX6_numberAheadOf_29 (lv_at hl 4 rfl) ?_
      refine lv_aload_n hx hb dX6_numberAheadOf_31 rfl (lv_at hl 0 rfl) ?_
      refine gX6_9 hC hP 0 rfl (v := .ref (ad 1)) rfl dX6_numberAheadOf_32 ?_
      refine va_alen (v := 32) hx hb hK.1 hP 1 0 rfl rfl rfl dX6_numberAheadOf_35 ?_
      refine lv_icmp_ge (tgt := 76) hx hb dX6_numberAheadOf_36 (by decide) (fun c2 => ?_) (fun c2 => ?_)
      · have hf := ite_t hf c2
        refine lv_iload_n hx hb dX6_numberAheadOf_76 rfl (lv_at hl 3 rfl) ?_
        have hf := Option.some.inj hf
        exact e_Pi hC hr hlocks hf dX6_numberAheadOf_77
      · have hf := ite_f hf c2
        refine lv_aload_n hx hb dX6_numberAheadOf_39 rfl (lv_at hl 0 rfl) ?_
        refine gX6_9 hC hP 0 rfl (v := .ref (ad 1)) rfl dX6_numberAheadOf_40 ?_
        refine lv_iload hx hb dX6_numberAheadOf_43 (lv_at hl 4 rfl) ?_
        obtain ⟨v3, hv3, hf⟩ := ob hf
        obtain ⟨hv3a, hv3b⟩ := ldA_ok hv3
        refine a_ild hC hP 1 rfl hv3a hv3b dX6_numberAheadOf_45 ?_
        refine lv_iload_n hx hb dX6_numberAheadOf_46 rfl (lv_at hl 2 rfl) ?_
        refine lv_icmp_gt (tgt := 67) hx hb dX6_numberAheadOf_47 (by decide) (fun c4 => ?_) (fun c4 => ?_)
        · have hf := ite_t hf c4
          refine lv_iinc (v := (a3 + (1 : Int32))) (lv' := [(3, .int (a3 + (1 : Int32))), (0, .ref (ad 0)), (1, .int a1), (2, .int a2), (4, .int a4)]) hx hb dX6_numberAheadOf_67 hl (k := 3) rfl rfl (by decide) rfl (fun ls hl => ?_)
          refine lv_iinc (v := (a4 + (1 : Int32))) (lv' := [(4, .int (a4 + (1 : Int32))), (3, .int (a3 + (1 : Int32))), (0, .ref (ad 0)), (1, .int a1), (2, .int a2)]) hx hb dX6_numberAheadOf_70 hl (k := 4) rfl rfl (by decide) rfl (fun ls hl => ?_)
          refine lv_goto (tgt := 29) hx hb dX6_numberAheadOf_73 (by decide) ?_
          exact ih a1 a2 (a3 + (1 : Int32)) (a4 + (1 : Int32)) ls (lv_sub hl [2, 3, 4, 1, 0] rfl) hf
        · have hf := ite_f hf c4
          refine lv_aload_n hx hb dX6_numberAheadOf_50 rfl (lv_at hl 0 rfl) ?_
          refine gX6_9 hC hP 0 rfl (v := .ref (ad 1)) rfl dX6_numberAheadOf_51 ?_
          refine lv_iload hx hb dX6_numberAheadOf_54 (lv_at hl 4 rfl) ?_
          obtain ⟨v5, hv5, hf⟩ := ob hf
          obtain ⟨hv5a, hv5b⟩ := ldA_ok hv5
          refine a_ild hC hP 1 rfl hv5a hv5b dX6_numberAheadOf_56 ?_
          refine lv_iload_n hx hb dX6_numberAheadOf_57 rfl (lv_at hl 2 rfl) ?_
          refine lv_icmp_ne (tgt := 70) hx hb dX6_numberAheadOf_58 (by decide) (fun c6 => ?_) (fun c6 => ?_)
          · have hf := ite_f hf c6
            refine lv_iinc (v := (a4 + (1 : Int32))) (lv' := [(4, .int (a4 + (1 : Int32))), (0, .ref (ad 0)), (1, .int a1), (2, .int a2), (3, .int a3)]) hx hb dX6_numberAheadOf_70 hl (k := 4) rfl rfl (by decide) rfl (fun ls hl => ?_)
            refine lv_goto (tgt := 29) hx hb dX6_numberAheadOf_73 (by decide) ?_
            exact ih a1 a2 a3 (a4 + (1 : Int32)) ls (lv_sub hl [1, 2, 3, 4, 0] rfl) hf
          · have hf := ite_t hf c6
            refine lv_iload hx hb dX6_numberAheadOf_61 (lv_at hl 4 rfl) ?_
            refine lv_iload_n hx hb dX6_numberAheadOf_63 rfl (lv_at hl 1 rfl) ?_
            refine lv_icmp_ge (tgt := 70) hx hb dX6_numberAheadOf_64 (by decide) (fun c7 => ?_) (fun c7 => ?_)
            · have hf := ite_t hf c7
              refine lv_iinc (v := (a4 + (1 : Int32))) (lv' := [(4, .int (a4 + (1 : Int32))), (0, .ref (ad 0)), (1, .int a1), (2, .int a2), (3, .int a3)]) hx hb dX6_numberAheadOf_70 hl (k := 4) rfl rfl (by decide) rfl (fun ls hl => ?_)
              refine lv_goto (tgt := 29) hx hb dX6_numberAheadOf_73 (by decide) ?_
              exact ih a1 a2 a3 (a4 + (1 : Int32)) ls (lv_sub hl [1, 2, 3, 4, 0] rfl) hf
            · have hf := ite_f hf c7
              refine lv_iinc (v := (a3 + (1 : Int32))) (lv' := [(3, .int (a3 + (1 : Int32))), (0, .ref (ad 0)), (1, .int a1), (2, .int a2), (4, .int a4)]) hx hb dX6_numberAheadOf_67 hl (k := 3) rfl rfl (by decide) rfl (fun ls hl => ?_)
              refine lv_iinc (v := (a4 + (1 : Int32))) (lv' := [(4, .int (a4 + (1 : Int32))), (3, .int (a3 + (1 : Int32))), (0, .ref (ad 0)), (1, .int a1), (2, .int a2)]) hx hb dX6_numberAheadOf_70 hl (k := 4) rfl rfl (by decide) rfl (fun ls hl => ?_)
              refine lv_goto (tgt := 29) hx hb dX6_numberAheadOf_73 (by decide) ?_
              exact ih a1 a2 (a3 + (1 : Int32)) (a4 + (1 : Int32)) ls (lv_sub hl [2, 3, 4, 1, 0] rfl) hf
  rw [fY_numberAheadOf] at hf
  refine lv_iload_n hx hb dX6_numberAheadOf_0 rfl (lv_at hl 1 rfl) ?_
  refine lv_if_lt (tgt := 22) hx hb dX6_numberAheadOf_1 (by decide) (fun c1 => ?_) (fun c1 => ?_)
  · have hf := ite_t hf c1
    refine lv_iconst (v := 0) hx hb dX6_numberAheadOf_22 (by decide) ?_
    refine lv_istore_n (lv' := [(2, .int (0 : Int32)), (0, .ref (ad 0)), (1, .int a1)]) hx hb dX6_numberAheadOf_23 rfl hl (by decide) rfl (fun ls hl => ?_)
    refine lv_iconst (v := 0) hx hb dX6_numberAheadOf_24 (by decide) ?_
    refine lv_istore_n (lv' := [(3, .int (0 : Int32)), (2, .int (0 : Int32)), (0, .ref (ad 0)), (1, .int a1)]) hx hb dX6_numberAheadOf_25 rfl hl (by decide) rfl (fun ls hl => ?_)
    refine lv_iconst (v := 0) hx hb dX6_numberAheadOf_26 (by decide) ?_
    refine lv_istore (lv' := [(4, .int (0 : Int32)), (3, .int (0 : Int32)), (2, .int (0 : Int32)), (0, .ref (ad 0)), (1, .int a1)]) hx hb dX6_numberAheadOf_27 hl (by decide) rfl (fun ls hl => ?_)
    exact L29 FU a1 (0 : Int32) (0 : Int32) (0 : Int32) ls (lv_sub hl [3, 4, 2, 1, 0] rfl) hf
  · have hf := ite_f hf c1
    refine lv_iload_n hx hb dX6_numberAheadOf_4 rfl (lv_at hl 1 rfl) ?_
    refine lv_aload_n hx hb dX6_numberAheadOf_5 rfl (lv_at hl 0 rfl) ?_
    refine gX6_9 hC hP 0 rfl (v := .ref (ad 1)) rfl dX6_numberAheadOf_6 ?_
    refine va_alen (v := 32) hx hb hK.1 hP 1 0 rfl rfl rfl dX6_numberAheadOf_9 ?_
    refine lv_icmp_ge (tgt := 22) hx hb dX6_numberAheadOf_10 (by decide) (fun c8 => ?_) (fun c8 => ?_)
    · have hf := ite_t hf c8
      refine lv_iconst (v := 0) hx hb dX6_numberAheadOf_22 (by decide) ?_
      refine lv_istore_n (lv' := [(2, .int (0 : Int32)), (0, .ref (ad 0)), (1, .int a1)]) hx hb dX6_numberAheadOf_23 rfl hl (by decide) rfl (fun ls hl => ?_)
      refine lv_iconst (v := 0) hx hb dX6_numberAheadOf_24 (by decide) ?_
      refine lv_istore_n (lv' := [(3, .int (0 : Int32)), (2, .int (0 : Int32)), (0, .ref (ad 0)), (1, .int a1)]) hx hb dX6_numberAheadOf_25 rfl hl (by decide) rfl (fun ls hl => ?_)
      refine lv_iconst (v := 0) hx hb dX6_numberAheadOf_26 (by decide) ?_
      refine lv_istore (lv' := [(4, .int (0 : Int32)), (3, .int (0 : Int32)), (2, .int (0 : Int32)), (0, .ref (ad 0)), (1, .int a1)]) hx hb dX6_numberAheadOf_27 hl (by decide) rfl (fun ls hl => ?_)
      exact L29 FU a1 (0 : Int32) (0 : Int32) (0 : Int32) ls (lv_sub hl [3, 4, 2, 1, 0] rfl) hf
    · have hf := ite_f hf c8
      refine lv_aload_n hx hb dX6_numberAheadOf_13 rfl (lv_at hl 0 rfl) ?_
      refine gX6_9 hC hP 0 rfl (v := .ref (ad 1)) rfl dX6_numberAheadOf_14 ?_
      refine lv_iload_n hx hb dX6_numberAheadOf_17 rfl (lv_at hl 1 rfl) ?_
      obtain ⟨v9, hv9, hf⟩ := ob hf
      obtain ⟨hv9a, hv9b⟩ := ldA_ok hv9
      refine a_ild hC hP 1 rfl hv9a hv9b dX6_numberAheadOf_18 ?_
      refine lv_goto (tgt := 23) hx hb dX6_numberAheadOf_19 (by decide) ?_
      refine lv_istore_n (lv' := [(2, .int v9), (0, .ref (ad 0)), (1, .int a1)]) hx hb dX6_numberAheadOf_23 rfl hl (by decide) rfl (fun ls hl => ?_)
      refine lv_iconst (v := 0) hx hb dX6_numberAheadOf_24 (by decide) ?_
      refine lv_istore_n (lv' := [(3, .int (0 : Int32)), (2, .int v9), (0, .ref (ad 0)), (1, .int a1)]) hx hb dX6_numberAheadOf_25 rfl hl (by decide) rfl (fun ls hl => ?_)
      refine lv_iconst (v := 0) hx hb dX6_numberAheadOf_26 (by decide) ?_
      refine lv_istore (lv' := [(4, .int (0 : Int32)), (3, .int (0 : Int32)), (2, .int v9), (0, .ref (ad 0)), (1, .int a1)]) hx hb dX6_numberAheadOf_27 hl (by decide) rfl (fun ls hl => ?_)
      exact L29 FU a1 v9 (0 : Int32) (0 : Int32) ls (lv_sub hl [3, 4, 2, 1, 0] rfl) hf
abbrev rmY_byNumber : Room := { frames := 1, cells := 0, slots := 0, locals := 24 }
set_option maxHeartbeats 4000000 in
set_option maxRecDepth 100000 in
theorem cY_byNumber (l : Launch) (E : eE) (ad : Nat → Nat) (q0_numbers : (Nat → Int32)) (a1 : Int32) (r : Int32) (hf : fY_byNumber q0_numbers a1 = some r) : cP l E yX6_byNumber cX6_byNumber 3 (some .int) rmY_byNumber [.ref (ad 0), .int a1] (wY E ad q0_numbers) (some (.int r)) := by
  refine Met.ofW (cc := cX6_byNumber) (maxL := 3) (ret := (some .int)) (by decide) rfl ?_
  intro p e s m args below meth c s₁ B hml hv
  obtain ⟨hargs, hP, hK⟩ := hv
  have hx := B.exec
  have hb := B.bytes
  have hr := B.returns
  have hts := atoms_spec (ws := ws_ yX6_byNumber cX6_byNumber 3 (some .int)) B.pre
  have hta : ∀ w ∈ lw_all, w.before args s = true := fun w h => hts w (List.mem_cons_of_mem _ h)
  have hown : s.vm.findClass RX6 = some m.cls := findClass_of_methodNamed B.named
  have hlocks := B.notSynchronized
  have hC : Cx p s m args c cX6_byNumber 3 RX6 E := ⟨hx, hb, hml, hown, hta, hK⟩
  obtain ⟨ls, he, hl⟩ := entry_ (m := m) (n := 3) hargs (Nat.le_of_ble_eq_true rfl)
  rw [he]
  have hl : lv_has ls 3 [(0, .ref (ad 0)), (1, .int a1)] := hl
  show W p l e rmY_byNumber s m args below meth c s.heap [] 0 0 (MQ below (qP (some .int) (some (.int r))) args s 0 0 (fun _ => False)) (F0 m 0 ls [])
  have L2 : ∀ (n : Nat) (a1 : Int32) (a2 : Int32) (ls : Array Slot), lv_has ls 3 [(0, .ref (ad 0)), (1, .int a1), (2, .int a2)] → fY_byNumber_2 n q0_numbers a1 a2 = some r → W p l e rmY_byNumber s m args below meth c s.heap [] 0 0 (MQ below (qP (some .int) (some (.int r))) args s 0 0 (fun _ => False)) (F0 m 2 ls []) := by
    intro n
    induction n with
    | zero => intro a1 a2 ls hl hf; cases hf
    | succ n ih =>
      intro a1 a2 ls hl hf
      rw [fY_byNumber_2] at hf
      refine lv_iload_n hx hb dX6_byNumber_2 rfl (lv_at hl 2 rfl) ?_
      refine lv_aload_n hx hb dX6_byNumber_3 rfl (lv_at hl 0 rfl) ?_
      refine gX6_9 hC hP 0 rfl (v := .ref (ad 1)) rfl dX6_byNumber_4 ?_
      refine va_alen (v := 32) hx hb hK.1 hP 1 0 rfl rfl rfl dX6_byNumber_7 ?_
      refine lv_icmp_ge (tgt := 37) hx hb dX6_byNumber_8 (by decide) (fun c1 => ?_) (fun c1 => ?_)
      · have hf := ite_t hf c1
        refine lv_iconst (v := (-1)) hx hb dX6_byNumber_37 (by decide) ?_
        have hf := Option.some.inj hf
        exact e_Pi hC hr hlocks hf dX6_byNumber_38
      · have hf := ite_f hf c1
        refine lv_aload_n hx hb dX6_byNumber_11 rfl (lv_at hl 0 rfl) ?_
        refine gX6_9 hC hP 0 rfl (v := .ref (ad 1)) rfl dX6_byNumber_12 ?_
        refine lv_iload_n hx hb dX6_byNumber_15 rfl (lv_at hl 2 rfl) ?_
        obtain ⟨v2, hv2, hf⟩ := ob hf
        obtain ⟨hv2a, hv2b⟩ := ldA_ok hv2
        refine a_ild hC hP 1 rfl hv2a hv2b dX6_byNumber_16 ?_
        refine lv_if_le (tgt := 31) hx hb dX6_byNumber_17 (by decide) (fun c3 => ?_) (fun c3 => ?_)
        · have hf := ite_t hf c3
          refine lv_iinc (v := (a2 + (1 : Int32))) (lv' := [(2, .int (a2 + (1 : Int32))), (0, .ref (ad 0)), (1, .int a1)]) hx hb dX6_byNumber_31 hl (k := 2) rfl rfl (by decide) rfl (fun ls hl => ?_)
          refine lv_goto (tgt := 2) hx hb dX6_byNumber_34 (by decide) ?_
          exact ih a1 (a2 + (1 : Int32)) ls (lv_sub hl [1, 2, 0] rfl) hf
        · have hf := ite_f hf c3
          refine lv_aload_n hx hb dX6_byNumber_20 rfl (lv_at hl 0 rfl) ?_
          refine lv_iload_n hx hb dX6_byNumber_21 rfl (lv_at hl 2 rfl) ?_
          obtain ⟨t4, ht4, hf⟩ := ob hf
          refine k_PVi hC LX6_21 ⟨Nat.le_of_ble_eq_true rfl, Nat.le_of_ble_eq_true rfl⟩ ⟨Nat.zero_le _, Nat.zero_le _⟩ (cY_numberAheadOf l E ad q0_numbers a2 t4 ht4) rfl rfl hP rfl rfl hl.1 rfl (Nat.le_of_ble_eq_true rfl) rfl dX6_byNumber_22 (fun hz22 => ?_)
          refine lv_iload_n hx hb dX6_byNumber_25 rfl (lv_at hl 1 rfl) ?_
          refine lv_icmp_ne (tgt := 31) hx hb dX6_byNumber_26 (by decide) (fun c5 => ?_) (fun c5 => ?_)
          · have hf := ite_f hf c5
            refine lv_iinc (v := (a2 + (1 : Int32))) (lv' := [(2, .int (a2 + (1 : Int32))), (0, .ref (ad 0)), (1, .int a1)]) hx hb dX6_byNumber_31 hl (k := 2) rfl rfl (by decide) rfl (fun ls hl => ?_)
            refine lv_goto (tgt := 2) hx hb dX6_byNumber_34 (by decide) ?_
            exact ih a1 (a2 + (1 : Int32)) ls (lv_sub hl [1, 2, 0] rfl) hf
          · have hf := ite_t hf c5
            refine lv_iload_n hx hb dX6_byNumber_29 rfl (lv_at hl 2 rfl) ?_
            have hf := Option.some.inj hf
            exact e_Pi hC hr hlocks hf dX6_byNumber_30
  rw [fY_byNumber] at hf
  refine lv_iconst (v := 0) hx hb dX6_byNumber_0 (by decide) ?_
  refine lv_istore_n (lv' := [(2, .int (0 : Int32)), (0, .ref (ad 0)), (1, .int a1)]) hx hb dX6_byNumber_1 rfl hl (by decide) rfl (fun ls hl => ?_)
  exact L2 FU a1 (0 : Int32) ls (lv_sub hl [1, 2, 0] rfl) hf
