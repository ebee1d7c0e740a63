abbrev rmZ_lay : Room := { frames := 0, cells := 0, slots := 0, locals := 0 }
set_option maxHeartbeats 4000000 in
set_option maxRecDepth 100000 in
theorem cZ_lay (l : Launch) (E : eE) (ad : Nat → Nat) (q0_sorted : (Nat → Int32)) (q0_size : Int32) (a1 : Int32) (t : (Nat → Int32) × Int32) (hf : fZ_lay q0_sorted q0_size a1 = some t) : cW l E yX5_lay cX5_lay 3 none rmZ_lay [.ref (ad 0), .int a1] (wZ E ad q0_sorted q0_size) none (wZ E ad t.1 t.2) := by
  refine Met.ofW (cc := cX5_lay) (maxL := 3) (ret := none) (by decide) rfl ?_
  intro p e s m args below meth c s₁ B hml hv
  obtain ⟨hargs, hP, hK, hD0⟩ := hv
  have hx := B.exec
  have hb := B.bytes
  have hr := B.returns
  have hts := atoms_spec (ws := ws_ yX5_lay cX5_lay 3 none) B.pre
  have hta : ∀ w ∈ lw_all, w.before args s = true := fun w h => hts w (List.mem_cons_of_mem _ h)
  have hown : s.vm.findClass RX5 = some m.cls := findClass_of_methodNamed B.named
  have hlocks := B.notSynchronized
  have hC : Cx p s m args c cX5_lay 3 RX5 E := ⟨hx, hb, hml, hown, hta, hK⟩
  have hH : Hp E (adr (wZ E ad q0_sorted q0_size)) (wZ E ad q0_sorted q0_size) s.heap s.heap [] := Hp.start hP hD0
  obtain ⟨ls, he, hl⟩ := entry_ (m := m) (n := 3) hargs (Nat.le_of_ble_eq_true rfl)
  rw [he]
  have hl : lv_has ls 3 [(0, .ref (ad 0)), (1, .int a1)] := hl
  show W p l e rmZ_lay s m args below meth c s.heap [] 0 0 (MQ below (qW E none none (wZ E ad q0_sorted q0_size) (wZ E ad t.1 t.2)) args s 0 0 (adr (wZ E ad q0_sorted q0_size))) (F0 m 0 ls [])
  suffices hmain : ∀ (H : Heap) (locs : List Loc), Hp E (adr (wZ E ad q0_sorted q0_size)) (wZ E ad q0_sorted q0_size) s.heap H locs → W p l e rmZ_lay s m args below meth c H locs 0 0 (MQ below (qW E none none (wZ E ad q0_sorted q0_size) (wZ E ad t.1 t.2)) args s 0 0 (adr (wZ E ad q0_sorted q0_size))) (F0 m 0 ls []) from hmain _ _ hH
  clear hH
  have L5 : ∀ (n : Nat) (y0_0 : (Nat → Int32)) (y0_1 : Int32) (a1 : Int32) (a2 : Int32) (ls : Array Slot), lv_has ls 3 [(0, .ref (ad 0)), (1, .int a1), (2, .int a2)] → ∀ (H : Heap) (locs : List Loc), Hp E (adr (wZ E ad q0_sorted q0_size)) (wZ E ad y0_0 y0_1) s.heap H locs → fZ_lay_5 n y0_0 y0_1 a1 a2 = some t → W p l e rmZ_lay s m args below meth c H locs 0 0 (MQ below (qW E none none (wZ E ad q0_sorted q0_size) (wZ E ad t.1 t.2)) args s 0 0 (adr (wZ E ad q0_sorted q0_size))) (F0 m 5 ls []) := by
    intro n
    induction n with
    | zero => intro y0_0 y0_1 a1 a2 ls hl H locs hH hf; cases hf
    | succ n ih =>
      intro y0_0 y0_1 a1 a2 ls hl H locs hH hf
      rw [fZ_lay_5] at hf
      refine lv_iload_n hx hb dX5_lay_5 rfl (lv_at hl 2 rfl) ?_
      refine lv_if_le (tgt := 50) hx hb dX5_lay_6 (by decide) (fun c1 => ?_) (fun c1 => ?_)
      · have hf := ite_t hf c1
        refine lv_iload_n hx hb dX5_lay_50 rfl (lv_at hl 2 rfl) ?_
        refine lv_if_lt (tgt := 80) hx hb dX5_lay_51 (by decide) (fun c2 => ?_) (fun c2 => ?_)
        · have hf := ite_t hf c2
          have hf := Option.some.inj hf
          subst hf
          exact e_Wv hC hH hr hlocks rfl dX5_lay_80
        · have hf := ite_f hf c2
          refine lv_iload_n hx hb dX5_lay_54 rfl (lv_at hl 2 rfl) ?_
          refine lv_aload_n hx hb dX5_lay_55 rfl (lv_at hl 0 rfl) ?_
          refine gX5_9 hC hH.1 0 rfl (v := .ref (ad 1)) rfl dX5_lay_56 ?_
          refine va_alen (v := 64) hx hb hK.1 hH.1 1 0 rfl rfl rfl dX5_lay_59 ?_
          refine lv_icmp_ge (tgt := 80) hx hb dX5_lay_60 (by decide) (fun c3 => ?_) (fun c3 => ?_)
          · have hf := ite_t hf c3
            have hf := Option.some.inj hf
            subst hf
            exact e_Wv hC hH hr hlocks rfl dX5_lay_80
          · have hf := ite_f hf c3
            refine lv_aload_n hx hb dX5_lay_63 rfl (lv_at hl 0 rfl) ?_
            refine gX5_9 hC hH.1 0 rfl (v := .ref (ad 1)) rfl dX5_lay_64 ?_
            refine lv_iload_n hx hb dX5_lay_67 rfl (lv_at hl 2 rfl) ?_
            refine lv_iload_n hx hb dX5_lay_68 rfl (lv_at hl 1 rfl) ?_
            obtain ⟨g4, hg4, hf⟩ := ob hf
            obtain ⟨hg4a, hg4b⟩ := stA_ok hg4
            refine a_ist hC hH 1 rfl hg4a hg4b (W1 := wZ E ad g4 y0_1) rfl dX5_lay_69 (fun H locs hH => ?_)
            refine lv_aload_n hx hb dX5_lay_70 rfl (lv_at hl 0 rfl) ?_
            refine lv_dup hx hb dX5_lay_71 rfl ?_
            refine gX5_15 hC hH.1 0 rfl (v := .int y0_1) rfl dX5_lay_72 ?_
            refine lv_iconst (v := 1) hx hb dX5_lay_75 (by decide) ?_
            refine lv_iadd hx hb dX5_lay_76 ?_
            refine pX5_15 hC hH 0 rfl (v := .int (y0_1 + (1 : Int32))) rfl rfl (Nat.le_of_ble_eq_true rfl) (W1 := wZ E ad g4 (y0_1 + (1 : Int32))) rfl dX5_lay_77 (fun H locs hH => ?_)
            have hf := Option.some.inj hf
            subst hf
            exact e_Wv hC hH hr hlocks rfl dX5_lay_80
      · have hf := ite_f hf c1
        refine lv_iload_n hx hb dX5_lay_9 rfl (lv_at hl 2 rfl) ?_
        refine lv_aload_n hx hb dX5_lay_10 rfl (lv_at hl 0 rfl) ?_
        refine gX5_9 hC hH.1 0 rfl (v := .ref (ad 1)) rfl dX5_lay_11 ?_
        refine va_alen (v := 64) hx hb hK.1 hH.1 1 0 rfl rfl rfl dX5_lay_14 ?_
        refine lv_icmp_ge (tgt := 50) hx hb dX5_lay_15 (by decide) (fun c5 => ?_) (fun c5 => ?_)
        · have hf := ite_t hf c5
          refine lv_iload_n hx hb dX5_lay_50 rfl (lv_at hl 2 rfl) ?_
          refine lv_if_lt (tgt := 80) hx hb dX5_lay_51 (by decide) (fun c6 => ?_) (fun c6 => ?_)
          · have hf := ite_t hf c6
            have hf := Option.some.inj hf
            subst hf
            exact e_Wv hC hH hr hlocks rfl dX5_lay_80
          · have hf := ite_f hf c6
            refine lv_iload_n hx hb dX5_lay_54 rfl (lv_at hl 2 rfl) ?_
            refine lv_aload_n hx hb dX5_lay_55 rfl (lv_at hl 0 rfl) ?_
            refine gX5_9 hC hH.1 0 rfl (v := .ref (ad 1)) rfl dX5_lay_56 ?_
            refine va_alen (v := 64) hx hb hK.1 hH.1 1 0 rfl rfl rfl dX5_lay_59 ?_
            refine lv_icmp_ge (tgt := 80) hx hb dX5_lay_60 (by decide) (fun c7 => ?_) (fun c7 => ?_)
            · have hf := ite_t hf c7
              have hf := Option.some.inj hf
              subst hf
              exact e_Wv hC hH hr hlocks rfl dX5_lay_80
            · have hf := ite_f hf c7
              refine lv_aload_n hx hb dX5_lay_63 rfl (lv_at hl 0 rfl) ?_
              refine gX5_9 hC hH.1 0 rfl (v := .ref (ad 1)) rfl dX5_lay_64 ?_
              refine lv_iload_n hx hb dX5_lay_67 rfl (lv_at hl 2 rfl) ?_
              refine lv_iload_n hx hb dX5_lay_68 rfl (lv_at hl 1 rfl) ?_
              obtain ⟨g8, hg8, hf⟩ := ob hf
              obtain ⟨hg8a, hg8b⟩ := stA_ok hg8
              refine a_ist hC hH 1 rfl hg8a hg8b (W1 := wZ E ad g8 y0_1) rfl dX5_lay_69 (fun H locs hH => ?_)
              refine lv_aload_n hx hb dX5_lay_70 rfl (lv_at hl 0 rfl) ?_
              refine lv_dup hx hb dX5_lay_71 rfl ?_
              refine gX5_15 hC hH.1 0 rfl (v := .int y0_1) rfl dX5_lay_72 ?_
              refine lv_iconst (v := 1) hx hb dX5_lay_75 (by decide) ?_
              refine lv_iadd hx hb dX5_lay_76 ?_
              refine pX5_15 hC hH 0 rfl (v := .int (y0_1 + (1 : Int32))) rfl rfl (Nat.le_of_ble_eq_true rfl) (W1 := wZ E ad g8 (y0_1 + (1 : Int32))) rfl dX5_lay_77 (fun H locs hH => ?_)
              have hf := Option.some.inj hf
              subst hf
              exact e_Wv hC hH hr hlocks rfl dX5_lay_80
        · have hf := ite_f hf c5
          refine lv_aload_n hx hb dX5_lay_18 rfl (lv_at hl 0 rfl) ?_
          refine gX5_9 hC hH.1 0 rfl (v := .ref (ad 1)) rfl dX5_lay_19 ?_
          refine lv_iload_n hx hb dX5_lay_22 rfl (lv_at hl 2 rfl) ?_
          refine lv_iconst (v := 1) hx hb dX5_lay_23 (by decide) ?_
          refine lv_isub hx hb dX5_lay_24 ?_
          obtain ⟨v9, hv9, hf⟩ := ob hf
          obtain ⟨hv9a, hv9b⟩ := ldA_ok hv9
          refine a_ild hC hH.1 1 rfl hv9a hv9b dX5_lay_25 ?_
          refine lv_iload_n hx hb dX5_lay_26 rfl (lv_at hl 1 rfl) ?_
          refine lv_icmp_le (tgt := 50) hx hb dX5_lay_27 (by decide) (fun c10 => ?_) (fun c10 => ?_)
          · have hf := ite_t hf c10
            refine lv_iload_n hx hb dX5_lay_50 rfl (lv_at hl 2 rfl) ?_
            refine lv_if_lt (tgt := 80) hx hb dX5_lay_51 (by decide) (fun c11 => ?_) (fun c11 => ?_)
            · have hf := ite_t hf c11
              have hf := Option.some.inj hf
              subst hf
              exact e_Wv hC hH hr hlocks rfl dX5_lay_80
            · have hf := ite_f hf c11
              refine lv_iload_n hx hb dX5_lay_54 rfl (lv_at hl 2 rfl) ?_
              refine lv_aload_n hx hb dX5_lay_55 rfl (lv_at hl 0 rfl) ?_
              refine gX5_9 hC hH.1 0 rfl (v := .ref (ad 1)) rfl dX5_lay_56 ?_
              refine va_alen (v := 64) hx hb hK.1 hH.1 1 0 rfl rfl rfl dX5_lay_59 ?_
              refine lv_icmp_ge (tgt := 80) hx hb dX5_lay_60 (by decide) (fun c12 => ?_) (fun c12 => ?_)
              · have hf := ite_t hf c12
                have hf := Option.some.inj hf
                subst hf
                exact e_Wv hC hH hr hlocks rfl dX5_lay_80
              · have hf := ite_f hf c12
                refine lv_aload_n hx hb dX5_lay_63 rfl (lv_at hl 0 rfl) ?_
                refine gX5_9 hC hH.1 0 rfl (v := .ref (ad 1)) rfl dX5_lay_64 ?_
                refine lv_iload_n hx hb dX5_lay_67 rfl (lv_at hl 2 rfl) ?_
                refine lv_iload_n hx hb dX5_lay_68 rfl (lv_at hl 1 rfl) ?_
                obtain ⟨g13, hg13, hf⟩ := ob hf
                obtain ⟨hg13a, hg13b⟩ := stA_ok hg13
                refine a_ist hC hH 1 rfl hg13a hg13b (W1 := wZ E ad g13 y0_1) rfl dX5_lay_69 (fun H locs hH => ?_)
                refine lv_aload_n hx hb dX5_lay_70 rfl (lv_at hl 0 rfl) ?_
                refine lv_dup hx hb dX5_lay_71 rfl ?_
                refine gX5_15 hC hH.1 0 rfl (v := .int y0_1) rfl dX5_lay_72 ?_
                refine lv_iconst (v := 1) hx hb dX5_lay_75 (by decide) ?_
                refine lv_iadd hx hb dX5_lay_76 ?_
                refine pX5_15 hC hH 0 rfl (v := .int (y0_1 + (1 : Int32))) rfl rfl (Nat.le_of_ble_eq_true rfl) (W1 := wZ E ad g13 (y0_1 + (1 : Int32))) rfl dX5_lay_77 (fun H locs hH => ?_)
                have hf := Option.some.inj hf
                subst hf
                exact e_Wv hC hH hr hlocks rfl dX5_lay_80
          · have hf := ite_f hf c10
            refine lv_aload_n hx hb dX5_lay_30 rfl (lv_at hl 0 rfl) ?_
            refine gX5_9 hC hH.1 0 rfl (v := .ref (ad 1)) rfl dX5_lay_31 ?_
            refine lv_iload_n hx hb dX5_lay_34 rfl (lv_at hl 2 rfl) ?_
            refine lv_aload_n hx hb dX5_lay_35 rfl (lv_at hl 0 rfl) ?_
            refine gX5_9 hC hH.1 0 rfl (v := .ref (ad 1)) rfl dX5_lay_36 ?_
            refine lv_iload_n hx hb dX5_lay_39 rfl (lv_at hl 2 rfl) ?_
            refine lv_iconst (v := 1) hx hb dX5_lay_40 (by decide) ?_
            refine lv_isub hx hb dX5_lay_41 ?_
            obtain ⟨v14, hv14, hf⟩ := ob hf
            obtain ⟨hv14a, hv14b⟩ := ldA_ok hv14
            refine a_ild hC hH.1 1 rfl hv14a hv14b dX5_lay_42 ?_
            obtain ⟨g15, hg15, hf⟩ := ob hf
            obtain ⟨hg15a, hg15b⟩ := stA_ok hg15
            refine a_ist hC hH 1 rfl hg15a hg15b (W1 := wZ E ad g15 y0_1) rfl dX5_lay_43 (fun H locs hH => ?_)
            refine lv_iinc (v := (a2 + (-1 : Int32))) (lv' := [(2, .int (a2 + (-1 : Int32))), (0, .ref (ad 0)), (1, .int a1)]) hx hb dX5_lay_44 hl (k := 2) rfl rfl (by decide) rfl (fun ls hl => ?_)
            refine lv_goto (tgt := 5) hx hb dX5_lay_47 (by decide) ?_
            exact ih g15 y0_1 a1 (a2 + (-1 : Int32)) ls (lv_sub hl [1, 2, 0] rfl) _ _ hH hf
  intro H locs hH
  rw [fZ_lay] at hf
  refine lv_aload_n hx hb dX5_lay_0 rfl (lv_at hl 0 rfl) ?_
  refine gX5_15 hC hH.1 0 rfl (v := .int q0_size) rfl dX5_lay_1 ?_
  refine lv_istore_n (lv' := [(2, .int q0_size), (0, .ref (ad 0)), (1, .int a1)]) hx hb dX5_lay_4 rfl hl (by decide) rfl (fun ls hl => ?_)
  exact L5 FU q0_sorted q0_size a1 q0_size ls (lv_sub hl [1, 2, 0] rfl) _ _ hH hf
abbrev rmZ_fill : Room := { frames := 1, cells := 0, slots := 0, locals := 22 }
set_option maxHeartbeats 4000000 in
set_option maxRecDepth 100000 in
theorem cZ_fill (l : Launch) (E : eE) (ad : Nat → Nat) (q0_sorted : (Nat → Int32)) (q0_size : Int32) (ad2 : Nat → Nat) (q1_weights : (Nat → Int32)) (q1_size : Int32) (q1_marks : Int64) (q1_came : Int32) (q1_left : Int32) (q1_swaps : Int32) (a2 : Int32) (a3 : Int32) (t : (Nat → Int32) × Int32) (hf : fZ_fill q0_sorted q0_size q1_weights a2 a3 = some t) : cW l E yX5_fill cX5_fill 5 none rmZ_fill [.ref (ad 0), .ref (ad2 0), .int a2, .int a3] (wZ E ad q0_sorted q0_size ++ wL E ad2 q1_weights q1_size q1_marks q1_came q1_left q1_swaps) none (wZ E ad t.1 t.2 ++ wL E ad2 q1_weights q1_size q1_marks q1_came q1_left q1_swaps) := by
  refine Met.ofW (cc := cX5_fill) (maxL := 5) (ret := none) (by decide) rfl ?_
  intro p e s m args below meth c s₁ B hml hv
  obtain ⟨hargs, hP, hK, hD0⟩ := hv
  have hx := B.exec
  have hb := B.bytes
  have hr := B.returns
  have hts := atoms_spec (ws := ws_ yX5_fill cX5_fill 5 none) B.pre
  have hta : ∀ w ∈ lw_all, w.before args s = true := fun w h => hts w (List.mem_cons_of_mem _ h)
  have hown : s.vm.findClass RX5 = some m.cls := findClass_of_methodNamed B.named
  have hlocks := B.notSynchronized
  have hC : Cx p s m args c cX5_fill 5 RX5 E := ⟨hx, hb, hml, hown, hta, hK⟩
  have hH : Hp E (adr (wZ E ad q0_sorted q0_size ++ wL E ad2 q1_weights q1_size q1_marks q1_came q1_left q1_swaps)) (wZ E ad q0_sorted q0_size ++ wL E ad2 q1_weights q1_size q1_marks q1_came q1_left q1_swaps) s.heap s.heap [] := Hp.start hP hD0
  obtain ⟨ls, he, hl⟩ := entry_ (m := m) (n := 5) hargs (Nat.le_of_ble_eq_true rfl)
  rw [he]
  have hl : lv_has ls 5 [(0, .ref (ad 0)), (1, .ref (ad2 0)), (2, .int a2), (3, .int a3)] := hl
  show W p l e rmZ_fill s m args below meth c s.heap [] 0 0 (MQ below (qW E none none (wZ E ad q0_sorted q0_size ++ wL E ad2 q1_weights q1_size q1_marks q1_came q1_left q1_swaps) (wZ E ad t.1 t.2 ++ wL E ad2 q1_weights q1_size q1_marks q1_came q1_left q1_swaps)) args s 0 0 (adr (wZ E ad q0_sorted q0_size ++ wL E ad2 q1_weights q1_size q1_marks q1_came q1_left q1_swaps))) (F0 m 0 ls [])
  suffices hmain : ∀ (H : Heap) (locs : List Loc), Hp E (adr (wZ E ad q0_sorted q0_size ++ wL E ad2 q1_weights q1_size q1_marks q1_came q1_left q1_swaps)) (wZ E ad q0_sorted q0_size ++ wL E ad2 q1_weights q1_size q1_marks q1_came q1_left q1_swaps) s.heap H locs → W p l e rmZ_fill s m args below meth c H locs 0 0 (MQ below (qW E none none (wZ E ad q0_sorted q0_size ++ wL E ad2 q1_weights q1_size q1_marks q1_came q1_left q1_swaps) (wZ E ad t.1 t.2 ++ wL E ad2 q1_weights q1_size q1_marks q1_came q1_left q1_swaps)) args s 0 0 (adr (wZ E ad q0_sorted q0_size ++ wL E ad2 q1_weights q1_size q1_marks q1_came q1_left q1_swaps))) (F0 m 0 ls []) from hmain _ _ hH
  clear hH
  have L8 : ∀ (n : Nat) (y0_0 : (Nat → Int32)) (y0_1 : Int32) (a3 : Int32) (a4 : Int32) (ls : Array Slot), lv_has ls 5 [(0, .ref (ad 0)), (1, .ref (ad2 0)), (3, .int a3), (4, .int a4)] → ∀ (H : Heap) (locs : List Loc), Hp E (adr (wZ E ad q0_sorted q0_size ++ wL E ad2 q1_weights q1_size q1_marks q1_came q1_left q1_swaps)) (wZ E ad y0_0 y0_1 ++ wL E ad2 q1_weights q1_size q1_marks q1_came q1_left q1_swaps) s.heap H locs → fZ_fill_8 n y0_0 y0_1 q1_weights a3 a4 = some t → W p l e rmZ_fill s m args below meth c H locs 0 0 (MQ below (qW E none none (wZ E ad q0_sorted q0_size ++ wL E ad2 q1_weights q1_size q1_marks q1_came q1_left q1_swaps) (wZ E ad t.1 t.2 ++ wL E ad2 q1_weights q1_size q1_marks q1_came q1_left q1_swaps)) args s 0 0 (adr (wZ E ad q0_sorted q0_size ++ wL E ad2 q1_weights q1_size q1_marks q1_came q1_left q1_swaps))) (F0 m 8 ls []) := by
    intro n
    induction n with
    | zero => intro y0_0 y0_1 a3 a4 ls hl H locs hH hf; cases hf
    | succ n ih =>
      intro y0_0 y0_1 a3 a4 ls hl H locs hH hf
      rw [fZ_fill_8] at hf
      refine lv_iload hx hb dX5_fill_8 (lv_at hl 3 rfl) ?_
      refine lv_iload_n hx hb dX5_fill_10 rfl (lv_at hl 2 rfl) ?_
      refine lv_icmp_ge (tgt := 42) hx hb dX5_fill_11 (by decide) (fun c1 => ?_) (fun c1 => ?_)
      · have hf := ite_t hf c1
        have hf := Option.some.inj hf
        subst hf
        exact e_Wv hC hH hr hlocks rfl dX5_fill_42
      · have hf := ite_f hf c1
        refine lv_aload_n hx hb dX5_fill_14 rfl (lv_at hl 0 rfl) ?_
        refine gX5_15 hC hH.1 0 rfl (v := .int y0_1) rfl dX5_fill_15 ?_
        refine lv_aload_n hx hb dX5_fill_18 rfl (lv_at hl 0 rfl) ?_
        refine gX5_9 hC hH.1 0 rfl (v := .ref (ad 1)) rfl dX5_fill_19 ?_
        refine va_alen (v := 64) hx hb hK.1 hH.1 1 0 rfl rfl rfl dX5_fill_22 ?_
        refine lv_icmp_ge (tgt := 42) hx hb dX5_fill_23 (by decide) (fun c2 => ?_) (fun c2 => ?_)
        · have hf := ite_t hf c2
          have hf := Option.some.inj hf
          subst hf
          exact e_Wv hC hH hr hlocks rfl dX5_fill_42
        · have hf := ite_f hf c2
          refine lv_aload_n hx hb dX5_fill_26 rfl (lv_at hl 0 rfl) ?_
          refine lv_aload_n hx hb dX5_fill_27 rfl (lv_at hl 1 rfl) ?_
          refine lv_iload hx hb dX5_fill_28 (lv_at hl 3 rfl) ?_
          obtain ⟨t3, ht3, hf⟩ := ob hf
          refine k_PVi hC LX5_19 ⟨Nat.le_of_ble_eq_true rfl, Nat.le_of_ble_eq_true rfl⟩ ⟨Nat.zero_le _, Nat.zero_le _⟩ (cL_at l E ad2 q1_weights q1_size q1_marks q1_came q1_left q1_swaps a4 t3 ht3) rfl rfl (hH.1.sub (ws' := wL E ad2 q1_weights q1_size q1_marks q1_came q1_left q1_swaps) [2, 3] rfl) rfl rfl hl.1 rfl (Nat.le_of_ble_eq_true rfl) rfl dX5_fill_30 (fun hz30 => ?_)
          obtain ⟨t4, ht4, hf⟩ := ob hf
          refine k_WVv hC LX5_25 ⟨Nat.le_of_ble_eq_true rfl, Nat.le_of_ble_eq_true rfl⟩ ⟨Nat.zero_le _, Nat.zero_le _⟩ (cZ_lay l E ad y0_0 y0_1 t3 t4 ht4) rfl rfl hH [0, 1] rfl rfl rfl (W1 := wZ E ad t4.1 t4.2 ++ wL E ad2 q1_weights q1_size q1_marks q1_came q1_left q1_swaps) rfl rfl rfl hl.1 rfl (Nat.le_of_ble_eq_true rfl) rfl dX5_fill_33 (fun H locs hz33 hH => ?_)
          refine lv_iinc (v := (a4 + (1 : Int32))) (lv' := [(4, .int (a4 + (1 : Int32))), (0, .ref (ad 0)), (1, .ref (ad2 0)), (3, .int a3)]) hx hb dX5_fill_36 hl (k := 3) rfl rfl (by decide) rfl (fun ls hl => ?_)
          refine lv_goto (tgt := 8) hx hb dX5_fill_39 (by decide) ?_
          exact ih t4.1 t4.2 a3 (a4 + (1 : Int32)) ls (lv_sub hl [1, 2, 3, 0] rfl) _ _ hH hf
  intro H locs hH
  rw [fZ_fill] at hf
  refine lv_aload_n hx hb dX5_fill_0 rfl (lv_at hl 0 rfl) ?_
  refine lv_iconst (v := 0) hx hb dX5_fill_1 (by decide) ?_
  refine pX5_15 hC hH 0 rfl (v := .int (0 : Int32)) rfl rfl (Nat.le_of_ble_eq_true rfl) (W1 := wZ E ad q0_sorted (0 : Int32) ++ wL E ad2 q1_weights q1_size q1_marks q1_came q1_left q1_swaps) rfl dX5_fill_2 (fun H locs hH => ?_)
  refine lv_iload_n hx hb dX5_fill_5 rfl (lv_at hl 2 rfl) ?_
  refine lv_istore (lv' := [(4, .int a2), (0, .ref (ad 0)), (1, .ref (ad2 0)), (2, .int a2), (3, .int a3)]) hx hb dX5_fill_6 hl (by decide) rfl (fun ls hl => ?_)
  exact L8 FU q0_sorted (0 : Int32) a3 a2 ls (lv_sub hl [1, 2, 4, 0] rfl) _ _ hH hf
abbrev rmZ_at : Room := { frames := 0, cells := 0, slots := 0, locals := 0 }
set_option maxHeartbeats 4000000 in
set_option maxRecDepth 100000 in
theorem cZ_at (l : Launch) (E : eE) (ad : Nat → Nat) (q0_sorted : (Nat → Int32)) (q0_size : Int32) (a1 : Int32) (r : Int32) (hf : fZ_at q0_sorted q0_size a1 = some r) : cP l E yX5_at cX5_at 2 (some .int) rmZ_at [.ref (ad 0), .int a1] (wZ E ad q0_sorted q0_size) (some (.int r)) := by
  refine Met.ofW (cc := cX5_at) (maxL := 2) (ret := (some .int)) (by decide) rfl ?_
  intro p e s m args below meth c s₁ B hml hv
  obtain ⟨hargs, hP, hK⟩ := hv
  have hx := B.exec
  have hb := B.bytes
  have hr := B.returns
  have hts := atoms_spec (ws := ws_ yX5_at cX5_at 2 (some .int)) B.pre
  have hta : ∀ w ∈ lw_all, w.before args s = true := fun w h => hts w (List.mem_cons_of_mem _ h)
  have hown : s.vm.findClass RX5 = some m.cls := findClass_of_methodNamed B.named
  have hlocks := B.notSynchronized
  have hC : Cx p s m args c cX5_at 2 RX5 E := ⟨hx, hb, hml, hown, hta, hK⟩
  obtain ⟨ls, he, hl⟩ := entry_ (m := m) (n := 2) hargs (Nat.le_of_ble_eq_true rfl)
  rw [he]
  have hl : lv_has ls 2 [(0, .ref (ad 0)), (1, .int a1)] := hl
  show W p l e rmZ_at s m args below meth c s.heap [] 0 0 (MQ below (qP (some .int) (some (.int r))) args s 0 0 (fun _ => False)) (F0 m 0 ls [])
  rw [fZ_at] at hf
  refine lv_iload_n hx hb dX5_at_0 rfl (lv_at hl 1 rfl) ?_
  refine lv_if_lt (tgt := 30) hx hb dX5_at_1 (by decide) (fun c1 => ?_) (fun c1 => ?_)
  · have hf := ite_t hf c1
    refine lv_iconst (v := 0) hx hb dX5_at_30 (by decide) ?_
    have hf := Option.some.inj hf
    exact e_Pi hC hr hlocks hf dX5_at_31
  · have hf := ite_f hf c1
    refine lv_iload_n hx hb dX5_at_4 rfl (lv_at hl 1 rfl) ?_
    refine lv_aload_n hx hb dX5_at_5 rfl (lv_at hl 0 rfl) ?_
    refine gX5_15 hC hP 0 rfl (v := .int q0_size) rfl dX5_at_6 ?_
    refine lv_icmp_ge (tgt := 30) hx hb dX5_at_9 (by decide) (fun c2 => ?_) (fun c2 => ?_)
    · have hf := ite_t hf c2
      refine lv_iconst (v := 0) hx hb dX5_at_30 (by decide) ?_
      have hf := Option.some.inj hf
      exact e_Pi hC hr hlocks hf dX5_at_31
    · have hf := ite_f hf c2
      refine lv_iload_n hx hb dX5_at_12 rfl (lv_at hl 1 rfl) ?_
      refine lv_aload_n hx hb dX5_at_13 rfl (lv_at hl 0 rfl) ?_
      refine gX5_9 hC hP 0 rfl (v := .ref (ad 1)) rfl dX5_at_14 ?_
      refine va_alen (v := 64) hx hb hK.1 hP 1 0 rfl rfl rfl dX5_at_17 ?_
      refine lv_icmp_ge (tgt := 30) hx hb dX5_at_18 (by decide) (fun c3 => ?_) (fun c3 => ?_)
      · have hf := ite_t hf c3
        refine lv_iconst (v := 0) hx hb dX5_at_30 (by decide) ?_
        have hf := Option.some.inj hf
        exact e_Pi hC hr hlocks hf dX5_at_31
      · have hf := ite_f hf c3
        refine lv_aload_n hx hb dX5_at_21 rfl (lv_at hl 0 rfl) ?_
        refine gX5_9 hC hP 0 rfl (v := .ref (ad 1)) rfl dX5_at_22 ?_
        refine lv_iload_n hx hb dX5_at_25 rfl (lv_at hl 1 rfl) ?_
        obtain ⟨v4, hv4, hf⟩ := ob hf
        obtain ⟨hv4a, hv4b⟩ := ldA_ok hv4
        refine a_ild hC hP 1 rfl hv4a hv4b dX5_at_26 ?_
        refine lv_goto (tgt := 31) hx hb dX5_at_27 (by decide) ?_
        have hf := Option.some.inj hf
        exact e_Pi hC hr hlocks hf dX5_at_31
