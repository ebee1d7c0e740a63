abbrev rmB_open : Room := { frames := 0, cells := 0, slots := 0, locals := 0 }
set_option maxHeartbeats 4000000 in
set_option maxRecDepth 100000 in
theorem cB_open (l : Launch) (E : eE) (ad : Nat → Nat) (q0_begins : (Nat → Int32)) (q0_totals : (Nat → Int32)) (q0_number : Int32) (q0_letterCount : Int32) (a1 : Int32) (t : (Nat → Int32) × (Nat → Int32) × Int32) (hf : fB_open q0_begins q0_totals q0_number a1 = some t) : cW l E yX0_open cX0_open 2 none rmB_open [.ref (ad 0), .int a1] (wB E ad q0_begins q0_totals q0_number q0_letterCount) none (wB E ad t.1 t.2.1 t.2.2 q0_letterCount) := by
  refine Met.ofW (cc := cX0_open) (maxL := 2) (ret := none) (by decide) rfl ?_
  intro p e s m args below meth c s₁ B hml hv
  obtain ⟨hargs, hP, hK, hD0⟩ := hv
  have hx := B.exec
  have hb := B.bytes
  have hr := B.returns
  have hts := atoms_spec (ws := ws_ yX0_open cX0_open 2 none) B.pre
  have hta : ∀ w ∈ lw_all, w.before args s = true := fun w h => hts w (List.mem_cons_of_mem _ h)
  have hown : s.vm.findClass RX0 = some m.cls := findClass_of_methodNamed B.named
  have hlocks := B.notSynchronized
  have hC : Cx p s m args c cX0_open 2 RX0 E := ⟨hx, hb, hml, hown, hta, hK⟩
  have hH : Hp E (adr (wB E ad q0_begins q0_totals q0_number q0_letterCount)) (wB E ad q0_begins q0_totals q0_number q0_letterCount) s.heap s.heap [] := Hp.start hP hD0
  obtain ⟨ls, he, hl⟩ := entry_ (m := m) (n := 2) hargs (Nat.le_of_ble_eq_true rfl)
  rw [he]
  have hl : lv_has ls 2 [(0, .ref (ad 0)), (1, .int a1)] := hl
  show W p l e rmB_open s m args below meth c s.heap [] 0 0 (MQ below (qW E none none (wB E ad q0_begins q0_totals q0_number q0_letterCount) (wB E ad t.1 t.2.1 t.2.2 q0_letterCount)) args s 0 0 (adr (wB E ad q0_begins q0_totals q0_number q0_letterCount))) (F0 m 0 ls [])
  suffices hmain : ∀ (H : Heap) (locs : List Loc), Hp E (adr (wB E ad q0_begins q0_totals q0_number q0_letterCount)) (wB E ad q0_begins q0_totals q0_number q0_letterCount) s.heap H locs → W p l e rmB_open s m args below meth c H locs 0 0 (MQ below (qW E none none (wB E ad q0_begins q0_totals q0_number q0_letterCount) (wB E ad t.1 t.2.1 t.2.2 q0_letterCount)) args s 0 0 (adr (wB E ad q0_begins q0_totals q0_number q0_letterCount))) (F0 m 0 ls []) from hmain _ _ hH
  clear hH
  intro H locs hH
  rw [fB_open] at hf
  refine lv_aload_n hx hb dX0_open_0 rfl (lv_at hl 0 rfl) ?_
  refine gX0_18 hC hH.1 0 rfl (v := .int q0_number) rfl dX0_open_1 ?_
  refine lv_if_lt (tgt := 61) hx hb dX0_open_4 (by decide) (fun c1 => ?_) (fun c1 => ?_)
  · have hf := ite_t hf c1
    have hf := Option.some.inj hf
    subst hf
    exact e_Wv hC hH hr hlocks rfl dX0_open_61
  · have hf := ite_f hf c1
    refine lv_aload_n hx hb dX0_open_7 rfl (lv_at hl 0 rfl) ?_
    refine gX0_18 hC hH.1 0 rfl (v := .int q0_number) rfl dX0_open_8 ?_
    refine lv_aload_n hx hb dX0_open_11 rfl (lv_at hl 0 rfl) ?_
    refine gX0_9 hC hH.1 0 rfl (v := .ref (ad 1)) rfl dX0_open_12 ?_
    refine va_alen (v := 64) hx hb hK.1 hH.1 1 0 rfl rfl rfl dX0_open_15 ?_
    refine lv_icmp_ge (tgt := 61) hx hb dX0_open_16 (by decide) (fun c2 => ?_) (fun c2 => ?_)
    · have hf := ite_t hf c2
      have hf := Option.some.inj hf
      subst hf
      exact e_Wv hC hH hr hlocks rfl dX0_open_61
    · have hf := ite_f hf c2
      refine lv_aload_n hx hb dX0_open_19 rfl (lv_at hl 0 rfl) ?_
      refine gX0_18 hC hH.1 0 rfl (v := .int q0_number) rfl dX0_open_20 ?_
      refine lv_aload_n hx hb dX0_open_23 rfl (lv_at hl 0 rfl) ?_
      refine gX0_15 hC hH.1 0 rfl (v := .ref (ad 2)) rfl dX0_open_24 ?_
      refine va_alen (v := 64) hx hb hK.1 hH.1 2 0 rfl rfl rfl dX0_open_27 ?_
      refine lv_icmp_ge (tgt := 61) hx hb dX0_open_28 (by decide) (fun c3 => ?_) (fun c3 => ?_)
      · have hf := ite_t hf c3
        have hf := Option.some.inj hf
        subst hf
        exact e_Wv hC hH hr hlocks rfl dX0_open_61
      · have hf := ite_f hf c3
        refine lv_aload_n hx hb dX0_open_31 rfl (lv_at hl 0 rfl) ?_
        refine gX0_9 hC hH.1 0 rfl (v := .ref (ad 1)) rfl dX0_open_32 ?_
        refine lv_aload_n hx hb dX0_open_35 rfl (lv_at hl 0 rfl) ?_
        refine gX0_18 hC hH.1 0 rfl (v := .int q0_number) rfl dX0_open_36 ?_
        refine lv_iload_n hx hb dX0_open_39 rfl (lv_at hl 1 rfl) ?_
        obtain ⟨g4, hg4, hf⟩ := ob hf
        obtain ⟨hg4a, hg4b⟩ := stA_ok hg4
        refine a_ist hC hH 1 rfl hg4a hg4b (W1 := wB E ad g4 q0_totals q0_number q0_letterCount) rfl dX0_open_40 (fun H locs hH => ?_)
        refine lv_aload_n hx hb dX0_open_41 rfl (lv_at hl 0 rfl) ?_
        refine gX0_15 hC hH.1 0 rfl (v := .ref (ad 2)) rfl dX0_open_42 ?_
        refine lv_aload_n hx hb dX0_open_45 rfl (lv_at hl 0 rfl) ?_
        refine gX0_18 hC hH.1 0 rfl (v := .int q0_number) rfl dX0_open_46 ?_
        refine lv_iconst (v := 0) hx hb dX0_open_49 (by decide) ?_
        obtain ⟨g5, hg5, hf⟩ := ob hf
        obtain ⟨hg5a, hg5b⟩ := stA_ok hg5
        refine a_ist hC hH 2 rfl hg5a hg5b (W1 := wB E ad g4 g5 q0_number q0_letterCount) rfl dX0_open_50 (fun H locs hH => ?_)
        refine lv_aload_n hx hb dX0_open_51 rfl (lv_at hl 0 rfl) ?_
        refine lv_dup hx hb dX0_open_52 rfl ?_
        refine gX0_18 hC hH.1 0 rfl (v := .int q0_number) rfl dX0_open_53 ?_
        refine lv_iconst (v := 1) hx hb dX0_open_56 (by decide) ?_
        refine lv_iadd hx hb dX0_open_57 ?_
        refine pX0_18 hC hH 0 rfl (v := .int (q0_number + (1 : Int32))) rfl rfl (Nat.le_of_ble_eq_true rfl) (W1 := wB E ad g4 g5 (q0_number + (1 : Int32)) q0_letterCount) rfl dX0_open_58 (fun H locs hH => ?_)
        have hf := Option.some.inj hf
        subst hf
        exact e_Wv hC hH hr hlocks rfl dX0_open_61
abbrev rmB_addToLatest : Room := { frames := 0, cells := 0, slots := 0, locals := 0 }
set_option maxHeartbeats 4000000 in
set_option maxRecDepth 100000 in
theorem cB_addToLatest (l : Launch) (E : eE) (ad : Nat → Nat) (q0_begins : (Nat → Int32)) (q0_totals : (Nat → Int32)) (q0_number : Int32) (q0_letterCount : Int32) (a1 : Int32) (t : (Nat → Int32)) (hf : fB_addToLatest q0_totals q0_number a1 = some t) : cW l E yX0_addToLatest cX0_addToLatest 3 none rmB_addToLatest [.ref (ad 0), .int a1] (wB E ad q0_begins q0_totals q0_number q0_letterCount) none (wB E ad q0_begins t q0_number q0_letterCount) := by
  refine Met.ofW (cc := cX0_addToLatest) (maxL := 3) (ret := none) (by decide) rfl ?_
  intro p e s m args below meth c s₁ B hml hv
  obtain ⟨hargs, hP, hK, hD0⟩ := hv
  have hx := B.exec
  have hb := B.bytes
  have hr := B.returns
  have hts := atoms_spec (ws := ws_ yX0_addToLatest cX0_addToLatest 3 none) B.pre
  have hta : ∀ w ∈ lw_all, w.before args s = true := fun w h => hts w (List.mem_cons_of_mem _ h)
  have hown : s.vm.findClass RX0 = some m.cls := findClass_of_methodNamed B.named
  have hlocks := B.notSynchronized
  have hC : Cx p s m args c cX0_addToLatest 3 RX0 E := ⟨hx, hb, hml, hown, hta, hK⟩
  have hH : Hp E (adr (wB E ad q0_begins q0_totals q0_number q0_letterCount)) (wB E ad q0_begins q0_totals q0_number q0_letterCount) s.heap s.heap [] := Hp.start hP hD0
  obtain ⟨ls, he, hl⟩ := entry_ (m := m) (n := 3) hargs (Nat.le_of_ble_eq_true rfl)
  rw [he]
  have hl : lv_has ls 3 [(0, .ref (ad 0)), (1, .int a1)] := hl
  show W p l e rmB_addToLatest s m args below meth c s.heap [] 0 0 (MQ below (qW E none none (wB E ad q0_begins q0_totals q0_number q0_letterCount) (wB E ad q0_begins t q0_number q0_letterCount)) args s 0 0 (adr (wB E ad q0_begins q0_totals q0_number q0_letterCount))) (F0 m 0 ls [])
  suffices hmain : ∀ (H : Heap) (locs : List Loc), Hp E (adr (wB E ad q0_begins q0_totals q0_number q0_letterCount)) (wB E ad q0_begins q0_totals q0_number q0_letterCount) s.heap H locs → W p l e rmB_addToLatest s m args below meth c H locs 0 0 (MQ below (qW E none none (wB E ad q0_begins q0_totals q0_number q0_letterCount) (wB E ad q0_begins t q0_number q0_letterCount)) args s 0 0 (adr (wB E ad q0_begins q0_totals q0_number q0_letterCount))) (F0 m 0 ls []) from hmain _ _ hH
  clear hH
  intro H locs hH
  rw [fB_addToLatest] at hf
  refine lv_aload_n hx hb dX0_addToLatest_0 rfl (lv_at hl 0 rfl) ?_
  refine gX0_18 hC hH.1 0 rfl (v := .int q0_number) rfl dX0_addToLatest_1 ?_
  refine lv_iconst (v := 1) hx hb dX0_addToLatest_4 (by decide) ?_
  refine lv_isub hx hb dX0_addToLatest_5 ?_
  refine lv_istore_n (lv' := [(2, .int (q0_number - (1 : Int32))), (0, .ref (ad 0)), (1, .int a1)]) hx hb dX0_addToLatest_6 rfl hl (by decide) rfl (fun ls hl => ?_)
  refine lv_iload_n hx hb dX0_addToLatest_7 rfl (lv_at hl 0 rfl) ?_
  refine lv_if_lt (tgt := 30) hx hb dX0_addToLatest_8 (by decide) (fun c1 => ?_) (fun c1 => ?_)
  · have hf := ite_t hf c1
    have hf := Option.some.inj hf
    subst hf
    exact e_Wv hC hH hr hlocks rfl dX0_addToLatest_30
  · have hf := ite_f hf c1
    refine lv_iload_n hx hb dX0_addToLatest_11 rfl (lv_at hl 0 rfl) ?_
    refine lv_aload_n hx hb dX0_addToLatest_12 rfl (lv_at hl 1 rfl) ?_
    refine gX0_15 hC hH.1 0 rfl (v := .ref (ad 2)) rfl dX0_addToLatest_13 ?_
    refine va_alen (v := 64) hx hb hK.1 hH.1 2 0 rfl rfl rfl dX0_addToLatest_16 ?_
    refine lv_icmp_ge (tgt := 30) hx hb dX0_addToLatest_17 (by decide) (fun c2 => ?_) (fun c2 => ?_)
    · have hf := ite_t hf c2
      have hf := Option.some.inj hf
      subst hf
      exact e_Wv hC hH hr hlocks rfl dX0_addToLatest_30
    · have hf := ite_f hf c2
      refine lv_aload_n hx hb dX0_addToLatest_20 rfl (lv_at hl 1 rfl) ?_
      refine gX0_15 hC hH.1 0 rfl (v := .ref (ad 2)) rfl dX0_addToLatest_21 ?_
      refine lv_iload_n hx hb dX0_addToLatest_24 rfl (lv_at hl 0 rfl) ?_
      refine lv_dup2_11 hx hb dX0_addToLatest_25 rfl rfl ?_
      obtain ⟨v3, hv3, hf⟩ := ob hf
      obtain ⟨hv3a, hv3b⟩ := ldA_ok hv3
      refine a_ild hC hH.1 2 rfl hv3a hv3b dX0_addToLatest_26 ?_
      refine lv_iload_n hx hb dX0_addToLatest_27 rfl (lv_at hl 2 rfl) ?_
      refine lv_iadd hx hb dX0_addToLatest_28 ?_
      obtain ⟨g4, hg4, hf⟩ := ob hf
      obtain ⟨hg4a, hg4b⟩ := stA_ok hg4
      refine a_ist hC hH 2 rfl hg4a hg4b (W1 := wB E ad q0_begins g4 q0_number q0_letterCount) rfl dX0_addToLatest_29 (fun H locs hH => ?_)
      have hf := Option.some.inj hf
      subst hf
      exact e_Wv hC hH hr hlocks rfl dX0_addToLatest_30
abbrev rmB_fill : Room := { frames := 2, cells := 0, slots := 0, locals := 41 }
set_option maxHeartbeats 4000000 in
set_option maxRecDepth 100000 in
theorem cB_fill (l : Launch) (E : eE) (ad : Nat → Nat) (q0_begins : (Nat → Int32)) (q0_totals : (Nat → Int32)) (q0_number : Int32) (q0_letterCount : Int32) (ad2 : Nat → Nat) (q1_weights : (Nat → Int32)) (q1_size : Int32) (q1_marks : Int64) (q1_came : Int32) (q1_left : Int32) (q1_swaps : Int32) (t : (Nat → Int32) × (Nat → Int32) × Int32 × Int32) (hf : fB_fill q0_begins q0_totals q0_number q0_letterCount q1_weights q1_size q1_marks = some t) : cW l E yX0_fill cX0_fill 3 none rmB_fill [.ref (ad 0), .ref (ad2 0)] (wB E ad q0_begins q0_totals q0_number q0_letterCount ++ wL E ad2 q1_weights q1_size q1_marks q1_came q1_left q1_swaps) none (wB E ad t.1 t.2.1 t.2.2.1 t.2.2.2 ++ wL E ad2 q1_weights q1_size q1_marks q1_came q1_left q1_swaps) := by
  refine Met.ofW (cc := cX0_fill) (maxL := 3) (ret := none) (by decide) rfl ?_
  intro p e s m args below meth c s₁ B hml hv
  obtain ⟨hargs, hP, hK, hD0⟩ := hv
  have hx := B.exec
  have hb := B.bytes
  have hr := B.returns
  have hts := atoms_spec (ws := ws_ yX0_fill cX0_fill 3 none) B.pre
  have hta : ∀ w ∈ lw_all, w.before args s = true := fun w h => hts w (List.mem_cons_of_mem _ h)
  have hown : s.vm.findClass RX0 = some m.cls := findClass_of_methodNamed B.named
  have hlocks := B.notSynchronized
  have hC : Cx p s m args c cX0_fill 3 RX0 E := ⟨hx, hb, hml, hown, hta, hK⟩
  have hH : Hp E (adr (wB E ad q0_begins q0_totals q0_number q0_letterCount ++ wL E ad2 q1_weights q1_size q1_marks q1_came q1_left q1_swaps)) (wB E ad q0_begins q0_totals q0_number q0_letterCount ++ wL E ad2 q1_weights q1_size q1_marks q1_came q1_left q1_swaps) s.heap s.heap [] := Hp.start hP hD0
  obtain ⟨ls, he, hl⟩ := entry_ (m := m) (n := 3) hargs (Nat.le_of_ble_eq_true rfl)
  rw [he]
  have hl : lv_has ls 3 [(0, .ref (ad 0)), (1, .ref (ad2 0))] := hl
  show W p l e rmB_fill s m args below meth c s.heap [] 0 0 (MQ below (qW E none none (wB E ad q0_begins q0_totals q0_number q0_letterCount ++ wL E ad2 q1_weights q1_size q1_marks q1_came q1_left q1_swaps) (wB E ad t.1 t.2.1 t.2.2.1 t.2.2.2 ++ wL E ad2 q1_weights q1_size q1_marks q1_came q1_left q1_swaps)) args s 0 0 (adr (wB E ad q0_begins q0_totals q0_number q0_letterCount ++ wL E ad2 q1_weights q1_size q1_marks q1_came q1_left q1_swaps))) (F0 m 0 ls [])
  suffices hmain : ∀ (H : Heap) (locs : List Loc), Hp E (adr (wB E ad q0_begins q0_totals q0_number q0_letterCount ++ wL E ad2 q1_weights q1_size q1_marks q1_came q1_left q1_swaps)) (wB E ad q0_begins q0_totals q0_number q0_letterCount ++ wL E ad2 q1_weights q1_size q1_marks q1_came q1_left q1_swaps) s.heap H locs → W p l e rmB_fill s m args below meth c H locs 0 0 (MQ below (qW E none none (wB E ad q0_begins q0_totals q0_number q0_letterCount ++ wL E ad2 q1_weights q1_size q1_marks q1_came q1_left q1_swaps) (wB E ad t.1 t.2.1 t.2.2.1 t.2.2.2 ++ wL E ad2 q1_weights q1_size q1_marks q1_came q1_left q1_swaps)) args s 0 0 (adr (wB E ad q0_begins q0_totals q0_number q0_letterCount ++ wL E ad2 q1_weights q1_size q1_marks q1_came q1_left q1_swaps))) (F0 m 0 ls []) from hmain _ _ hH
  clear hH
  have L15 : ∀ (n : Nat) (y0_0 : (Nat → Int32)) (y0_1 : (Nat → Int32)) (y0_2 : Int32) (y0_3 : Int32) (a2 : Int32) (ls : Array Slot), lv_has ls 3 [(0, .ref (ad 0)), (1, .ref (ad2 0)), (2, .int a2)] → ∀ (H : Heap) (locs : List Loc), Hp E (adr (wB E ad q0_begins q0_totals q0_number q0_letterCount ++ wL E ad2 q1_weights q1_size q1_marks q1_came q1_left q1_swaps)) (wB E ad y0_0 y0_1 y0_2 y0_3 ++ wL E ad2 q1_weights q1_size q1_marks q1_came q1_left q1_swaps) s.heap H locs → fB_fill_15 n y0_0 y0_1 y0_2 y0_3 q1_weights q1_size q1_marks a2 = some t → W p l e rmB_fill s m args below meth c H locs 0 0 (MQ below (qW E none none (wB E ad q0_begins q0_totals q0_number q0_letterCount ++ wL E ad2 q1_weights q1_size q1_marks q1_came q1_left q1_swaps) (wB E ad t.1 t.2.1 t.2.2.1 t.2.2.2 ++ wL E ad2 q1_weights q1_size q1_marks q1_came q1_left q1_swaps)) args s 0 0 (adr (wB E ad q0_begins q0_totals q0_number q0_letterCount ++ wL E ad2 q1_weights q1_size q1_marks q1_came q1_left q1_swaps))) (F0 m 15 ls []) := by
    intro n
    induction n with
    | zero => intro y0_0 y0_1 y0_2 y0_3 a2 ls hl H locs hH hf; cases hf
    | succ n ih =>
      intro y0_0 y0_1 y0_2 y0_3 a2 ls hl H locs hH hf
      rw [fB_fill_15] at hf
      refine lv_iload_n hx hb dX0_fill_15 rfl (lv_at hl 2 rfl) ?_
      refine lv_aload_n hx hb dX0_fill_16 rfl (lv_at hl 0 rfl) ?_
      refine gX0_28 hC hH.1 0 rfl (v := .int y0_3) rfl dX0_fill_17 ?_
      refine lv_icmp_ge (tgt := 55) hx hb dX0_fill_20 (by decide) (fun c1 => ?_) (fun c1 => ?_)
      · have hf := ite_t hf c1
        have hf := Option.some.inj hf
        subst hf
        exact e_Wv hC hH hr hlocks rfl dX0_fill_55
      · have hf := ite_f hf c1
        refine lv_iload_n hx hb dX0_fill_23 rfl (lv_at hl 2 rfl) ?_
        refine lv_if_eq (tgt := 35) hx hb dX0_fill_24 (by decide) (fun c2 => ?_) (fun c2 => ?_)
        · have hf := ite_t hf c2
          refine lv_aload_n hx hb dX0_fill_35 rfl (lv_at hl 0 rfl) ?_
          refine lv_iload_n hx hb dX0_fill_36 rfl (lv_at hl 2 rfl) ?_
          obtain ⟨t3, ht3, hf⟩ := ob hf
          refine k_WVv hC LX0_35 ⟨Nat.le_of_ble_eq_true rfl, Nat.le_of_ble_eq_true rfl⟩ ⟨Nat.zero_le _, Nat.zero_le _⟩ (cB_open l E ad y0_0 y0_1 y0_2 y0_3 a2 t3 ht3) rfl rfl hH [0, 1, 2] rfl rfl rfl (W1 := wB E ad t3.1 t3.2.1 t3.2.2 y0_3 ++ wL E ad2 q1_weights q1_size q1_marks q1_came q1_left q1_swaps) rfl rfl rfl hl.1 rfl (Nat.le_of_ble_eq_true rfl) rfl dX0_fill_37 (fun H locs hz37 hH => ?_)
          refine lv_aload_n hx hb dX0_fill_40 rfl (lv_at hl 0 rfl) ?_
          refine lv_aload_n hx hb dX0_fill_41 rfl (lv_at hl 1 rfl) ?_
          refine lv_iload_n hx hb dX0_fill_42 rfl (lv_at hl 2 rfl) ?_
          obtain ⟨t4, ht4, hf⟩ := ob hf
          refine k_PVi hC LX0_39 ⟨Nat.le_of_ble_eq_true rfl, Nat.le_of_ble_eq_true rfl⟩ ⟨Nat.zero_le _, Nat.zero_le _⟩ (cL_at l E ad2 q1_weights q1_size q1_marks q1_came q1_left q1_swaps a2 t4 ht4) rfl rfl (hH.1.sub (ws' := wL E ad2 q1_weights q1_size q1_marks q1_came q1_left q1_swaps) [3, 4] rfl) rfl rfl hl.1 rfl (Nat.le_of_ble_eq_true rfl) rfl dX0_fill_43 (fun hz43 => ?_)
          obtain ⟨t5, ht5, hf⟩ := ob hf
          refine k_WVv hC LX0_43 ⟨Nat.le_of_ble_eq_true rfl, Nat.le_of_ble_eq_true rfl⟩ ⟨Nat.zero_le _, Nat.zero_le _⟩ (cB_addToLatest l E ad t3.1 t3.2.1 t3.2.2 y0_3 t4 t5 ht5) rfl rfl hH [0, 1, 2] rfl rfl rfl (W1 := wB E ad t3.1 t5 t3.2.2 y0_3 ++ wL E ad2 q1_weights q1_size q1_marks q1_came q1_left q1_swaps) rfl rfl rfl hl.1 rfl (Nat.le_of_ble_eq_true rfl) rfl dX0_fill_46 (fun H locs hz46 hH => ?_)
          refine lv_iinc (v := (a2 + (1 : Int32))) (lv' := [(2, .int (a2 + (1 : Int32))), (0, .ref (ad 0)), (1, .ref (ad2 0))]) hx hb dX0_fill_49 hl (k := 2) rfl rfl (by decide) rfl (fun ls hl => ?_)
          refine lv_goto (tgt := 15) hx hb dX0_fill_52 (by decide) ?_
          exact ih t3.1 t5 t3.2.2 y0_3 (a2 + (1 : Int32)) ls (lv_sub hl [1, 2, 0] rfl) _ _ hH hf
        · have hf := ite_f hf c2
          refine lv_aload_n hx hb dX0_fill_27 rfl (lv_at hl 1 rfl) ?_
          refine lv_iload_n hx hb dX0_fill_28 rfl (lv_at hl 2 rfl) ?_
          refine k_PVi hC LX0_31 ⟨Nat.le_of_ble_eq_true rfl, Nat.le_of_ble_eq_true rfl⟩ ⟨Nat.zero_le _, Nat.zero_le _⟩ (cL_isMarkedAt l E ad2 q1_weights q1_size q1_marks q1_came q1_left q1_swaps a2 _ rfl) rfl rfl (hH.1.sub (ws' := wL E ad2 q1_weights q1_size q1_marks q1_came q1_left q1_swaps) [3, 4] rfl) rfl rfl hl.1 rfl (Nat.le_of_ble_eq_true rfl) rfl dX0_fill_29 (fun hz29 => ?_)
          refine lv_if_eq (tgt := 40) hx hb dX0_fill_32 (by decide) (fun c6 => ?_) (fun c6 => ?_)
          · have hf := ite_t hf c6
            refine lv_aload_n hx hb dX0_fill_40 rfl (lv_at hl 0 rfl) ?_
            refine lv_aload_n hx hb dX0_fill_41 rfl (lv_at hl 1 rfl) ?_
            refine lv_iload_n hx hb dX0_fill_42 rfl (lv_at hl 2 rfl) ?_
            obtain ⟨t7, ht7, hf⟩ := ob hf
            refine k_PVi hC LX0_39 ⟨Nat.le_of_ble_eq_true rfl, Nat.le_of_ble_eq_true rfl⟩ ⟨Nat.zero_le _, Nat.zero_le _⟩ (cL_at l E ad2 q1_weights q1_size q1_marks q1_came q1_left q1_swaps a2 t7 ht7) rfl rfl (hH.1.sub (ws' := wL E ad2 q1_weights q1_size q1_marks q1_came q1_left q1_swaps) [3, 4] rfl) rfl rfl hl.1 rfl (Nat.le_of_ble_eq_true rfl) rfl dX0_fill_43 (fun hz43 => ?_)
            obtain ⟨t8, ht8, hf⟩ := ob hf
            refine k_WVv hC LX0_43 ⟨Nat.le_of_ble_eq_true rfl, Nat.le_of_ble_eq_true rfl⟩ ⟨Nat.zero_le _, Nat.zero_le _⟩ (cB_addToLatest l E ad y0_0 y0_1 y0_2 y0_3 t7 t8 ht8) rfl rfl hH [0, 1, 2] rfl rfl rfl (W1 := wB E ad y0_0 t8 y0_2 y0_3 ++ wL E ad2 q1_weights q1_size q1_marks q1_came q1_left q1_swaps) rfl rfl rfl hl.1 rfl (Nat.le_of_ble_eq_true rfl) rfl dX0_fill_46 (fun H locs hz46 hH => ?_)
            refine lv_iinc (v := (a2 + (1 : Int32))) (lv' := [(2, .int (a2 + (1 : Int32))), (0, .ref (ad 0)), (1, .ref (ad2 0))]) hx hb dX0_fill_49 hl (k := 2) rfl rfl (by decide) rfl (fun ls hl => ?_)
            refine lv_goto (tgt := 15) hx hb dX0_fill_52 (by decide) ?_
            exact ih y0_0 t8 y0_2 y0_3 (a2 + (1 : Int32)) ls (lv_sub hl [1, 2, 0] rfl) _ _ hH hf
          · have hf := ite_f hf c6
            refine lv_aload_n hx hb dX0_fill_35 rfl (lv_at hl 0 rfl) ?_
            refine lv_iload_n hx hb dX0_fill_36 rfl (lv_at hl 2 rfl) ?_
            obtain ⟨t9, ht9, hf⟩ := ob hf
            refine k_WVv hC LX0_35 ⟨Nat.le_of_ble_eq_true rfl, Nat.le_of_ble_eq_true rfl⟩ ⟨Nat.zero_le _, Nat.zero_le _⟩ (cB_open l E ad y0_0 y0_1 y0_2 y0_3 a2 t9 ht9) rfl rfl hH [0, 1, 2] rfl rfl rfl (W1 := wB E ad t9.1 t9.2.1 t9.2.2 y0_3 ++ wL E ad2 q1_weights q1_size q1_marks q1_came q1_left q1_swaps) rfl rfl rfl hl.1 rfl (Nat.le_of_ble_eq_true rfl) rfl dX0_fill_37 (fun H locs hz37 hH => ?_)
            refine lv_aload_n hx hb dX0_fill_40 rfl (lv_at hl 0 rfl) ?_
            refine lv_aload_n hx hb dX0_fill_41 rfl (lv_at hl 1 rfl) ?_
            refine lv_iload_n hx hb dX0_fill_42 rfl (lv_at hl 2 rfl) ?_
            obtain ⟨t10, ht10, hf⟩ := ob hf
            refine k_PVi hC LX0_39 ⟨Nat.le_of_ble_eq_true rfl, Nat.le_of_ble_eq_true rfl⟩ ⟨Nat.zero_le _, Nat.zero_le _⟩ (cL_at l E ad2 q1_weights q1_size q1_marks q1_came q1_left q1_swaps a2 t10 ht10) rfl rfl (hH.1.sub (ws' := wL E ad2 q1_weights q1_size q1_marks q1_came q1_left q1_swaps) [3, 4] rfl) rfl rfl hl.1 rfl (Nat.le_of_ble_eq_true rfl) rfl dX0_fill_43 (fun hz43 => ?_)
            obtain ⟨t11, ht11, hf⟩ := ob hf
            refine k_WVv hC LX0_43 ⟨Nat.le_of_ble_eq_true rfl, Nat.le_of_ble_eq_true rfl⟩ ⟨Nat.zero_le _, Nat.zero_le _⟩ (cB_addToLatest l E ad t9.1 t9.2.1 t9.2.2 y0_3 t10 t11 ht11) rfl rfl hH [0, 1, 2] rfl rfl rfl (W1 := wB E ad t9.1 t11 t9.2.2 y0_3 ++ wL E ad2 q1_weights q1_size q1_marks q1_came q1_left q1_swaps) rfl rfl rfl hl.1 rfl (Nat.le_of_ble_eq_true rfl) rfl dX0_fill_46 (fun H locs hz46 hH => ?_)
            refine lv_iinc (v := (a2 + (1 : Int32))) (lv' := [(2, .int (a2 + (1 : Int32))), (0, .ref (ad 0)), (1, .ref (ad2 0))]) hx hb dX0_fill_49 hl (k := 2) rfl rfl (by decide) rfl (fun ls hl => ?_)
            refine lv_goto (tgt := 15) hx hb dX0_fill_52 (by decide) ?_
            exact ih t9.1 t11 t9.2.2 y0_3 (a2 + (1 : Int32)) ls (lv_sub hl [1, 2, 0] rfl) _ _ hH hf
  intro H locs hH
  rw [fB_fill] at hf
  refine lv_aload_n hx hb dX0_fill_0 rfl (lv_at hl 0 rfl) ?_
  refine lv_iconst (v := 0) hx hb dX0_fill_1 (by decide) ?_
  refine pX0_18 hC hH 0 rfl (v := .int (0 : Int32)) rfl rfl (Nat.le_of_ble_eq_true rfl) (W1 := wB E ad q0_begins q0_totals (0 : Int32) q0_letterCount ++ wL E ad2 q1_weights q1_size q1_marks q1_came q1_left q1_swaps) rfl dX0_fill_2 (fun H locs hH => ?_)
  refine lv_aload_n hx hb dX0_fill_5 rfl (lv_at hl 0 rfl) ?_
  refine lv_aload_n hx hb dX0_fill_6 rfl (lv_at hl 1 rfl) ?_
  refine k_PVi hC LX0_22 ⟨Nat.le_of_ble_eq_true rfl, Nat.le_of_ble_eq_true rfl⟩ ⟨Nat.zero_le _, Nat.zero_le _⟩ (cL_size l E ad2 q1_weights q1_size q1_marks q1_came q1_left q1_swaps _ rfl) rfl rfl (hH.1.sub (ws' := wL E ad2 q1_weights q1_size q1_marks q1_came q1_left q1_swaps) [3, 4] rfl) rfl rfl hl.1 rfl (Nat.le_of_ble_eq_true rfl) rfl dX0_fill_7 (fun hz7 => ?_)
  refine pX0_28 hC hH 0 rfl (v := .int (fL_size q1_size)) rfl rfl (Nat.le_of_ble_eq_true rfl) (W1 := wB E ad q0_begins q0_totals (0 : Int32) (fL_size q1_size) ++ wL E ad2 q1_weights q1_size q1_marks q1_came q1_left q1_swaps) rfl dX0_fill_10 (fun H locs hH => ?_)
  refine lv_iconst (v := 0) hx hb dX0_fill_13 (by decide) ?_
  refine lv_istore_n (lv' := [(2, .int (0 : Int32)), (0, .ref (ad 0)), (1, .ref (ad2 0))]) hx hb dX0_fill_14 rfl hl (by decide) rfl (fun ls hl => ?_)
  exact L15 FU q0_begins q0_totals (0 : Int32) (fL_size q1_size) (0 : Int32) ls (lv_sub hl [1, 2, 0] rfl) _ _ hH hf
abbrev rmB_number : Room := { frames := 0, cells := 0, slots := 0, locals := 0 }
set_option maxHeartbeats 4000000 in
set_option maxRecDepth 100000 in
theorem cB_number (l : Launch) (E : eE) (ad : Nat → Nat) (q0_begins : (Nat → Int32)) (q0_totals : (Nat → Int32)) (q0_number : Int32) (q0_letterCount : Int32) (r : Int32) (hf : fB_number q0_number = r) : cP l E yX0_number cX0_number 1 (some .int) rmB_number [.ref (ad 0)] (wB E ad q0_begins q0_totals q0_number q0_letterCount) (some (.int r)) := by
  refine Met.ofW (cc := cX0_number) (maxL := 1) (ret := (some .int)) (by decide) rfl ?_
  intro p e s m args below meth c s₁ B hml hv
  obtain ⟨hargs, hP, hK⟩ := hv
  have hx := B.exec
  have hb := B.bytes
  have hr := B.returns
  have hts := atoms_spec (ws := ws_ yX0_number cX0_number 1 (some .int)) B.pre
  have hta : ∀ w ∈ lw_all, w.before args s = true := fun w h => hts w (List.mem_cons_of_mem _ h)
  have hown : s.vm.findClass RX0 = some m.cls := findClass_of_methodNamed B.named
  have hlocks := B.notSynchronized
  have hC : Cx p s m args c cX0_number 1 RX0 E := ⟨hx, hb, hml, hown, hta, hK⟩
  obtain ⟨ls, he, hl⟩ := entry_ (m := m) (n := 1) hargs (Nat.le_of_ble_eq_true rfl)
  rw [he]
  have hl : lv_has ls 1 [(0, .ref (ad 0))] := hl
  show W p l e rmB_number s m args below meth c s.heap [] 0 0 (MQ below (qP (some .int) (some (.int r))) args s 0 0 (fun _ => False)) (F0 m 0 ls [])
  rw [fB_number] at hf
  refine lv_aload_n hx hb dX0_number_0 rfl (lv_at hl 0 rfl) ?_
  refine gX0_18 hC hP 0 rfl (v := .int q0_number) rfl dX0_number_1 ?_
  exact e_Pi hC hr hlocks hf dX0_number_4
abbrev rmB_beginOf : Room := { frames := 0, cells := 0, slots := 0, locals := 0 }
set_option maxHeartbeats 4000000 in
set_option maxRecDepth 100000 in
theorem cB_beginOf (l : Launch) (E : eE) (ad : Nat → Nat) (q0_begins : (Nat → Int32)) (q0_totals : (Nat → Int32)) (q0_number : Int32) (q0_letterCount : Int32) (a1 : Int32) (r : Int32) (hf : fB_beginOf q0_begins q0_number q0_letterCount a1 = some r) : cP l E yX0_beginOf cX0_beginOf 2 (some .int) rmB_beginOf [.ref (ad 0), .int a1] (wB E ad q0_begins q0_totals q0_number q0_letterCount) (some (.int r)) := by
  refine Met.ofW (cc := cX0_beginOf) (maxL := 2) (ret := (some .int)) (by decide) rfl ?_
  intro p e s m args below meth c s₁ B hml hv
  obtain ⟨hargs, hP, hK⟩ := hv
  have hx := B.exec
  have hb := B.bytes
  have hr := B.returns
  have hts := atoms_spec (ws := ws_ yX0_beginOf cX0_beginOf 2 (some .int)) B.pre
  have hta : ∀ w ∈ lw_all, w.before args s = true := fun w h => hts w (List.mem_cons_of_mem _ h)
  have hown : s.vm.findClass RX0 = some m.cls := findClass_of_methodNamed B.named
  have hlocks := B.notSynchronized
  have hC : Cx p s m args c cX0_beginOf 2 RX0 E := ⟨hx, hb, hml, hown, hta, hK⟩
  obtain ⟨ls, he, hl⟩ := entry_ (m := m) (n := 2) hargs (Nat.le_of_ble_eq_true rfl)
  rw [he]
  have hl : lv_has ls 2 [(0, .ref (ad 0)), (1, .int a1)] := hl
  show W p l e rmB_beginOf s m args below meth c s.heap [] 0 0 (MQ below (qP (some .int) (some (.int r))) args s 0 0 (fun _ => False)) (F0 m 0 ls [])
  rw [fB_beginOf] at hf
  refine lv_iload_n hx hb dX0_beginOf_0 rfl (lv_at hl 1 rfl) ?_
  refine lv_if_lt (tgt := 30) hx hb dX0_beginOf_1 (by decide) (fun c1 => ?_) (fun c1 => ?_)
  · have hf := ite_t hf c1
    refine lv_aload_n hx hb dX0_beginOf_30 rfl (lv_at hl 0 rfl) ?_
    refine gX0_28 hC hP 0 rfl (v := .int q0_letterCount) rfl dX0_beginOf_31 ?_
    have hf := Option.some.inj hf
    exact e_Pi hC hr hlocks hf dX0_beginOf_34
  · have hf := ite_f hf c1
    refine lv_iload_n hx hb dX0_beginOf_4 rfl (lv_at hl 1 rfl) ?_
    refine lv_aload_n hx hb dX0_beginOf_5 rfl (lv_at hl 0 rfl) ?_
    refine gX0_18 hC hP 0 rfl (v := .int q0_number) rfl dX0_beginOf_6 ?_
    refine lv_icmp_ge (tgt := 30) hx hb dX0_beginOf_9 (by decide) (fun c2 => ?_) (fun c2 => ?_)
    · have hf := ite_t hf c2
      refine lv_aload_n hx hb dX0_beginOf_30 rfl (lv_at hl 0 rfl) ?_
      refine gX0_28 hC hP 0 rfl (v := .int q0_letterCount) rfl dX0_beginOf_31 ?_
      have hf := Option.some.inj hf
      exact e_Pi hC hr hlocks hf dX0_beginOf_34
    · have hf := ite_f hf c2
      refine lv_iload_n hx hb dX0_beginOf_12 rfl (lv_at hl 1 rfl) ?_
      refine lv_aload_n hx hb dX0_beginOf_13 rfl (lv_at hl 0 rfl) ?_
      refine gX0_9 hC hP 0 rfl (v := .ref (ad 1)) rfl dX0_beginOf_14 ?_
      refine va_alen (v := 64) hx hb hK.1 hP 1 0 rfl rfl rfl dX0_beginOf_17 ?_
      refine lv_icmp_ge (tgt := 30) hx hb dX0_beginOf_18 (by decide) (fun c3 => ?_) (fun c3 => ?_)
      · have hf := ite_t hf c3
        refine lv_aload_n hx hb dX0_beginOf_30 rfl (lv_at hl 0 rfl) ?_
        refine gX0_28 hC hP 0 rfl (v := .int q0_letterCount) rfl dX0_beginOf_31 ?_
        have hf := Option.some.inj hf
        exact e_Pi hC hr hlocks hf dX0_beginOf_34
      · have hf := ite_f hf c3
        refine lv_aload_n hx hb dX0_beginOf_21 rfl (lv_at hl 0 rfl) ?_
        refine gX0_9 hC hP 0 rfl (v := .ref (ad 1)) rfl dX0_beginOf_22 ?_
        refine lv_iload_n hx hb dX0_beginOf_25 rfl (lv_at hl 1 rfl) ?_
        obtain ⟨v4, hv4, hf⟩ := ob hf
        obtain ⟨hv4a, hv4b⟩ := ldA_ok hv4
        refine a_ild hC hP 1 rfl hv4a hv4b dX0_beginOf_26 ?_
        refine lv_goto (tgt := 34) hx hb dX0_beginOf_27 (by decide) ?_
        have hf := Option.some.inj hf
        exact e_Pi hC hr hlocks hf dX0_beginOf_34
abbrev rmB_endOf : Room := { frames := 1, cells := 0, slots := 0, locals := 21 }
set_option maxHeartbeats 4000000 in
set_option maxRecDepth 100000 in
theorem cB_endOf (l : Launch) (E : eE) (ad : Nat → Nat) (q0_begins : (Nat → Int32)) (q0_totals : (Nat → Int32)) (q0_number : Int32) (q0_letterCount : Int32) (a1 : Int32) (r : Int32) (hf : fB_endOf q0_begins q0_number q0_letterCount a1 = some r) : cP l E yX0_endOf cX0_endOf 2 (some .int) rmB_endOf [.ref (ad 0), .int a1] (wB E ad q0_begins q0_totals q0_number q0_letterCount) (some (.int r)) := by
  refine Met.ofW (cc := cX0_endOf) (maxL := 2) (ret := (some .int)) (by decide) rfl ?_
  intro p e s m args below meth c s₁ B hml hv
  obtain ⟨hargs, hP, hK⟩ := hv
  have hx := B.exec
  have hb := B.bytes
  have hr := B.returns
  have hts := atoms_spec (ws := ws_ yX0_endOf cX0_endOf 2 (some .int)) B.pre
  have hta : ∀ w ∈ lw_all, w.before args s = true := fun w h => hts w (List.mem_cons_of_mem _ h)
  have hown : s.vm.findClass RX0 = some m.cls := findClass_of_methodNamed B.named
  have hlocks := B.notSynchronized
  have hC : Cx p s m args c cX0_endOf 2 RX0 E := ⟨hx, hb, hml, hown, hta, hK⟩
  obtain ⟨ls, he, hl⟩ := entry_ (m := m) (n := 2) hargs (Nat.le_of_ble_eq_true rfl)
  rw [he]
  have hl : lv_has ls 2 [(0, .ref (ad 0)), (1, .int a1)] := hl
  show W p l e rmB_endOf s m args below meth c s.heap [] 0 0 (MQ below (qP (some .int) (some (.int r))) args s 0 0 (fun _ => False)) (F0 m 0 ls [])
  rw [fB_endOf] at hf
  refine lv_aload_n hx hb dX0_endOf_0 rfl (lv_at hl 0 rfl) ?_
  refine lv_iload_n hx hb dX0_endOf_1 rfl (lv_at hl 1 rfl) ?_
  refine lv_iconst (v := 1) hx hb dX0_endOf_2 (by decide) ?_
  refine lv_iadd hx hb dX0_endOf_3 ?_
  obtain ⟨t1, ht1, hf⟩ := ob hf
  refine k_PVi hC LX0_46 ⟨Nat.le_of_ble_eq_true rfl, Nat.le_of_ble_eq_true rfl⟩ ⟨Nat.zero_le _, Nat.zero_le _⟩ (cB_beginOf l E ad q0_begins q0_totals q0_number q0_letterCount (a1 + (1 : Int32)) t1 ht1) rfl rfl hP rfl rfl hl.1 rfl (Nat.le_of_ble_eq_true rfl) rfl dX0_endOf_4 (fun hz4 => ?_)
  have hf := Option.some.inj hf
  exact e_Pi hC hr hlocks hf dX0_endOf_7
abbrev rmB_totalOf : Room := { frames := 0, cells := 0, slots := 0, locals := 0 }
set_option maxHeartbeats 4000000 in
set_option maxRecDepth 100000 in
theorem cB_totalOf (l : Launch) (E : eE) (ad : Nat → Nat) (q0_begins : (Nat → Int32)) (q0_totals : (Nat → Int32)) (q0_number : Int32) (q0_letterCount : Int32) (a1 : Int32) (r : Int32) (hf : fB_totalOf q0_totals q0_number a1 = some r) : cP l E yX0_totalOf cX0_totalOf 2 (some .int) rmB_totalOf [.ref (ad 0), .int a1] (wB E ad q0_begins q0_totals q0_number q0_letterCount) (some (.int r)) := by
  refine Met.ofW (cc := cX0_totalOf) (maxL := 2) (ret := (some .int)) (by decide) rfl ?_
  intro p e s m args below meth c s₁ B hml hv
  obtain ⟨hargs, hP, hK⟩ := hv
  have hx := B.exec
  have hb := B.bytes
  have hr := B.returns
  have hts := atoms_spec (ws := ws_ yX0_totalOf cX0_totalOf 2 (some .int)) B.pre
  have hta : ∀ w ∈ lw_all, w.before args s = true := fun w h => hts w (List.mem_cons_of_mem _ h)
  have hown : s.vm.findClass RX0 = some m.cls := findClass_of_methodNamed B.named
  have hlocks := B.notSynchronized
  have hC : Cx p s m args c cX0_totalOf 2 RX0 E := ⟨hx, hb, hml, hown, hta, hK⟩
  obtain ⟨ls, he, hl⟩ := entry_ (m := m) (n := 2) hargs (Nat.le_of_ble_eq_true rfl)
  rw [he]
  have hl : lv_has ls 2 [(0, .ref (ad 0)), (1, .int a1)] := hl
  show W p l e rmB_totalOf s m args below meth c s.heap [] 0 0 (MQ below (qP (some .int) (some (.int r))) args s 0 0 (fun _ => False)) (F0 m 0 ls [])
  rw [fB_totalOf] at hf
  refine lv_iload_n hx hb dX0_totalOf_0 rfl (lv_at hl 1 rfl) ?_
  refine lv_if_lt (tgt := 30) hx hb dX0_totalOf_1 (by decide) (fun c1 => ?_) (fun c1 => ?_)
  · have hf := ite_t hf c1
    refine lv_iconst (v := 0) hx hb dX0_totalOf_30 (by decide) ?_
    have hf := Option.some.inj hf
    exact e_Pi hC hr hlocks hf dX0_totalOf_31
  · have hf := ite_f hf c1
    refine lv_iload_n hx hb dX0_totalOf_4 rfl (lv_at hl 1 rfl) ?_
    refine lv_aload_n hx hb dX0_totalOf_5 rfl (lv_at hl 0 rfl) ?_
    refine gX0_18 hC hP 0 rfl (v := .int q0_number) rfl dX0_totalOf_6 ?_
    refine lv_icmp_ge (tgt := 30) hx hb dX0_totalOf_9 (by decide) (fun c2 => ?_) (fun c2 => ?_)
    · have hf := ite_t hf c2
      refine lv_iconst (v := 0) hx hb dX0_totalOf_30 (by decide) ?_
      have hf := Option.some.inj hf
      exact e_Pi hC hr hlocks hf dX0_totalOf_31
    · have hf := ite_f hf c2
      refine lv_iload_n hx hb dX0_totalOf_12 rfl (lv_at hl 1 rfl) ?_
      refine lv_aload_n hx hb dX0_totalOf_13 rfl (lv_at hl 0 rfl) ?_
      refine gX0_15 hC hP 0 rfl (v := .ref (ad 2)) rfl dX0_totalOf_14 ?_
      refine va_alen (v := 64) hx hb hK.1 hP 2 0 rfl rfl rfl dX0_totalOf_17 ?_
      refine lv_icmp_ge (tgt := 30) hx hb dX0_totalOf_18 (by decide) (fun c3 => ?_) (fun c3 => ?_)
      · have hf := ite_t hf c3
        refine lv_iconst (v := 0) hx hb dX0_totalOf_30 (by decide) ?_
        have hf := Option.some.inj hf
        exact e_Pi hC hr hlocks hf dX0_totalOf_31
      · have hf := ite_f hf c3
        refine lv_aload_n hx hb dX0_totalOf_21 rfl (lv_at hl 0 rfl) ?_
        refine gX0_15 hC hP 0 rfl (v := .ref (ad 2)) rfl dX0_totalOf_22 ?_
        refine lv_iload_n hx hb dX0_totalOf_25 rfl (lv_at hl 1 rfl) ?_
        obtain ⟨v4, hv4, hf⟩ := ob hf
        obtain ⟨hv4a, hv4b⟩ := ldA_ok hv4
        refine a_ild hC hP 2 rfl hv4a hv4b dX0_totalOf_26 ?_
        refine lv_goto (tgt := 31) hx hb dX0_totalOf_27 (by decide) ?_
        have hf := Option.some.inj hf
        exact e_Pi hC hr hlocks hf dX0_totalOf_31
abbrev rmB_bagWith : Room := { frames := 1, cells := 0, slots := 0, locals := 21 }
set_option maxHeartbeats 4000000 in
set_option maxRecDepth 100000 in
theorem cB_bagWith (l : Launch) (E : eE) (ad : Nat → Nat) (q0_begins : (Nat → Int32)) (q0_totals : (Nat → Int32)) (q0_number : Int32) (q0_letterCount : Int32) (a1 : Int32) (r : Int32) (hf : fB_bagWith q0_begins q0_number q0_letterCount a1 = some r) : cP l E yX0_bagWith cX0_bagWith 3 (some .int) rmB_bagWith [.ref (ad 0), .int a1] (wB E ad q0_begins q0_totals q0_number q0_letterCount) (some (.int r)) := by
  refine Met.ofW (cc := cX0_bagWith) (maxL := 3) (ret := (some .int)) (by decide) rfl ?_
  intro p e s m args below meth c s₁ B hml hv
  obtain ⟨hargs, hP, hK⟩ := hv
  have hx := B.exec
  have hb := B.bytes
  have hr := B.returns
  have hts := atoms_spec (ws := ws_ yX0_bagWith cX0_bagWith 3 (some .int)) B.pre
  have hta : ∀ w ∈ lw_all, w.before args s = true := fun w h => hts w (List.mem_cons_of_mem _ h)
  have hown : s.vm.findClass RX0 = some m.cls := findClass_of_methodNamed B.named
  have hlocks := B.notSynchronized
  have hC : Cx p s m args c cX0_bagWith 3 RX0 E := ⟨hx, hb, hml, hown, hta, hK⟩
  obtain ⟨ls, he, hl⟩ := entry_ (m := m) (n := 3) hargs (Nat.le_of_ble_eq_true rfl)
  rw [he]
  have hl : lv_has ls 3 [(0, .ref (ad 0)), (1, .int a1)] := hl
  show W p l e rmB_bagWith s m args below meth c s.heap [] 0 0 (MQ below (qP (some .int) (some (.int r))) args s 0 0 (fun _ => False)) (F0 m 0 ls [])
  have L2 : ∀ (n : Nat) (a1 : Int32) (a2 : Int32) (ls : Array Slot), lv_has ls 3 [(0, .ref (ad 0)), (1, .int a1), (2, .int a2)] → fB_bagWith_2 n q0_begins q0_number q0_letterCount a1 a2 = some r → W p l e rmB_bagWith s m args below meth c s.heap [] 0 0 (MQ below (qP (some .int) (some (.int r))) args s 0 0 (fun _ => False)) (F0 m 2 ls []) := by
    intro n
    induction n with
    | zero => intro a1 a2 ls hl hf; cases hf
    | succ n ih =>
      intro a1 a2 ls hl hf
      rw [fB_bagWith_2] at hf
      refine lv_iload_n hx hb dX0_bagWith_2 rfl (lv_at hl 2 rfl) ?_
      refine lv_aload_n hx hb dX0_bagWith_3 rfl (lv_at hl 0 rfl) ?_
      refine gX0_18 hC hP 0 rfl (v := .int q0_number) rfl dX0_bagWith_4 ?_
      refine lv_iconst (v := 1) hx hb dX0_bagWith_7 (by decide) ?_
      refine lv_isub hx hb dX0_bagWith_8 ?_
      refine lv_icmp_ge (tgt := 29) hx hb dX0_bagWith_9 (by decide) (fun c1 => ?_) (fun c1 => ?_)
      · have hf := ite_t hf c1
        refine lv_iload_n hx hb dX0_bagWith_29 rfl (lv_at hl 2 rfl) ?_
        have hf := Option.some.inj hf
        exact e_Pi hC hr hlocks hf dX0_bagWith_30
      · have hf := ite_f hf c1
        refine lv_aload_n hx hb dX0_bagWith_12 rfl (lv_at hl 0 rfl) ?_
        refine lv_iload_n hx hb dX0_bagWith_13 rfl (lv_at hl 2 rfl) ?_
        refine lv_iconst (v := 1) hx hb dX0_bagWith_14 (by decide) ?_
        refine lv_iadd hx hb dX0_bagWith_15 ?_
        obtain ⟨t2, ht2, hf⟩ := ob hf
        refine k_PVi hC LX0_46 ⟨Nat.le_of_ble_eq_true rfl, Nat.le_of_ble_eq_true rfl⟩ ⟨Nat.zero_le _, Nat.zero_le _⟩ (cB_beginOf l E ad q0_begins q0_totals q0_number q0_letterCount (a2 + (1 : Int32)) t2 ht2) rfl rfl hP rfl rfl hl.1 rfl (Nat.le_of_ble_eq_true rfl) rfl dX0_bagWith_16 (fun hz16 => ?_)
        refine lv_iload_n hx hb dX0_bagWith_19 rfl (lv_at hl 1 rfl) ?_
        refine lv_icmp_gt (tgt := 29) hx hb dX0_bagWith_20 (by decide) (fun c3 => ?_) (fun c3 => ?_)
        · have hf := ite_t hf c3
          refine lv_iload_n hx hb dX0_bagWith_29 rfl (lv_at hl 2 rfl) ?_
          have hf := Option.some.inj hf
          exact e_Pi hC hr hlocks hf dX0_bagWith_30
        · have hf := ite_f hf c3
          refine lv_iinc (v := (a2 + (1 : Int32))) (lv' := [(2, .int (a2 + (1 : Int32))), (0, .ref (ad 0)), (1, .int a1)]) hx hb dX0_bagWith_23 hl (k := 2) rfl rfl (by decide) rfl (fun ls hl => ?_)
          refine lv_goto (tgt := 2) hx hb dX0_bagWith_26 (by decide) ?_
          exact ih a1 (a2 + (1 : Int32)) ls (lv_sub hl [1, 2, 0] rfl) hf
  rw [fB_bagWith] at hf
  refine lv_iconst (v := 0) hx hb dX0_bagWith_0 (by decide) ?_
  refine lv_istore_n (lv' := [(2, .int (0 : Int32)), (0, .ref (ad 0)), (1, .int a1)]) hx hb dX0_bagWith_1 rfl hl (by decide) rfl (fun ls hl => ?_)
  exact L2 FU a1 (0 : Int32) ls (lv_sub hl [1, 2, 0] rfl) hf
abbrev rmB_isAhead : Room := { frames := 2, cells := 0, slots := 0, locals := 42 }
set_option maxHeartbeats 4000000 in
set_option maxRecDepth 100000 in
theorem cB_isAhead (l : Launch) (E : eE) (ad : Nat → Nat) (q0_begins : (Nat → Int32)) (q0_totals : (Nat → Int32)) (q0_number : Int32) (q0_letterCount : Int32) (a1 : Int32) (a2 : Int32) (r : Int32) (hf : fB_isAhead q0_begins q0_totals q0_number q0_letterCount a1 a2 = some r) : cP l E yX0_isAhead cX0_isAhead 5 (some .boolean) rmB_isAhead [.ref (ad 0), .int a1, .int a2] (wB E ad q0_begins q0_totals q0_number q0_letterCount) (some (.int r)) := by
  refine Met.ofW (cc := cX0_isAhead) (maxL := 5) (ret := (some .boolean)) (by decide) rfl ?_
  intro p e s m args below meth c s₁ B hml hv
  obtain ⟨hargs, hP, hK⟩ := hv
  have hx := B.exec
  have hb := B.bytes
  have hr := B.returns
  have hts := atoms_spec (ws := ws_ yX0_isAhead cX0_isAhead 5 (some .boolean)) B.pre
  have hta : ∀ w ∈ lw_all, w.before args s = true := fun w h => hts w (List.mem_cons_of_mem _ h)
  have hown : s.vm.findClass RX0 = some m.cls := findClass_of_methodNamed B.named
  have hlocks := B.notSynchronized
  have hC : Cx p s m args c cX0_isAhead 5 RX0 E := ⟨hx, hb, hml, hown, hta, hK⟩
  obtain ⟨ls, he, hl⟩ := entry_ (m := m) (n := 5) hargs (Nat.le_of_ble_eq_true rfl)
  rw [he]
  have hl : lv_has ls 5 [(0, .ref (ad 0)), (1, .int a1), (2, .int a2)] := hl
  show W p l e rmB_isAhead s m args below meth c s.heap [] 0 0 (MQ below (qP (some .boolean) (some (.int r))) args s 0 0 (fun _ => False)) (F0 m 0 ls [])
  rw [fB_isAhead] at hf
  refine lv_aload_n hx hb dX0_isAhead_0 rfl (lv_at hl 0 rfl) ?_
  refine lv_iload_n hx hb dX0_isAhead_1 rfl (lv_at hl 1 rfl) ?_
  obtain ⟨t1, ht1, hf⟩ := ob hf
  refine k_PVi hC LX0_56 ⟨Nat.le_of_ble_eq_true rfl, Nat.le_of_ble_eq_true rfl⟩ ⟨Nat.zero_le _, Nat.zero_le _⟩ (cB_totalOf l E ad q0_begins q0_totals q0_number q0_letterCount a1 t1 ht1) rfl rfl hP rfl rfl hl.1 rfl (Nat.le_of_ble_eq_true rfl) rfl dX0_isAhead_2 (fun hz2 => ?_)
  refine lv_aload_n hx hb dX0_isAhead_5 rfl (lv_at hl 0 rfl) ?_
  refine lv_iload_n hx hb dX0_isAhead_6 rfl (lv_at hl 2 rfl) ?_
  obtain ⟨t2, ht2, hf⟩ := ob hf
  refine k_PVi hC LX0_56 ⟨Nat.le_of_ble_eq_true rfl, Nat.le_of_ble_eq_true rfl⟩ ⟨Nat.zero_le _, Nat.zero_le _⟩ (cB_totalOf l E ad q0_begins q0_totals q0_number q0_letterCount a2 t2 ht2) rfl rfl hP rfl rfl hl.1 rfl (Nat.le_of_ble_eq_true rfl) rfl dX0_isAhead_7 (fun hz7 => ?_)
  refine lv_icmp_eq (tgt := 32) hx hb dX0_isAhead_10 (by decide) (fun c3 => ?_) (fun c3 => ?_)
  · have hf := ite_t hf c3
    refine lv_aload_n hx hb dX0_isAhead_32 rfl (lv_at hl 0 rfl) ?_
    refine lv_iload_n hx hb dX0_isAhead_33 rfl (lv_at hl 1 rfl) ?_
    obtain ⟨t4, ht4, hf⟩ := ob hf
    refine k_PVi hC LX0_59 ⟨Nat.le_of_ble_eq_true rfl, Nat.le_of_ble_eq_true rfl⟩ ⟨Nat.zero_le _, Nat.zero_le _⟩ (cB_endOf l E ad q0_begins q0_totals q0_number q0_letterCount a1 t4 ht4) rfl rfl hP rfl rfl hl.1 rfl (Nat.le_of_ble_eq_true rfl) rfl dX0_isAhead_34 (fun hz34 => ?_)
    refine lv_aload_n hx hb dX0_isAhead_37 rfl (lv_at hl 0 rfl) ?_
    refine lv_iload_n hx hb dX0_isAhead_38 rfl (lv_at hl 1 rfl) ?_
    obtain ⟨t5, ht5, hf⟩ := ob hf
    refine k_PVi hC LX0_46 ⟨Nat.le_of_ble_eq_true rfl, Nat.le_of_ble_eq_true rfl⟩ ⟨Nat.zero_le _, Nat.zero_le _⟩ (cB_beginOf l E ad q0_begins q0_totals q0_number q0_letterCount a1 t5 ht5) rfl rfl hP rfl rfl hl.1 rfl (Nat.le_of_ble_eq_true rfl) rfl dX0_isAhead_39 (fun hz39 => ?_)
    refine lv_isub hx hb dX0_isAhead_42 ?_
    refine lv_istore_n (lv' := [(3, .int (t4 - t5)), (0, .ref (ad 0)), (1, .int a1), (2, .int a2)]) hx hb dX0_isAhead_43 rfl hl (by decide) rfl (fun ls hl => ?_)
    refine lv_aload_n hx hb dX0_isAhead_44 rfl (lv_at hl 1 rfl) ?_
    refine lv_iload_n hx hb dX0_isAhead_45 rfl (lv_at hl 3 rfl) ?_
    obtain ⟨t6, ht6, hf⟩ := ob hf
    refine k_PVi hC LX0_59 ⟨Nat.le_of_ble_eq_true rfl, Nat.le_of_ble_eq_true rfl⟩ ⟨Nat.zero_le _, Nat.zero_le _⟩ (cB_endOf l E ad q0_begins q0_totals q0_number q0_letterCount a2 t6 ht6) rfl rfl hP rfl rfl hl.1 rfl (Nat.le_of_ble_eq_true rfl) rfl dX0_isAhead_46 (fun hz46 => ?_)
    refine lv_aload_n hx hb dX0_isAhead_49 rfl (lv_at hl 1 rfl) ?_
    refine lv_iload_n hx hb dX0_isAhead_50 rfl (lv_at hl 3 rfl) ?_
    obtain ⟨t7, ht7, hf⟩ := ob hf
    refine k_PVi hC LX0_46 ⟨Nat.le_of_ble_eq_true rfl, Nat.le_of_ble_eq_true rfl⟩ ⟨Nat.zero_le _, Nat.zero_le _⟩ (cB_beginOf l E ad q0_begins q0_totals q0_number q0_letterCount a2 t7 ht7) rfl rfl hP rfl rfl hl.1 rfl (Nat.le_of_ble_eq_true rfl) rfl dX0_isAhead_51 (fun hz51 => ?_)
    refine lv_isub hx hb dX0_isAhead_54 ?_
    refine lv_istore (lv' := [(4, .int (t6 - t7)), (3, .int (t4 - t5)), (0, .ref (ad 0)), (1, .int a1), (2, .int a2)]) hx hb dX0_isAhead_55 hl (by decide) rfl (fun ls hl => ?_)
    refine lv_iload_n hx hb dX0_isAhead_57 rfl (lv_at hl 1 rfl) ?_
    refine lv_iload hx hb dX0_isAhead_58 (lv_at hl 0 rfl) ?_
    refine lv_icmp_eq (tgt := 77) hx hb dX0_isAhead_60 (by decide) (fun c8 => ?_) (fun c8 => ?_)
    · have hf := ite_t hf c8
      refine lv_iload_n hx hb dX0_isAhead_77 rfl (lv_at hl 3 rfl) ?_
      refine lv_iload_n hx hb dX0_isAhead_78 rfl (lv_at hl 4 rfl) ?_
      refine lv_icmp_ge (tgt := 86) hx hb dX0_isAhead_79 (by decide) (fun c9 => ?_) (fun c9 => ?_)
      · have hf := ite_t hf c9
        refine lv_iconst (v := 0) hx hb dX0_isAhead_86 (by decide) ?_
        have hf := Option.some.inj hf
        exact e_Pz hC hr hlocks hf rfl dX0_isAhead_87
      · have hf := ite_f hf c9
        refine lv_iconst (v := 1) hx hb dX0_isAhead_82 (by decide) ?_
        refine lv_goto (tgt := 87) hx hb dX0_isAhead_83 (by decide) ?_
        have hf := Option.some.inj hf
        exact e_Pz hC hr hlocks hf rfl dX0_isAhead_87
    · have hf := ite_f hf c8
      refine lv_iload_n hx hb dX0_isAhead_63 rfl (lv_at hl 1 rfl) ?_
      refine lv_iload hx hb dX0_isAhead_64 (lv_at hl 0 rfl) ?_
      refine lv_icmp_ge (tgt := 73) hx hb dX0_isAhead_66 (by decide) (fun c10 => ?_) (fun c10 => ?_)
      · have hf := ite_t hf c10
        refine lv_iconst (v := 0) hx hb dX0_isAhead_73 (by decide) ?_
        refine lv_goto (tgt := 87) hx hb dX0_isAhead_74 (by decide) ?_
        have hf := Option.some.inj hf
        exact e_Pz hC hr hlocks hf rfl dX0_isAhead_87
      · have hf := ite_f hf c10
        refine lv_iconst (v := 1) hx hb dX0_isAhead_69 (by decide) ?_
        refine lv_goto (tgt := 87) hx hb dX0_isAhead_70 (by decide) ?_
        have hf := Option.some.inj hf
        exact e_Pz hC hr hlocks hf rfl dX0_isAhead_87
  · have hf := ite_f hf c3
    refine lv_aload_n hx hb dX0_isAhead_13 rfl (lv_at hl 0 rfl) ?_
    refine lv_iload_n hx hb dX0_isAhead_14 rfl (lv_at hl 1 rfl) ?_
    obtain ⟨t11, ht11, hf⟩ := ob hf
    refine k_PVi hC LX0_56 ⟨Nat.le_of_ble_eq_true rfl, Nat.le_of_ble_eq_true rfl⟩ ⟨Nat.zero_le _, Nat.zero_le _⟩ (cB_totalOf l E ad q0_begins q0_totals q0_number q0_letterCount a1 t11 ht11) rfl rfl hP rfl rfl hl.1 rfl (Nat.le_of_ble_eq_true rfl) rfl dX0_isAhead_15 (fun hz15 => ?_)
    refine lv_aload_n hx hb dX0_isAhead_18 rfl (lv_at hl 0 rfl) ?_
    refine lv_iload_n hx hb dX0_isAhead_19 rfl (lv_at hl 2 rfl) ?_
    obtain ⟨t12, ht12, hf⟩ := ob hf
    refine k_PVi hC LX0_56 ⟨Nat.le_of_ble_eq_true rfl, Nat.le_of_ble_eq_true rfl⟩ ⟨Nat.zero_le _, Nat.zero_le _⟩ (cB_totalOf l E ad q0_begins q0_totals q0_number q0_letterCount a2 t12 ht12) rfl rfl hP rfl rfl hl.1 rfl (Nat.le_of_ble_eq_true rfl) rfl dX0_isAhead_20 (fun hz20 => ?_)
    refine lv_icmp_le (tgt := 30) hx hb dX0_isAhead_23 (by decide) (fun c13 => ?_) (fun c13 => ?_)
    · have hf := ite_t hf c13
      refine lv_iconst (v := 0) hx hb dX0_isAhead_30 (by decide) ?_
      have hf := Option.some.inj hf
      exact e_Pz hC hr hlocks hf rfl dX0_isAhead_31
    · have hf := ite_f hf c13
      refine lv_iconst (v := 1) hx hb dX0_isAhead_26 (by decide) ?_
      refine lv_goto (tgt := 31) hx hb dX0_isAhead_27 (by decide) ?_
      have hf := Option.some.inj hf
      exact e_Pz hC hr hlocks hf rfl dX0_isAhead_31
abbrev rmB_numberAheadOf : Room := { frames := 3, cells := 0, slots := 0, locals := 66 }
set_option maxHeartbeats 4000000 in
set_option maxRecDepth 100000 in
theorem cB_numberAheadOf (l : Launch) (E : eE) (ad : Nat → Nat) (q0_begins : (Nat → Int32)) (q0_totals : (Nat → Int32)) (q0_number : Int32) (q0_letterCount : Int32) (a1 : Int32) (r : Int32) (hf : fB_numberAheadOf q0_begins q0_totals q0_number q0_letterCount a1 = some r) : cP l E yX0_numberAheadOf cX0_numberAheadOf 4 (some .int) rmB_numberAheadOf [.ref (ad 0), .int a1] (wB E ad q0_begins q0_totals q0_number q0_letterCount) (some (.int r)) := by
  refine Met.ofW (cc := cX0_numberAheadOf) (maxL := 4) (ret := (some .int)) (by decide) rfl ?_
  intro p e s m args below meth c s₁ B hml hv
  obtain ⟨hargs, hP, hK⟩ := hv
  have hx := B.exec
  have hb := B.bytes
  have hr := B.returns
  have hts := atoms_spec (ws := ws_ yX0_numberAheadOf cX0_numberAheadOf 4 (some .int)) B.pre
  have hta : ∀ w ∈ lw_all, w.before args s = true := fun w h => hts w (List.mem_cons_of_mem _ h)
  have hown : s.vm.findClass RX0 = some m.cls := findClass_of_methodNamed B.named
  have hlocks := B.notSynchronized
  have hC : Cx p s m args c cX0_numberAheadOf 4 RX0 E := ⟨hx, hb, hml, hown, hta, hK⟩
  obtain ⟨ls, he, hl⟩ := entry_ (m := m) (n := 4) hargs (Nat.le_of_ble_eq_true rfl)
  rw [he]
  have hl : lv_has ls 4 [(0, .ref (ad 0)), (1, .int a1)] := hl
  show W p l e rmB_numberAheadOf s m args below meth c s.heap [] 0 0 (MQ below (qP (some .int) (some (.int r))) args s 0 0 (fun _ => False)) (F0 m 0 ls [])
  have L4 : ∀ (n : Nat) (a1 : Int32) (a2 : Int32) (a3 : Int32) (ls : Array Slot), lv_has ls 4 [(0, .ref (ad 0)), (1, .int a1), (2, .int a2), (3, .int a3)] → fB_numberAheadOf_4 n q0_begins q0_totals q0_number q0_letterCount a1 a2 a3 = some r → W p l e rmB_numberAheadOf s m args below meth c s.heap [] 0 0 (MQ below (qP (some .int) (some (.int r))) args s 0 0 (fun _ => False)) (F0 m 4 ls []) := by
    intro n
    induction n with
    | zero => intro a1 a2 a3 ls hl hf; cases hf
    | succ n ih =>
      intro a1 a2 a3 ls hl hf
      rw [fB_numberAheadOf_4] at hf
      refine lv_iload_n hx hb dX0_numberAheadOf_4 rfl (lv_at hl 3 rfl) ?_
      refine lv_aload_n hx hb dX0_numberAheadOf_5 rfl (lv_at hl 0 rfl) ?_
      refine gX0_18 hC hP 0 rfl (v := .int q0_number) rfl dX0_numberAheadOf_6 ?_
      refine lv_icmp_ge (tgt := 30) hx hb dX0_numberAheadOf_9 (by decide) (fun c1 => ?_) (fun c1 => ?_)
      · have hf := ite_t hf c1
        refine lv_iload_n hx hb dX0_numberAheadOf_30 rfl (lv_at hl 2 rfl) ?_
        have hf := Option.some.inj hf
        exact e_Pi hC hr hlocks hf dX0_numberAheadOf_31
      · have hf := ite_f hf c1
        refine lv_aload_n hx hb dX0_numberAheadOf_12 rfl (lv_at hl 0 rfl) ?_
        refine lv_iload_n hx hb dX0_numberAheadOf_13 rfl (lv_at hl 3 rfl) ?_
        refine lv_iload_n hx hb dX0_numberAheadOf_14 rfl (lv_at hl 1 rfl) ?_
        obtain ⟨t2, ht2, hf⟩ := ob hf
        refine k_PVi hC LX0_52 ⟨Nat.le_of_ble_eq_true rfl, Nat.le_of_ble_eq_true rfl⟩ ⟨Nat.zero_le _, Nat.zero_le _⟩ (cB_isAhead l E ad q0_begins q0_totals q0_number q0_letterCount a3 a1 t2 ht2) rfl rfl hP rfl rfl hl.1 rfl (Nat.le_of_ble_eq_true rfl) rfl dX0_numberAheadOf_15 (fun hz15 => ?_)
        refine lv_if_eq (tgt := 24) hx hb dX0_numberAheadOf_18 (by decide) (fun c3 => ?_) (fun c3 => ?_)
        · have hf := ite_t hf c3
          refine lv_iinc (v := (a3 + (1 : Int32))) (lv' := [(3, .int (a3 + (1 : Int32))), (0, .ref (ad 0)), (1, .int a1), (2, .int a2)]) hx hb dX0_numberAheadOf_24 hl (k := 3) rfl rfl (by decide) rfl (fun ls hl => ?_)
          refine lv_goto (tgt := 4) hx hb dX0_numberAheadOf_27 (by decide) ?_
          exact ih a1 a2 (a3 + (1 : Int32)) ls (lv_sub hl [1, 2, 3, 0] rfl) hf
        · have hf := ite_f hf c3
          refine lv_iinc (v := (a2 + (1 : Int32))) (lv' := [(2, .int (a2 + (1 : Int32))), (0, .ref (ad 0)), (1, .int a1), (3, .int a3)]) hx hb dX0_numberAheadOf_21 hl (k := 2) rfl rfl (by decide) rfl (fun ls hl => ?_)
          refine lv_iinc (v := (a3 + (1 : Int32))) (lv' := [(3, .int (a3 + (1 : Int32))), (2, .int (a2 + (1 : Int32))), (0, .ref (ad 0)), (1, .int a1)]) hx hb dX0_numberAheadOf_24 hl (k := 3) rfl rfl (by decide) rfl (fun ls hl => ?_)
          refine lv_goto (tgt := 4) hx hb dX0_numberAheadOf_27 (by decide) ?_
          exact ih a1 (a2 + (1 : Int32)) (a3 + (1 : Int32)) ls (lv_sub hl [2, 3, 1, 0] rfl) hf
  rw [fB_numberAheadOf] at hf
  refine lv_iconst (v := 0) hx hb dX0_numberAheadOf_0 (by decide) ?_
  refine lv_istore_n (lv' := [(2, .int (0 : Int32)), (0, .ref (ad 0)), (1, .int a1)]) hx hb dX0_numberAheadOf_1 rfl hl (by decide) rfl (fun ls hl => ?_)
  refine lv_iconst (v := 0) hx hb dX0_numberAheadOf_2 (by decide) ?_
  refine lv_istore_n (lv' := [(3, .int (0 : Int32)), (2, .int (0 : Int32)), (0, .ref (ad 0)), (1, .int a1)]) hx hb dX0_numberAheadOf_3 rfl hl (by decide) rfl (fun ls hl => ?_)
  exact L4 FU a1 (0 : Int32) (0 : Int32) ls (lv_sub hl [2, 3, 1, 0] rfl) hf
abbrev rmB_byTotal : Room := { frames := 4, cells := 0, slots := 0, locals := 89 }
set_option maxHeartbeats 4000000 in
set_option maxRecDepth 100000 in
theorem cB_byTotal (l : Launch) (E : eE) (ad : Nat → Nat) (q0_begins : (Nat → Int32)) (q0_totals : (Nat → Int32)) (q0_number : Int32) (q0_letterCount : Int32) (a1 : Int32) (r : Int32) (hf : fB_byTotal q0_begins q0_totals q0_number q0_letterCount a1 = some r) : cP l E yX0_byTotal cX0_byTotal 3 (some .int) rmB_byTotal [.ref (ad 0), .int a1] (wB E ad q0_begins q0_totals q0_number q0_letterCount) (some (.int r)) := by
  refine Met.ofW (cc := cX0_byTotal) (maxL := 3) (ret := (some .int)) (by decide) rfl ?_
  intro p e s m args below meth c s₁ B hml hv
  obtain ⟨hargs, hP, hK⟩ := hv
  have hx := B.exec
  have hb := B.bytes
  have hr := B.returns
  have hts := atoms_spec (ws := ws_ yX0_byTotal cX0_byTotal 3 (some .int)) B.pre
  have hta : ∀ w ∈ lw_all, w.before args s = true := fun w h => hts w (List.mem_cons_of_mem _ h)
  have hown : s.vm.findClass RX0 = some m.cls := findClass_of_methodNamed B.named
  have hlocks := B.notSynchronized
  have hC : Cx p s m args c cX0_byTotal 3 RX0 E := ⟨hx, hb, hml, hown, hta, hK⟩
  obtain ⟨ls, he, hl⟩ := entry_ (m := m) (n := 3) hargs (Nat.le_of_ble_eq_true rfl)
  rw [he]
  have hl : lv_has ls 3 [(0, .ref (ad 0)), (1, .int a1)] := hl
  show W p l e rmB_byTotal s m args below meth c s.heap [] 0 0 (MQ below (qP (some .int) (some (.int r))) args s 0 0 (fun _ => False)) (F0 m 0 ls [])
  have L2 : ∀ (n : Nat) (a1 : Int32) (a2 : Int32) (ls : Array Slot), lv_has ls 3 [(0, .ref (ad 0)), (1, .int a1), (2, .int a2)] → fB_byTotal_2 n q0_begins q0_totals q0_number q0_letterCount a1 a2 = some r → W p l e rmB_byTotal s m args below meth c s.heap [] 0 0 (MQ below (qP (some .int) (some (.int r))) args s 0 0 (fun _ => False)) (F0 m 2 ls []) := by
    intro n
    induction n with
    | zero => intro a1 a2 ls hl hf; cases hf
    | succ n ih =>
      intro a1 a2 ls hl hf
      rw [fB_byTotal_2] at hf
      refine lv_iload_n hx hb dX0_byTotal_2 rfl (lv_at hl 2 rfl) ?_
      refine lv_aload_n hx hb dX0_byTotal_3 rfl (lv_at hl 0 rfl) ?_
      refine gX0_18 hC hP 0 rfl (v := .int q0_number) rfl dX0_byTotal_4 ?_
      refine lv_icmp_ge (tgt := 27) hx hb dX0_byTotal_7 (by decide) (fun c1 => ?_) (fun c1 => ?_)
      · have hf := ite_t hf c1
        refine lv_iconst (v := (-1)) hx hb dX0_byTotal_27 (by decide) ?_
        have hf := Option.some.inj hf
        exact e_Pi hC hr hlocks hf dX0_byTotal_28
      · have hf := ite_f hf c1
        refine lv_aload_n hx hb dX0_byTotal_10 rfl (lv_at hl 0 rfl) ?_
        refine lv_iload_n hx hb dX0_byTotal_11 rfl (lv_at hl 2 rfl) ?_
        obtain ⟨t2, ht2, hf⟩ := ob hf
        refine k_PVi hC LX0_49 ⟨Nat.le_of_ble_eq_true rfl, Nat.le_of_ble_eq_true rfl⟩ ⟨Nat.zero_le _, Nat.zero_le _⟩ (cB_numberAheadOf l E ad q0_begins q0_totals q0_number q0_letterCount a2 t2 ht2) rfl rfl hP rfl rfl hl.1 rfl (Nat.le_of_ble_eq_true rfl) rfl dX0_byTotal_12 (fun hz12 => ?_)
        refine lv_iload_n hx hb dX0_byTotal_15 rfl (lv_at hl 1 rfl) ?_
        refine lv_icmp_ne (tgt := 21) hx hb dX0_byTotal_16 (by decide) (fun c3 => ?_) (fun c3 => ?_)
        · have hf := ite_f hf c3
          refine lv_iinc (v := (a2 + (1 : Int32))) (lv' := [(2, .int (a2 + (1 : Int32))), (0, .ref (ad 0)), (1, .int a1)]) hx hb dX0_byTotal_21 hl (k := 2) rfl rfl (by decide) rfl (fun ls hl => ?_)
          refine lv_goto (tgt := 2) hx hb dX0_byTotal_24 (by decide) ?_
          exact ih a1 (a2 + (1 : Int32)) ls (lv_sub hl [1, 2, 0] rfl) hf
        · have hf := ite_t hf c3
          refine lv_iload_n hx hb dX0_byTotal_19 rfl (lv_at hl 2 rfl) ?_
          have hf := Option.some.inj hf
          exact e_Pi hC hr hlocks hf dX0_byTotal_20
  rw [fB_byTotal] at hf
  refine lv_iconst (v := 0) hx hb dX0_byTotal_0 (by decide) ?_
  refine lv_istore_n (lv' := [(2, .int (0 : Int32)), (0, .ref (ad 0)), (1, .int a1)]) hx hb dX0_byTotal_1 rfl hl (by decide) rfl (fun ls hl => ?_)
  exact L2 FU a1 (0 : Int32) ls (lv_sub hl [1, 2, 0] rfl) hf
