abbrev rmN_size : Room := { frames := 0, cells := 0, slots := 0, locals := 0 }
set_option maxHeartbeats 4000000 in
set_option maxRecDepth 100000 in
theorem cN_size (l : Launch) (E : eE) (ad : Nat → Nat) (q0_codes : (Nat → Int32)) (q0_size : Int32) (r : Int32) (hf : fN_size q0_size = r) : cP l E yX2_size cX2_size 1 (some .int) rmN_size [.ref (ad 0)] (wN E ad q0_codes q0_size) (some (.int r)) := by
  refine Met.ofW (cc := cX2_size) (maxL := 1) (ret := (some .int)) (by decide) rfl ?_
  intro p e s m args below meth c s₁ B hml hv
  obtain ⟨hargs, hP, hK⟩ := hv
  have hx := B.exec
  have hb := B.bytes
  have hr := B.returns
  have hts := atoms_spec (ws := ws_ yX2_size cX2_size 1 (some .int)) B.pre
  have hta : ∀ w ∈ lw_all, w.before args s = true := fun w h => hts w (List.mem_cons_of_mem _ h)
  have hown : s.vm.findClass RX2 = some m.cls := findClass_of_methodNamed B.named
  have hlocks := B.notSynchronized
  have hC : Cx p s m args c cX2_size 1 RX2 E := ⟨hx, hb, hml, hown, hta, hK⟩
  obtain ⟨ls, he, hl⟩ := entry_ (m := m) (n := 1) hargs (Nat.le_of_ble_eq_true rfl)
  rw [he]
  have hl : lv_has ls 1 [(0, .ref (ad 0))] := hl
  show W p l e rmN_size s m args below meth c s.heap [] 0 0 (MQ below (qP (some .int) (some (.int r))) args s 0 0 (fun _ => False)) (F0 m 0 ls [])
  rw [fN_size] at hf
  refine lv_aload_n hx hb dX2_size_0 rfl (lv_at hl 0 rfl) ?_
  refine gX2_15 hC hP 0 rfl (v := .int q0_size) rfl dX2_size_1 ?_
  exact e_Pi hC hr hlocks hf dX2_size_4
abbrev rmN_empty : Room := { frames := 0, cells := 0, slots := 0, locals := 0 }
set_option maxHeartbeats 4000000 in
set_option maxRecDepth 100000 in
theorem cN_empty (l : Launch) (E : eE) (ad : Nat → Nat) (q0_codes : (Nat → Int32)) (q0_size : Int32) (t : Int32) (hf : fN_empty q0_size = some t) : cW l E yX2_empty cX2_empty 1 none rmN_empty [.ref (ad 0)] (wN E ad q0_codes q0_size) none (wN E ad q0_codes t) := by
  refine Met.ofW (cc := cX2_empty) (maxL := 1) (ret := none) (by decide) rfl ?_
  intro p e s m args below meth c s₁ B hml hv
  obtain ⟨hargs, hP, hK, hD0⟩ := hv
  have hx := B.exec
  have hb := B.bytes
  have hr := B.returns
  have hts := atoms_spec (ws := ws_ yX2_empty cX2_empty 1 none) B.pre
  have hta : ∀ w ∈ lw_all, w.before args s = true := fun w h => hts w (List.mem_cons_of_mem _ h)
  have hown : s.vm.findClass RX2 = some m.cls := findClass_of_methodNamed B.named
  have hlocks := B.notSynchronized
  have hC : Cx p s m args c cX2_empty 1 RX2 E := ⟨hx, hb, hml, hown, hta, hK⟩
  have hH : Hp E (adr (wN E ad q0_codes q0_size)) (wN E ad q0_codes q0_size) s.heap s.heap [] := Hp.start hP hD0
  obtain ⟨ls, he, hl⟩ := entry_ (m := m) (n := 1) hargs (Nat.le_of_ble_eq_true rfl)
  rw [he]
  have hl : lv_has ls 1 [(0, .ref (ad 0))] := hl
  show W p l e rmN_empty s m args below meth c s.heap [] 0 0 (MQ below (qW E none none (wN E ad q0_codes q0_size) (wN E ad q0_codes t)) args s 0 0 (adr (wN E ad q0_codes q0_size))) (F0 m 0 ls [])
  suffices hmain : ∀ (H : Heap) (locs : List Loc), Hp E (adr (wN E ad q0_codes q0_size)) (wN E ad q0_codes q0_size) s.heap H locs → W p l e rmN_empty s m args below meth c H locs 0 0 (MQ below (qW E none none (wN E ad q0_codes q0_size) (wN E ad q0_codes t)) args s 0 0 (adr (wN E ad q0_codes q0_size))) (F0 m 0 ls []) from hmain _ _ hH
  clear hH
  intro H locs hH
  rw [fN_empty] at hf
  refine lv_aload_n hx hb dX2_empty_0 rfl (lv_at hl 0 rfl) ?_
  refine lv_iconst (v := 0) hx hb dX2_empty_1 (by decide) ?_
  refine pX2_15 hC hH 0 rfl (v := .int (0 : Int32)) rfl rfl (Nat.le_of_ble_eq_true rfl) (W1 := wN E ad q0_codes (0 : Int32)) rfl dX2_empty_2 (fun H locs hH => ?_)
  have hf := Option.some.inj hf
  subst hf
  exact e_Wv hC hH hr hlocks rfl dX2_empty_5
abbrev rmN_write : Room := { frames := 0, cells := 0, slots := 0, locals := 0 }
set_option maxHeartbeats 4000000 in
set_option maxRecDepth 100000 in
theorem cN_write (l : Launch) (E : eE) (ad : Nat → Nat) (q0_codes : (Nat → Int32)) (q0_size : Int32) (a1 : Int32) (t : (Nat → Int32) × Int32) (hf : fN_write q0_codes q0_size a1 = some t) : cW l E yX2_write cX2_write 2 none rmN_write [.ref (ad 0), .int a1] (wN E ad q0_codes q0_size) none (wN E ad t.1 t.2) := by
  refine Met.ofW (cc := cX2_write) (maxL := 2) (ret := none) (by decide) rfl ?_
  intro p e s m args below meth c s₁ B hml hv
  obtain ⟨hargs, hP, hK, hD0⟩ := hv
  have hx := B.exec
  have hb := B.bytes
  have hr := B.returns
  have hts := atoms_spec (ws := ws_ yX2_write cX2_write 2 none) B.pre
  have hta : ∀ w ∈ lw_all, w.before args s = true := fun w h => hts w (List.mem_cons_of_mem _ h)
  have hown : s.vm.findClass RX2 = some m.cls := findClass_of_methodNamed B.named
  have hlocks := B.notSynchronized
  have hC : Cx p s m args c cX2_write 2 RX2 E := ⟨hx, hb, hml, hown, hta, hK⟩
  have hH : Hp E (adr (wN E ad q0_codes q0_size)) (wN E ad q0_codes q0_size) s.heap s.heap [] := Hp.start hP hD0
  obtain ⟨ls, he, hl⟩ := entry_ (m := m) (n := 2) hargs (Nat.le_of_ble_eq_true rfl)
  rw [he]
  have hl : lv_has ls 2 [(0, .ref (ad 0)), (1, .int a1)] := hl
  show W p l e rmN_write s m args below meth c s.heap [] 0 0 (MQ below (qW E none none (wN E ad q0_codes q0_size) (wN E ad t.1 t.2)) args s 0 0 (adr (wN E ad q0_codes q0_size))) (F0 m 0 ls [])
  suffices hmain : ∀ (H : Heap) (locs : List Loc), Hp E (adr (wN E ad q0_codes q0_size)) (wN E ad q0_codes q0_size) s.heap H locs → W p l e rmN_write s m args below meth c H locs 0 0 (MQ below (qW E none none (wN E ad q0_codes q0_size) (wN E ad t.1 t.2)) args s 0 0 (adr (wN E ad q0_codes q0_size))) (F0 m 0 ls []) from hmain _ _ hH
  clear hH
  intro H locs hH
  rw [fN_write] at hf
  refine lv_aload_n hx hb dX2_write_0 rfl (lv_at hl 0 rfl) ?_
  refine gX2_15 hC hH.1 0 rfl (v := .int q0_size) rfl dX2_write_1 ?_
  refine lv_if_lt (tgt := 39) hx hb dX2_write_4 (by decide) (fun c1 => ?_) (fun c1 => ?_)
  · have hf := ite_t hf c1
    have hf := Option.some.inj hf
    subst hf
    exact e_Wv hC hH hr hlocks rfl dX2_write_39
  · have hf := ite_f hf c1
    refine lv_aload_n hx hb dX2_write_7 rfl (lv_at hl 0 rfl) ?_
    refine gX2_15 hC hH.1 0 rfl (v := .int q0_size) rfl dX2_write_8 ?_
    refine lv_aload_n hx hb dX2_write_11 rfl (lv_at hl 0 rfl) ?_
    refine gX2_9 hC hH.1 0 rfl (v := .ref (ad 1)) rfl dX2_write_12 ?_
    refine va_alen (v := 128) hx hb hK.1 hH.1 1 0 rfl rfl rfl dX2_write_15 ?_
    refine lv_icmp_ge (tgt := 39) hx hb dX2_write_16 (by decide) (fun c2 => ?_) (fun c2 => ?_)
    · have hf := ite_t hf c2
      have hf := Option.some.inj hf
      subst hf
      exact e_Wv hC hH hr hlocks rfl dX2_write_39
    · have hf := ite_f hf c2
      refine lv_aload_n hx hb dX2_write_19 rfl (lv_at hl 0 rfl) ?_
      refine gX2_9 hC hH.1 0 rfl (v := .ref (ad 1)) rfl dX2_write_20 ?_
      refine lv_aload_n hx hb dX2_write_23 rfl (lv_at hl 0 rfl) ?_
      refine gX2_15 hC hH.1 0 rfl (v := .int q0_size) rfl dX2_write_24 ?_
      refine lv_iload_n hx hb dX2_write_27 rfl (lv_at hl 1 rfl) ?_
      obtain ⟨g3, hg3, hf⟩ := ob hf
      obtain ⟨hg3a, hg3b⟩ := stA_ok hg3
      refine a_ist hC hH 1 rfl hg3a hg3b (W1 := wN E ad g3 q0_size) rfl dX2_write_28 (fun H locs hH => ?_)
      refine lv_aload_n hx hb dX2_write_29 rfl (lv_at hl 0 rfl) ?_
      refine lv_dup hx hb dX2_write_30 rfl ?_
      refine gX2_15 hC hH.1 0 rfl (v := .int q0_size) rfl dX2_write_31 ?_
      refine lv_iconst (v := 1) hx hb dX2_write_34 (by decide) ?_
      refine lv_iadd hx hb dX2_write_35 ?_
      refine pX2_15 hC hH 0 rfl (v := .int (q0_size + (1 : Int32))) rfl rfl (Nat.le_of_ble_eq_true rfl) (W1 := wN E ad g3 (q0_size + (1 : Int32))) rfl dX2_write_36 (fun H locs hH => ?_)
      have hf := Option.some.inj hf
      subst hf
      exact e_Wv hC hH hr hlocks rfl dX2_write_39
abbrev rmN_codeAt : Room := { frames := 0, cells := 0, slots := 0, locals := 0 }
set_option maxHeartbeats 4000000 in
set_option maxRecDepth 100000 in
theorem cN_codeAt (l : Launch) (E : eE) (ad : Nat → Nat) (q0_codes : (Nat → Int32)) (q0_size : Int32) (a1 : Int32) (r : Int32) (hf : fN_codeAt q0_codes q0_size a1 = some r) : cP l E yX2_codeAt cX2_codeAt 2 (some .int) rmN_codeAt [.ref (ad 0), .int a1] (wN E ad q0_codes q0_size) (some (.int r)) := by
  refine Met.ofW (cc := cX2_codeAt) (maxL := 2) (ret := (some .int)) (by decide) rfl ?_
  intro p e s m args below meth c s₁ B hml hv
  obtain ⟨hargs, hP, hK⟩ := hv
  have hx := B.exec
  have hb := B.bytes
  have hr := B.returns
  have hts := atoms_spec (ws := ws_ yX2_codeAt cX2_codeAt 2 (some .int)) B.pre
  have hta : ∀ w ∈ lw_all, w.before args s = true := fun w h => hts w (List.mem_cons_of_mem _ h)
  have hown : s.vm.findClass RX2 = some m.cls := findClass_of_methodNamed B.named
  have hlocks := B.notSynchronized
  have hC : Cx p s m args c cX2_codeAt 2 RX2 E := ⟨hx, hb, hml, hown, hta, hK⟩
  obtain ⟨ls, he, hl⟩ := entry_ (m := m) (n := 2) hargs (Nat.le_of_ble_eq_true rfl)
  rw [he]
  have hl : lv_has ls 2 [(0, .ref (ad 0)), (1, .int a1)] := hl
  show W p l e rmN_codeAt s m args below meth c s.heap [] 0 0 (MQ below (qP (some .int) (some (.int r))) args s 0 0 (fun _ => False)) (F0 m 0 ls [])
  rw [fN_codeAt] at hf
  refine lv_iload_n hx hb dX2_codeAt_0 rfl (lv_at hl 1 rfl) ?_
  refine lv_if_lt (tgt := 30) hx hb dX2_codeAt_1 (by decide) (fun c1 => ?_) (fun c1 => ?_)
  · have hf := ite_t hf c1
    refine lv_iconst (v := (-1)) hx hb dX2_codeAt_30 (by decide) ?_
    have hf := Option.some.inj hf
    exact e_Pi hC hr hlocks hf dX2_codeAt_31
  · have hf := ite_f hf c1
    refine lv_iload_n hx hb dX2_codeAt_4 rfl (lv_at hl 1 rfl) ?_
    refine lv_aload_n hx hb dX2_codeAt_5 rfl (lv_at hl 0 rfl) ?_
    refine gX2_15 hC hP 0 rfl (v := .int q0_size) rfl dX2_codeAt_6 ?_
    refine lv_icmp_ge (tgt := 30) hx hb dX2_codeAt_9 (by decide) (fun c2 => ?_) (fun c2 => ?_)
    · have hf := ite_t hf c2
      refine lv_iconst (v := (-1)) hx hb dX2_codeAt_30 (by decide) ?_
      have hf := Option.some.inj hf
      exact e_Pi hC hr hlocks hf dX2_codeAt_31
    · have hf := ite_f hf c2
      refine lv_iload_n hx hb dX2_codeAt_12 rfl (lv_at hl 1 rfl) ?_
      refine lv_aload_n hx hb dX2_codeAt_13 rfl (lv_at hl 0 rfl) ?_
      refine gX2_9 hC hP 0 rfl (v := .ref (ad 1)) rfl dX2_codeAt_14 ?_
      refine va_alen (v := 128) hx hb hK.1 hP 1 0 rfl rfl rfl dX2_codeAt_17 ?_
      refine lv_icmp_ge (tgt := 30) hx hb dX2_codeAt_18 (by decide) (fun c3 => ?_) (fun c3 => ?_)
      · have hf := ite_t hf c3
        refine lv_iconst (v := (-1)) hx hb dX2_codeAt_30 (by decide) ?_
        have hf := Option.some.inj hf
        exact e_Pi hC hr hlocks hf dX2_codeAt_31
      · have hf := ite_f hf c3
        refine lv_aload_n hx hb dX2_codeAt_21 rfl (lv_at hl 0 rfl) ?_
        refine gX2_9 hC hP 0 rfl (v := .ref (ad 1)) rfl dX2_codeAt_22 ?_
        refine lv_iload_n hx hb dX2_codeAt_25 rfl (lv_at hl 1 rfl) ?_
        obtain ⟨v4, hv4, hf⟩ := ob hf
        obtain ⟨hv4a, hv4b⟩ := ldA_ok hv4
        refine a_ild hC hP 1 rfl hv4a hv4b dX2_codeAt_26 ?_
        refine lv_goto (tgt := 31) hx hb dX2_codeAt_27 (by decide) ?_
        have hf := Option.some.inj hf
        exact e_Pi hC hr hlocks hf dX2_codeAt_31
