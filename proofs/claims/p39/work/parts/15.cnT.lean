abbrev rmT_size : Room := { frames := 0, cells := 0, slots := 0, locals := 0 }
set_option maxHeartbeats 4000000 in
set_option maxRecDepth 100000 in
theorem cT_size (l : Launch) (E : eE) (ad : Nat → Nat) (q0_codes : (Nat → Int32)) (q0_size : Int32) (q0_kinds : (Nat → Int32)) (q0_firsts : (Nat → Int32)) (q0_seconds : (Nat → Int32)) (q0_orders : Int32) (q0_cursor : Int32) (q0_latestNumber : Int32) (r : Int32) (hf : fT_size q0_size = r) : cP l E yX7_size cX7_size 1 (some .int) rmT_size [.ref (ad 0)] (wT E ad q0_codes q0_size q0_kinds q0_firsts q0_seconds q0_orders q0_cursor q0_latestNumber) (some (.int r)) := by
  refine Met.ofW (cc := cX7_size) (maxL := 1) (ret := (some .int)) (by decide) rfl ?_
  intro p e s m args below meth c s₁ B hml hv
  obtain ⟨hargs, hP, hK⟩ := hv
  have hx := B.exec
  have hb := B.bytes
  have hr := B.returns
  have hts := atoms_spec (ws := ws_ yX7_size cX7_size 1 (some .int)) B.pre
  have hta : ∀ w ∈ lw_all, w.before args s = true := fun w h => hts w (List.mem_cons_of_mem _ h)
  have hown : s.vm.findClass RX7 = some m.cls := findClass_of_methodNamed B.named
  have hlocks := B.notSynchronized
  have hC : Cx p s m args c cX7_size 1 RX7 E := ⟨hx, hb, hml, hown, hta, hK⟩
  obtain ⟨ls, he, hl⟩ := entry_ (m := m) (n := 1) hargs (Nat.le_of_ble_eq_true rfl)
  rw [he]
  have hl : lv_has ls 1 [(0, .ref (ad 0))] := hl
  show W p l e rmT_size s m args below meth c s.heap [] 0 0 (MQ below (qP (some .int) (some (.int r))) args s 0 0 (fun _ => False)) (F0 m 0 ls [])
  rw [fT_size] at hf
  refine lv_aload_n hx hb dX7_size_0 rfl (lv_at hl 0 rfl) ?_
  refine gX7_24 hC hP 0 rfl (v := .int q0_size) rfl dX7_size_1 ?_
  exact e_Pi hC hr hlocks hf dX7_size_4
abbrev rmT_isFull : Room := { frames := 0, cells := 0, slots := 0, locals := 0 }
set_option maxHeartbeats 4000000 in
set_option maxRecDepth 100000 in
theorem cT_isFull (l : Launch) (E : eE) (ad : Nat → Nat) (q0_codes : (Nat → Int32)) (q0_size : Int32) (q0_kinds : (Nat → Int32)) (q0_firsts : (Nat → Int32)) (q0_seconds : (Nat → Int32)) (q0_orders : Int32) (q0_cursor : Int32) (q0_latestNumber : Int32) (r : Int32) (hf : fT_isFull q0_size = r) : cP l E yX7_isFull cX7_isFull 1 (some .boolean) rmT_isFull [.ref (ad 0)] (wT E ad q0_codes q0_size q0_kinds q0_firsts q0_seconds q0_orders q0_cursor q0_latestNumber) (some (.int r)) := by
  refine Met.ofW (cc := cX7_isFull) (maxL := 1) (ret := (some .boolean)) (by decide) rfl ?_
  intro p e s m args below meth c s₁ B hml hv
  obtain ⟨hargs, hP, hK⟩ := hv
  have hx := B.exec
  have hb := B.bytes
  have hr := B.returns
  have hts := atoms_spec (ws := ws_ yX7_isFull cX7_isFull 1 (some .boolean)) B.pre
  have hta : ∀ w ∈ lw_all, w.before args s = true := fun w h => hts w (List.mem_cons_of_mem _ h)
  have hown : s.vm.findClass RX7 = some m.cls := findClass_of_methodNamed B.named
  have hlocks := B.notSynchronized
  have hC : Cx p s m args c cX7_isFull 1 RX7 E := ⟨hx, hb, hml, hown, hta, hK⟩
  obtain ⟨ls, he, hl⟩ := entry_ (m := m) (n := 1) hargs (Nat.le_of_ble_eq_true rfl)
  rw [he]
  have hl : lv_has ls 1 [(0, .ref (ad 0))] := hl
  show W p l e rmT_isFull s m args below meth c s.heap [] 0 0 (MQ below (qP (some .boolean) (some (.int r))) args s 0 0 (fun _ => False)) (F0 m 0 ls [])
  rw [fT_isFull] at hf
  refine lv_aload_n hx hb dX7_isFull_0 rfl (lv_at hl 0 rfl) ?_
  refine gX7_24 hC hP 0 rfl (v := .int q0_size) rfl dX7_isFull_1 ?_
  refine lv_aload_n hx hb dX7_isFull_4 rfl (lv_at hl 0 rfl) ?_
  refine gX7_9 hC hP 0 rfl (v := .ref (ad 1)) rfl dX7_isFull_5 ?_
  refine va_alen (v := 60) hx hb hK.1 hP 1 0 rfl rfl rfl dX7_isFull_8 ?_
  refine lv_icmp_lt (tgt := 16) hx hb dX7_isFull_9 (by decide) (fun c1 => ?_) (fun c1 => ?_)
  · have hf := ite_t hf c1
    refine lv_iconst (v := 0) hx hb dX7_isFull_16 (by decide) ?_
    exact e_Pz hC hr hlocks hf rfl dX7_isFull_17
  · have hf := ite_f hf c1
    refine lv_iconst (v := 1) hx hb dX7_isFull_12 (by decide) ?_
    refine lv_goto (tgt := 17) hx hb dX7_isFull_13 (by decide) ?_
    exact e_Pz hC hr hlocks hf rfl dX7_isFull_17
abbrev rmT_add : Room := { frames := 0, cells := 0, slots := 0, locals := 0 }
set_option maxHeartbeats 4000000 in
set_option maxRecDepth 100000 in
theorem cT_add (l : Launch) (E : eE) (ad : Nat → Nat) (q0_codes : (Nat → Int32)) (q0_size : Int32) (q0_kinds : (Nat → Int32)) (q0_firsts : (Nat → Int32)) (q0_seconds : (Nat → Int32)) (q0_orders : Int32) (q0_cursor : Int32) (q0_latestNumber : Int32) (a1 : Int32) (t : (Nat → Int32) × Int32) (hf : fT_add q0_codes q0_size a1 = some t) : cW l E yX7_add cX7_add 2 none rmT_add [.ref (ad 0), .int a1] (wT E ad q0_codes q0_size q0_kinds q0_firsts q0_seconds q0_orders q0_cursor q0_latestNumber) none (wT E ad t.1 t.2 q0_kinds q0_firsts q0_seconds q0_orders q0_cursor q0_latestNumber) := by
  refine Met.ofW (cc := cX7_add) (maxL := 2) (ret := none) (by decide) rfl ?_
  intro p e s m args below meth c s₁ B hml hv
  obtain ⟨hargs, hP, hK, hD0⟩ := hv
  have hx := B.exec
  have hb := B.bytes
  have hr := B.returns
  have hts := atoms_spec (ws := ws_ yX7_add cX7_add 2 none) B.pre
  have hta : ∀ w ∈ lw_all, w.before args s = true := fun w h => hts w (List.mem_cons_of_mem _ h)
  have hown : s.vm.findClass RX7 = some m.cls := findClass_of_methodNamed B.named
  have hlocks := B.notSynchronized
  have hC : Cx p s m args c cX7_add 2 RX7 E := ⟨hx, hb, hml, hown, hta, hK⟩
  have hH : Hp E (adr (wT E ad q0_codes q0_size q0_kinds q0_firsts q0_seconds q0_orders q0_cursor q0_latestNumber)) (wT E ad q0_codes q0_size q0_kinds q0_firsts q0_seconds q0_orders q0_cursor q0_latestNumber) s.heap s.heap [] := Hp.start hP hD0
  obtain ⟨ls, he, hl⟩ := entry_ (m := m) (n := 2) hargs (Nat.le_of_ble_eq_true rfl)
  rw [he]
  have hl : lv_has ls 2 [(0, .ref (ad 0)), (1, .int a1)] := hl
  show W p l e rmT_add s m args below meth c s.heap [] 0 0 (MQ below (qW E none none (wT E ad q0_codes q0_size q0_kinds q0_firsts q0_seconds q0_orders q0_cursor q0_latestNumber) (wT E ad t.1 t.2 q0_kinds q0_firsts q0_seconds q0_orders q0_cursor q0_latestNumber)) args s 0 0 (adr (wT E ad q0_codes q0_size q0_kinds q0_firsts q0_seconds q0_orders q0_cursor q0_latestNumber))) (F0 m 0 ls [])
  suffices hmain : ∀ (H : Heap) (locs : List Loc), Hp E (adr (wT E ad q0_codes q0_size q0_kinds q0_firsts q0_seconds q0_orders q0_cursor q0_latestNumber)) (wT E ad q0_codes q0_size q0_kinds q0_firsts q0_seconds q0_orders q0_cursor q0_latestNumber) s.heap H locs → W p l e rmT_add s m args below meth c H locs 0 0 (MQ below (qW E none none (wT E ad q0_codes q0_size q0_kinds q0_firsts q0_seconds q0_orders q0_cursor q0_latestNumber) (wT E ad t.1 t.2 q0_kinds q0_firsts q0_seconds q0_orders q0_cursor q0_latestNumber)) args s 0 0 (adr (wT E ad q0_codes q0_size q0_kinds q0_firsts q0_seconds q0_orders q0_cursor q0_latestNumber))) (F0 m 0 ls []) from hmain _ _ hH
  clear hH
  intro H locs hH
  rw [fT_add] at hf
  refine lv_aload_n hx hb dX7_add_0 rfl (lv_at hl 0 rfl) ?_
  refine gX7_24 hC hH.1 0 rfl (v := .int q0_size) rfl dX7_add_1 ?_
  refine lv_if_lt (tgt := 39) hx hb dX7_add_4 (by decide) (fun c1 => ?_) (fun c1 => ?_)
  · have hf := ite_t hf c1
    have hf := Option.some.inj hf
    subst hf
    exact e_Wv hC hH hr hlocks rfl dX7_add_39
  · have hf := ite_f hf c1
    refine lv_aload_n hx hb dX7_add_7 rfl (lv_at hl 0 rfl) ?_
    refine gX7_24 hC hH.1 0 rfl (v := .int q0_size) rfl dX7_add_8 ?_
    refine lv_aload_n hx hb dX7_add_11 rfl (lv_at hl 0 rfl) ?_
    refine gX7_9 hC hH.1 0 rfl (v := .ref (ad 1)) rfl dX7_add_12 ?_
    refine va_alen (v := 60) hx hb hK.1 hH.1 1 0 rfl rfl rfl dX7_add_15 ?_
    refine lv_icmp_ge (tgt := 39) hx hb dX7_add_16 (by decide) (fun c2 => ?_) (fun c2 => ?_)
    · have hf := ite_t hf c2
      have hf := Option.some.inj hf
      subst hf
      exact e_Wv hC hH hr hlocks rfl dX7_add_39
    · have hf := ite_f hf c2
      refine lv_aload_n hx hb dX7_add_19 rfl (lv_at hl 0 rfl) ?_
      refine gX7_9 hC hH.1 0 rfl (v := .ref (ad 1)) rfl dX7_add_20 ?_
      refine lv_aload_n hx hb dX7_add_23 rfl (lv_at hl 0 rfl) ?_
      refine gX7_24 hC hH.1 0 rfl (v := .int q0_size) rfl dX7_add_24 ?_
      refine lv_iload_n hx hb dX7_add_27 rfl (lv_at hl 1 rfl) ?_
      obtain ⟨g3, hg3, hf⟩ := ob hf
      obtain ⟨hg3a, hg3b⟩ := stA_ok hg3
      refine a_ist hC hH 1 rfl hg3a hg3b (W1 := wT E ad g3 q0_size q0_kinds q0_firsts q0_seconds q0_orders q0_cursor q0_latestNumber) rfl dX7_add_28 (fun H locs hH => ?_)
      refine lv_aload_n hx hb dX7_add_29 rfl (lv_at hl 0 rfl) ?_
      refine lv_dup hx hb dX7_add_30 rfl ?_
      refine gX7_24 hC hH.1 0 rfl (v := .int q0_size) rfl dX7_add_31 ?_
      refine lv_iconst (v := 1) hx hb dX7_add_34 (by decide) ?_
      refine lv_iadd hx hb dX7_add_35 ?_
      refine pX7_24 hC hH 0 rfl (v := .int (q0_size + (1 : Int32))) rfl rfl (Nat.le_of_ble_eq_true rfl) (W1 := wT E ad g3 (q0_size + (1 : Int32)) q0_kinds q0_firsts q0_seconds q0_orders q0_cursor q0_latestNumber) rfl dX7_add_36 (fun H locs hH => ?_)
      have hf := Option.some.inj hf
      subst hf
      exact e_Wv hC hH hr hlocks rfl dX7_add_39
abbrev rmT_empty : Room := { frames := 0, cells := 0, slots := 0, locals := 0 }
set_option maxHeartbeats 4000000 in
set_option maxRecDepth 100000 in
theorem cT_empty (l : Launch) (E : eE) (ad : Nat → Nat) (q0_codes : (Nat → Int32)) (q0_size : Int32) (q0_kinds : (Nat → Int32)) (q0_firsts : (Nat → Int32)) (q0_seconds : (Nat → Int32)) (q0_orders : Int32) (q0_cursor : Int32) (q0_latestNumber : Int32) (t : Int32) (hf : fT_empty q0_size = some t) : cW l E yX7_empty cX7_empty 1 none rmT_empty [.ref (ad 0)] (wT E ad q0_codes q0_size q0_kinds q0_firsts q0_seconds q0_orders q0_cursor q0_latestNumber) none (wT E ad q0_codes t q0_kinds q0_firsts q0_seconds q0_orders q0_cursor q0_latestNumber) := by
  refine Met.ofW (cc := cX7_empty) (maxL := 1) (ret := none) (by decide) rfl ?_
  intro p e s m args below meth c s₁ B hml hv
  obtain ⟨hargs, hP, hK, hD0⟩ := hv
  have hx := B.exec
  have hb := B.bytes
  have hr := B.returns
  have hts := atoms_spec (ws := ws_ yX7_empty cX7_empty 1 none) B.pre
  have hta : ∀ w ∈ lw_all, w.before args s = true := fun w h => hts w (List.mem_cons_of_mem _ h)
  have hown : s.vm.findClass RX7 = some m.cls := findClass_of_methodNamed B.named
  have hlocks := B.notSynchronized
  have hC : Cx p s m args c cX7_empty 1 RX7 E := ⟨hx, hb, hml, hown, hta, hK⟩
  have hH : Hp E (adr (wT E ad q0_codes q0_size q0_kinds q0_firsts q0_seconds q0_orders q0_cursor q0_latestNumber)) (wT E ad q0_codes q0_size q0_kinds q0_firsts q0_seconds q0_orders q0_cursor q0_latestNumber) s.heap s.heap [] := Hp.start hP hD0
  obtain ⟨ls, he, hl⟩ := entry_ (m := m) (n := 1) hargs (Nat.le_of_ble_eq_true rfl)
  rw [he]
  have hl : lv_has ls 1 [(0, .ref (ad 0))] := hl
  show W p l e rmT_empty s m args below meth c s.heap [] 0 0 (MQ below (qW E none none (wT E ad q0_codes q0_size q0_kinds q0_firsts q0_seconds q0_orders q0_cursor q0_latestNumber) (wT E ad q0_codes t q0_kinds q0_firsts q0_seconds q0_orders q0_cursor q0_latestNumber)) args s 0 0 (adr (wT E ad q0_codes q0_size q0_kinds q0_firsts q0_seconds q0_orders q0_cursor q0_latestNumber))) (F0 m 0 ls [])
  suffices hmain : ∀ (H : Heap) (locs : List Loc), Hp E (adr (wT E ad q0_codes q0_size q0_kinds q0_firsts q0_seconds q0_orders q0_cursor q0_latestNumber)) (wT E ad q0_codes q0_size q0_kinds q0_firsts q0_seconds q0_orders q0_cursor q0_latestNumber) s.heap H locs → W p l e rmT_empty s m args below meth c H locs 0 0 (MQ below (qW E none none (wT E ad q0_codes q0_size q0_kinds q0_firsts q0_seconds q0_orders q0_cursor q0_latestNumber) (wT E ad q0_codes t q0_kinds q0_firsts q0_seconds q0_orders q0_cursor q0_latestNumber)) args s 0 0 (adr (wT E ad q0_codes q0_size q0_kinds q0_firsts q0_seconds q0_orders q0_cursor q0_latestNumber))) (F0 m 0 ls []) from hmain _ _ hH
  clear hH
  intro H locs hH
  rw [fT_empty] at hf
  refine lv_aload_n hx hb dX7_empty_0 rfl (lv_at hl 0 rfl) ?_
  refine lv_iconst (v := 0) hx hb dX7_empty_1 (by decide) ?_
  refine pX7_24 hC hH 0 rfl (v := .int (0 : Int32)) rfl rfl (Nat.le_of_ble_eq_true rfl) (W1 := wT E ad q0_codes (0 : Int32) q0_kinds q0_firsts q0_seconds q0_orders q0_cursor q0_latestNumber) rfl dX7_empty_2 (fun H locs hH => ?_)
  have hf := Option.some.inj hf
  subst hf
  exact e_Wv hC hH hr hlocks rfl dX7_empty_5
abbrev rmT_orders : Room := { frames := 0, cells := 0, slots := 0, locals := 0 }
set_option maxHeartbeats 4000000 in
set_option maxRecDepth 100000 in
theorem cT_orders (l : Launch) (E : eE) (ad : Nat → Nat) (q0_codes : (Nat → Int32)) (q0_size : Int32) (q0_kinds : (Nat → Int32)) (q0_firsts : (Nat → Int32)) (q0_seconds : (Nat → Int32)) (q0_orders : Int32) (q0_cursor : Int32) (q0_latestNumber : Int32) (r : Int32) (hf : fT_orders q0_orders = r) : cP l E yX7_orders cX7_orders 1 (some .int) rmT_orders [.ref (ad 0)] (wT E ad q0_codes q0_size q0_kinds q0_firsts q0_seconds q0_orders q0_cursor q0_latestNumber) (some (.int r)) := by
  refine Met.ofW (cc := cX7_orders) (maxL := 1) (ret := (some .int)) (by decide) rfl ?_
  intro p e s m args below meth c s₁ B hml hv
  obtain ⟨hargs, hP, hK⟩ := hv
  have hx := B.exec
  have hb := B.bytes
  have hr := B.returns
  have hts := atoms_spec (ws := ws_ yX7_orders cX7_orders 1 (some .int)) B.pre
  have hta : ∀ w ∈ lw_all, w.before args s = true := fun w h => hts w (List.mem_cons_of_mem _ h)
  have hown : s.vm.findClass RX7 = some m.cls := findClass_of_methodNamed B.named
  have hlocks := B.notSynchronized
  have hC : Cx p s m args c cX7_orders 1 RX7 E := ⟨hx, hb, hml, hown, hta, hK⟩
  obtain ⟨ls, he, hl⟩ := entry_ (m := m) (n := 1) hargs (Nat.le_of_ble_eq_true rfl)
  rw [he]
  have hl : lv_has ls 1 [(0, .ref (ad 0))] := hl
  show W p l e rmT_orders s m args below meth c s.heap [] 0 0 (MQ below (qP (some .int) (some (.int r))) args s 0 0 (fun _ => False)) (F0 m 0 ls [])
  rw [fT_orders] at hf
  refine lv_aload_n hx hb dX7_orders_0 rfl (lv_at hl 0 rfl) ?_
  refine gX7_28 hC hP 0 rfl (v := .int q0_orders) rfl dX7_orders_1 ?_
  exact e_Pi hC hr hlocks hf dX7_orders_4
abbrev rmT_kindOf : Room := { frames := 0, cells := 0, slots := 0, locals := 0 }
set_option maxHeartbeats 4000000 in
set_option maxRecDepth 100000 in
theorem cT_kindOf (l : Launch) (E : eE) (ad : Nat → Nat) (q0_codes : (Nat → Int32)) (q0_size : Int32) (q0_kinds : (Nat → Int32)) (q0_firsts : (Nat → Int32)) (q0_seconds : (Nat → Int32)) (q0_orders : Int32) (q0_cursor : Int32) (q0_latestNumber : Int32) (a1 : Int32) (r : Int32) (hf : fT_kindOf q0_kinds q0_orders a1 = some r) : cP l E yX7_kindOf cX7_kindOf 2 (some .int) rmT_kindOf [.ref (ad 0), .int a1] (wT E ad q0_codes q0_size q0_kinds q0_firsts q0_seconds q0_orders q0_cursor q0_latestNumber) (some (.int r)) := by
  refine Met.ofW (cc := cX7_kindOf) (maxL := 2) (ret := (some .int)) (by decide) rfl ?_
  intro p e s m args below meth c s₁ B hml hv
  obtain ⟨hargs, hP, hK⟩ := hv
  have hx := B.exec
  have hb := B.bytes
  have hr := B.returns
  have hts := atoms_spec (ws := ws_ yX7_kindOf cX7_kindOf 2 (some .int)) B.pre
  have hta : ∀ w ∈ lw_all, w.before args s = true := fun w h => hts w (List.mem_cons_of_mem _ h)
  have hown : s.vm.findClass RX7 = some m.cls := findClass_of_methodNamed B.named
  have hlocks := B.notSynchronized
  have hC : Cx p s m args c cX7_kindOf 2 RX7 E := ⟨hx, hb, hml, hown, hta, hK⟩
  obtain ⟨ls, he, hl⟩ := entry_ (m := m) (n := 2) hargs (Nat.le_of_ble_eq_true rfl)
  rw [he]
  have hl : lv_has ls 2 [(0, .ref (ad 0)), (1, .int a1)] := hl
  show W p l e rmT_kindOf s m args below meth c s.heap [] 0 0 (MQ below (qP (some .int) (some (.int r))) args s 0 0 (fun _ => False)) (F0 m 0 ls [])
  rw [fT_kindOf] at hf
  refine lv_iload_n hx hb dX7_kindOf_0 rfl (lv_at hl 1 rfl) ?_
  refine lv_if_lt (tgt := 30) hx hb dX7_kindOf_1 (by decide) (fun c1 => ?_) (fun c1 => ?_)
  · have hf := ite_t hf c1
    refine lv_iconst (v := 0) hx hb dX7_kindOf_30 (by decide) ?_
    have hf := Option.some.inj hf
    exact e_Pi hC hr hlocks hf dX7_kindOf_31
  · have hf := ite_f hf c1
    refine lv_iload_n hx hb dX7_kindOf_4 rfl (lv_at hl 1 rfl) ?_
    refine lv_aload_n hx hb dX7_kindOf_5 rfl (lv_at hl 0 rfl) ?_
    refine gX7_28 hC hP 0 rfl (v := .int q0_orders) rfl dX7_kindOf_6 ?_
    refine lv_icmp_ge (tgt := 30) hx hb dX7_kindOf_9 (by decide) (fun c2 => ?_) (fun c2 => ?_)
    · have hf := ite_t hf c2
      refine lv_iconst (v := 0) hx hb dX7_kindOf_30 (by decide) ?_
      have hf := Option.some.inj hf
      exact e_Pi hC hr hlocks hf dX7_kindOf_31
    · have hf := ite_f hf c2
      refine lv_iload_n hx hb dX7_kindOf_12 rfl (lv_at hl 1 rfl) ?_
      refine lv_aload_n hx hb dX7_kindOf_13 rfl (lv_at hl 0 rfl) ?_
      refine gX7_15 hC hP 0 rfl (v := .ref (ad 2)) rfl dX7_kindOf_14 ?_
      refine va_alen (v := 10) hx hb hK.1 hP 2 0 rfl rfl rfl dX7_kindOf_17 ?_
      refine lv_icmp_ge (tgt := 30) hx hb dX7_kindOf_18 (by decide) (fun c3 => ?_) (fun c3 => ?_)
      · have hf := ite_t hf c3
        refine lv_iconst (v := 0) hx hb dX7_kindOf_30 (by decide) ?_
        have hf := Option.some.inj hf
        exact e_Pi hC hr hlocks hf dX7_kindOf_31
      · have hf := ite_f hf c3
        refine lv_aload_n hx hb dX7_kindOf_21 rfl (lv_at hl 0 rfl) ?_
        refine gX7_15 hC hP 0 rfl (v := .ref (ad 2)) rfl dX7_kindOf_22 ?_
        refine lv_iload_n hx hb dX7_kindOf_25 rfl (lv_at hl 1 rfl) ?_
        obtain ⟨v4, hv4, hf⟩ := ob hf
        obtain ⟨hv4a, hv4b⟩ := ldA_ok hv4
        refine a_ild hC hP 2 rfl hv4a hv4b dX7_kindOf_26 ?_
        refine lv_goto (tgt := 31) hx hb dX7_kindOf_27 (by decide) ?_
        have hf := Option.some.inj hf
        exact e_Pi hC hr hlocks hf dX7_kindOf_31
abbrev rmT_firstOf : Room := { frames := 0, cells := 0, slots := 0, locals := 0 }
set_option maxHeartbeats 4000000 in
set_option maxRecDepth 100000 in
theorem cT_firstOf (l : Launch) (E : eE) (ad : Nat → Nat) (q0_codes : (Nat → Int32)) (q0_size : Int32) (q0_kinds : (Nat → Int32)) (q0_firsts : (Nat → Int32)) (q0_seconds : (Nat → Int32)) (q0_orders : Int32) (q0_cursor : Int32) (q0_latestNumber : Int32) (a1 : Int32) (r : Int32) (hf : fT_firstOf q0_firsts q0_orders a1 = some r) : cP l E yX7_firstOf cX7_firstOf 2 (some .int) rmT_firstOf [.ref (ad 0), .int a1] (wT E ad q0_codes q0_size q0_kinds q0_firsts q0_seconds q0_orders q0_cursor q0_latestNumber) (some (.int r)) := by
  refine Met.ofW (cc := cX7_firstOf) (maxL := 2) (ret := (some .int)) (by decide) rfl ?_
  intro p e s m args below meth c s₁ B hml hv
  obtain ⟨hargs, hP, hK⟩ := hv
  have hx := B.exec
  have hb := B.bytes
  have hr := B.returns
  have hts := atoms_spec (ws := ws_ yX7_firstOf cX7_firstOf 2 (some .int)) B.pre
  have hta : ∀ w ∈ lw_all, w.before args s = true := fun w h => hts w (List.mem_cons_of_mem _ h)
  have hown : s.vm.findClass RX7 = some m.cls := findClass_of_methodNamed B.named
  have hlocks := B.notSynchronized
  have hC : Cx p s m args c cX7_firstOf 2 RX7 E := ⟨hx, hb, hml, hown, hta, hK⟩
  obtain ⟨ls, he, hl⟩ := entry_ (m := m) (n := 2) hargs (Nat.le_of_ble_eq_true rfl)
  rw [he]
  have hl : lv_has ls 2 [(0, .ref (ad 0)), (1, .int a1)] := hl
  show W p l e rmT_firstOf s m args below meth c s.heap [] 0 0 (MQ below (qP (some .int) (some (.int r))) args s 0 0 (fun _ => False)) (F0 m 0 ls [])
  rw [fT_firstOf] at hf
  refine lv_iload_n hx hb dX7_firstOf_0 rfl (lv_at hl 1 rfl) ?_
  refine lv_if_lt (tgt := 30) hx hb dX7_firstOf_1 (by decide) (fun c1 => ?_) (fun c1 => ?_)
  · have hf := ite_t hf c1
    refine lv_iconst (v := 0) hx hb dX7_firstOf_30 (by decide) ?_
    have hf := Option.some.inj hf
    exact e_Pi hC hr hlocks hf dX7_firstOf_31
  · have hf := ite_f hf c1
    refine lv_iload_n hx hb dX7_firstOf_4 rfl (lv_at hl 1 rfl) ?_
    refine lv_aload_n hx hb dX7_firstOf_5 rfl (lv_at hl 0 rfl) ?_
    refine gX7_28 hC hP 0 rfl (v := .int q0_orders) rfl dX7_firstOf_6 ?_
    refine lv_icmp_ge (tgt := 30) hx hb dX7_firstOf_9 (by decide) (fun c2 => ?_) (fun c2 => ?_)
    · have hf := ite_t hf c2
      refine lv_iconst (v := 0) hx hb dX7_firstOf_30 (by decide) ?_
      have hf := Option.some.inj hf
      exact e_Pi hC hr hlocks hf dX7_firstOf_31
    · have hf := ite_f hf c2
      refine lv_iload_n hx hb dX7_firstOf_12 rfl (lv_at hl 1 rfl) ?_
      refine lv_aload_n hx hb dX7_firstOf_13 rfl (lv_at hl 0 rfl) ?_
      refine gX7_18 hC hP 0 rfl (v := .ref (ad 3)) rfl dX7_firstOf_14 ?_
      refine va_alen (v := 10) hx hb hK.1 hP 3 0 rfl rfl rfl dX7_firstOf_17 ?_
      refine lv_icmp_ge (tgt := 30) hx hb dX7_firstOf_18 (by decide) (fun c3 => ?_) (fun c3 => ?_)
      · have hf := ite_t hf c3
        refine lv_iconst (v := 0) hx hb dX7_firstOf_30 (by decide) ?_
        have hf := Option.some.inj hf
        exact e_Pi hC hr hlocks hf dX7_firstOf_31
      · have hf := ite_f hf c3
        refine lv_aload_n hx hb dX7_firstOf_21 rfl (lv_at hl 0 rfl) ?_
        refine gX7_18 hC hP 0 rfl (v := .ref (ad 3)) rfl dX7_firstOf_22 ?_
        refine lv_iload_n hx hb dX7_firstOf_25 rfl (lv_at hl 1 rfl) ?_
        obtain ⟨v4, hv4, hf⟩ := ob hf
        obtain ⟨hv4a, hv4b⟩ := ldA_ok hv4
        refine a_ild hC hP 3 rfl hv4a hv4b dX7_firstOf_26 ?_
        refine lv_goto (tgt := 31) hx hb dX7_firstOf_27 (by decide) ?_
        have hf := Option.some.inj hf
        exact e_Pi hC hr hlocks hf dX7_firstOf_31
abbrev rmT_secondOf : Room := { frames := 0, cells := 0, slots := 0, locals := 0 }
set_option maxHeartbeats 4000000 in
set_option maxRecDepth 100000 in
theorem cT_secondOf (l : Launch) (E : eE) (ad : Nat → Nat) (q0_codes : (Nat → Int32)) (q0_size : Int32) (q0_kinds : (Nat → Int32)) (q0_firsts : (Nat → Int32)) (q0_seconds : (Nat → Int32)) (q0_orders : Int32) (q0_cursor : Int32) (q0_latestNumber : Int32) (a1 : Int32) (r : Int32) (hf : fT_secondOf q0_seconds q0_orders a1 = some r) : cP l E yX7_secondOf cX7_secondOf 2 (some .int) rmT_secondOf [.ref (ad 0), .int a1] (wT E ad q0_codes q0_size q0_kinds q0_firsts q0_seconds q0_orders q0_cursor q0_latestNumber) (some (.int r)) := by
  refine Met.ofW (cc := cX7_secondOf) (maxL := 2) (ret := (some .int)) (by decide) rfl ?_
  intro p e s m args below meth c s₁ B hml hv
  obtain ⟨hargs, hP, hK⟩ := hv
  have hx := B.exec
  have hb := B.bytes
  have hr := B.returns
  have hts := atoms_spec (ws := ws_ yX7_secondOf cX7_secondOf 2 (some .int)) B.pre
  have hta : ∀ w ∈ lw_all, w.before args s = true := fun w h => hts w (List.mem_cons_of_mem _ h)
  have hown : s.vm.findClass RX7 = some m.cls := findClass_of_methodNamed B.named
  have hlocks := B.notSynchronized
  have hC : Cx p s m args c cX7_secondOf 2 RX7 E := ⟨hx, hb, hml, hown, hta, hK⟩
  obtain ⟨ls, he, hl⟩ := entry_ (m := m) (n := 2) hargs (Nat.le_of_ble_eq_true rfl)
  rw [he]
  have hl : lv_has ls 2 [(0, .ref (ad 0)), (1, .int a1)] := hl
  show W p l e rmT_secondOf s m args below meth c s.heap [] 0 0 (MQ below (qP (some .int) (some (.int r))) args s 0 0 (fun _ => False)) (F0 m 0 ls [])
  rw [fT_secondOf] at hf
  refine lv_iload_n hx hb dX7_secondOf_0 rfl (lv_at hl 1 rfl) ?_
  refine lv_if_lt (tgt := 30) hx hb dX7_secondOf_1 (by decide) (fun c1 => ?_) (fun c1 => ?_)
  · have hf := ite_t hf c1
    refine lv_iconst (v := 0) hx hb dX7_secondOf_30 (by decide) ?_
    have hf := Option.some.inj hf
    exact e_Pi hC hr hlocks hf dX7_secondOf_31
  · have hf := ite_f hf c1
    refine lv_iload_n hx hb dX7_secondOf_4 rfl (lv_at hl 1 rfl) ?_
    refine lv_aload_n hx hb dX7_secondOf_5 rfl (lv_at hl 0 rfl) ?_
    refine gX7_28 hC hP 0 rfl (v := .int q0_orders) rfl dX7_secondOf_6 ?_
    refine lv_icmp_ge (tgt := 30) hx hb dX7_secondOf_9 (by decide) (fun c2 => ?_) (fun c2 => ?_)
    · have hf := ite_t hf c2
      refine lv_iconst (v := 0) hx hb dX7_secondOf_30 (by decide) ?_
      have hf := Option.some.inj hf
      exact e_Pi hC hr hlocks hf dX7_secondOf_31
    · have hf := ite_f hf c2
      refine lv_iload_n hx hb dX7_secondOf_12 rfl (lv_at hl 1 rfl) ?_
      refine lv_aload_n hx hb dX7_secondOf_13 rfl (lv_at hl 0 rfl) ?_
      refine gX7_21 hC hP 0 rfl (v := .ref (ad 4)) rfl dX7_secondOf_14 ?_
      refine va_alen (v := 10) hx hb hK.1 hP 4 0 rfl rfl rfl dX7_secondOf_17 ?_
      refine lv_icmp_ge (tgt := 30) hx hb dX7_secondOf_18 (by decide) (fun c3 => ?_) (fun c3 => ?_)
      · have hf := ite_t hf c3
        refine lv_iconst (v := 0) hx hb dX7_secondOf_30 (by decide) ?_
        have hf := Option.some.inj hf
        exact e_Pi hC hr hlocks hf dX7_secondOf_31
      · have hf := ite_f hf c3
        refine lv_aload_n hx hb dX7_secondOf_21 rfl (lv_at hl 0 rfl) ?_
        refine gX7_21 hC hP 0 rfl (v := .ref (ad 4)) rfl dX7_secondOf_22 ?_
        refine lv_iload_n hx hb dX7_secondOf_25 rfl (lv_at hl 1 rfl) ?_
        obtain ⟨v4, hv4, hf⟩ := ob hf
        obtain ⟨hv4a, hv4b⟩ := ldA_ok hv4
        refine a_ild hC hP 4 rfl hv4a hv4b dX7_secondOf_26 ?_
        refine lv_goto (tgt := 31) hx hb dX7_secondOf_27 (by decide) ?_
        have hf := Option.some.inj hf
        exact e_Pi hC hr hlocks hf dX7_secondOf_31
abbrev rmT_codeAt : Room := { frames := 0, cells := 0, slots := 0, locals := 0 }
set_option maxHeartbeats 4000000 in
set_option maxRecDepth 100000 in
theorem cT_codeAt (l : Launch) (E : eE) (ad : Nat → Nat) (q0_codes : (Nat → Int32)) (q0_size : Int32) (q0_kinds : (Nat → Int32)) (q0_firsts : (Nat → Int32)) (q0_seconds : (Nat → Int32)) (q0_orders : Int32) (q0_cursor : Int32) (q0_latestNumber : Int32) (a1 : Int32) (r : Int32) (hf : fT_codeAt q0_codes q0_size a1 = some r) : cP l E yX7_codeAt cX7_codeAt 2 (some .int) rmT_codeAt [.ref (ad 0), .int a1] (wT E ad q0_codes q0_size q0_kinds q0_firsts q0_seconds q0_orders q0_cursor q0_latestNumber) (some (.int r)) := by
  refine Met.ofW (cc := cX7_codeAt) (maxL := 2) (ret := (some .int)) (by decide) rfl ?_
  intro p e s m args below meth c s₁ B hml hv
  obtain ⟨hargs, hP, hK⟩ := hv
  have hx := B.exec
  have hb := B.bytes
  have hr := B.returns
  have hts := atoms_spec (ws := ws_ yX7_codeAt cX7_codeAt 2 (some .int)) B.pre
  have hta : ∀ w ∈ lw_all, w.before args s = true := fun w h => hts w (List.mem_cons_of_mem _ h)
  have hown : s.vm.findClass RX7 = some m.cls := findClass_of_methodNamed B.named
  have hlocks := B.notSynchronized
  have hC : Cx p s m args c cX7_codeAt 2 RX7 E := ⟨hx, hb, hml, hown, hta, hK⟩
  obtain ⟨ls, he, hl⟩ := entry_ (m := m) (n := 2) hargs (Nat.le_of_ble_eq_true rfl)
  rw [he]
  have hl : lv_has ls 2 [(0, .ref (ad 0)), (1, .int a1)] := hl
  show W p l e rmT_codeAt s m args below meth c s.heap [] 0 0 (MQ below (qP (some .int) (some (.int r))) args s 0 0 (fun _ => False)) (F0 m 0 ls [])
  rw [fT_codeAt] at hf
  refine lv_iload_n hx hb dX7_codeAt_0 rfl (lv_at hl 1 rfl) ?_
  refine lv_if_lt (tgt := 30) hx hb dX7_codeAt_1 (by decide) (fun c1 => ?_) (fun c1 => ?_)
  · have hf := ite_t hf c1
    refine lv_iconst (v := (-1)) hx hb dX7_codeAt_30 (by decide) ?_
    have hf := Option.some.inj hf
    exact e_Pi hC hr hlocks hf dX7_codeAt_31
  · have hf := ite_f hf c1
    refine lv_iload_n hx hb dX7_codeAt_4 rfl (lv_at hl 1 rfl) ?_
    refine lv_aload_n hx hb dX7_codeAt_5 rfl (lv_at hl 0 rfl) ?_
    refine gX7_24 hC hP 0 rfl (v := .int q0_size) rfl dX7_codeAt_6 ?_
    refine lv_icmp_ge (tgt := 30) hx hb dX7_codeAt_9 (by decide) (fun c2 => ?_) (fun c2 => ?_)
    · have hf := ite_t hf c2
      refine lv_iconst (v := (-1)) hx hb dX7_codeAt_30 (by decide) ?_
      have hf := Option.some.inj hf
      exact e_Pi hC hr hlocks hf dX7_codeAt_31
    · have hf := ite_f hf c2
      refine lv_iload_n hx hb dX7_codeAt_12 rfl (lv_at hl 1 rfl) ?_
      refine lv_aload_n hx hb dX7_codeAt_13 rfl (lv_at hl 0 rfl) ?_
      refine gX7_9 hC hP 0 rfl (v := .ref (ad 1)) rfl dX7_codeAt_14 ?_
      refine va_alen (v := 60) hx hb hK.1 hP 1 0 rfl rfl rfl dX7_codeAt_17 ?_
      refine lv_icmp_ge (tgt := 30) hx hb dX7_codeAt_18 (by decide) (fun c3 => ?_) (fun c3 => ?_)
      · have hf := ite_t hf c3
        refine lv_iconst (v := (-1)) hx hb dX7_codeAt_30 (by decide) ?_
        have hf := Option.some.inj hf
        exact e_Pi hC hr hlocks hf dX7_codeAt_31
      · have hf := ite_f hf c3
        refine lv_aload_n hx hb dX7_codeAt_21 rfl (lv_at hl 0 rfl) ?_
        refine gX7_9 hC hP 0 rfl (v := .ref (ad 1)) rfl dX7_codeAt_22 ?_
        refine lv_iload_n hx hb dX7_codeAt_25 rfl (lv_at hl 1 rfl) ?_
        obtain ⟨v4, hv4, hf⟩ := ob hf
        obtain ⟨hv4a, hv4b⟩ := ldA_ok hv4
        refine a_ild hC hP 1 rfl hv4a hv4b dX7_codeAt_26 ?_
        refine lv_goto (tgt := 31) hx hb dX7_codeAt_27 (by decide) ?_
        have hf := Option.some.inj hf
        exact e_Pi hC hr hlocks hf dX7_codeAt_31
abbrev rmT_readSign : Room := { frames := 1, cells := 0, slots := 0, locals := 21 }
set_option maxHeartbeats 4000000 in
set_option maxRecDepth 100000 in
theorem cT_readSign (l : Launch) (E : eE) (ad : Nat → Nat) (q0_codes : (Nat → Int32)) (q0_size : Int32) (q0_kinds : (Nat → Int32)) (q0_firsts : (Nat → Int32)) (q0_seconds : (Nat → Int32)) (q0_orders : Int32) (q0_cursor : Int32) (q0_latestNumber : Int32) (a1 : Int32) (t : Int32 × Int32) (hf : fT_readSign q0_codes q0_size q0_cursor a1 = some t) : cW l E yX7_readSign cX7_readSign 2 (some .boolean) rmT_readSign [.ref (ad 0), .int a1] (wT E ad q0_codes q0_size q0_kinds q0_firsts q0_seconds q0_orders q0_cursor q0_latestNumber) (some (.int t.1)) (wT E ad q0_codes q0_size q0_kinds q0_firsts q0_seconds q0_orders t.2 q0_latestNumber) := by
  refine Met.ofW (cc := cX7_readSign) (maxL := 2) (ret := (some .boolean)) (by decide) rfl ?_
  intro p e s m args below meth c s₁ B hml hv
  obtain ⟨hargs, hP, hK, hD0⟩ := hv
  have hx := B.exec
  have hb := B.bytes
  have hr := B.returns
  have hts := atoms_spec (ws := ws_ yX7_readSign cX7_readSign 2 (some .boolean)) B.pre
  have hta : ∀ w ∈ lw_all, w.before args s = true := fun w h => hts w (List.mem_cons_of_mem _ h)
  have hown : s.vm.findClass RX7 = some m.cls := findClass_of_methodNamed B.named
  have hlocks := B.notSynchronized
  have hC : Cx p s m args c cX7_readSign 2 RX7 E := ⟨hx, hb, hml, hown, hta, hK⟩
  have hH : Hp E (adr (wT E ad q0_codes q0_size q0_kinds q0_firsts q0_seconds q0_orders q0_cursor q0_latestNumber)) (wT E ad q0_codes q0_size q0_kinds q0_firsts q0_seconds q0_orders q0_cursor q0_latestNumber) s.heap s.heap [] := Hp.start hP hD0
  obtain ⟨ls, he, hl⟩ := entry_ (m := m) (n := 2) hargs (Nat.le_of_ble_eq_true rfl)
  rw [he]
  have hl : lv_has ls 2 [(0, .ref (ad 0)), (1, .int a1)] := hl
  show W p l e rmT_readSign s m args below meth c s.heap [] 0 0 (MQ below (qW E (some .boolean) (some (.int t.1)) (wT E ad q0_codes q0_size q0_kinds q0_firsts q0_seconds q0_orders q0_cursor q0_latestNumber) (wT E ad q0_codes q0_size q0_kinds q0_firsts q0_seconds q0_orders t.2 q0_latestNumber)) args s 0 0 (adr (wT E ad q0_codes q0_size q0_kinds q0_firsts q0_seconds q0_orders q0_cursor q0_latestNumber))) (F0 m 0 ls [])
  suffices hmain : ∀ (H : Heap) (locs : List Loc), Hp E (adr (wT E ad q0_codes q0_size q0_kinds q0_firsts q0_seconds q0_orders q0_cursor q0_latestNumber)) (wT E ad q0_codes q0_size q0_kinds q0_firsts q0_seconds q0_orders q0_cursor q0_latestNumber) s.heap H locs → W p l e rmT_readSign s m args below meth c H locs 0 0 (MQ below (qW E (some .boolean) (some (.int t.1)) (wT E ad q0_codes q0_size q0_kinds q0_firsts q0_seconds q0_orders q0_cursor q0_latestNumber) (wT E ad q0_codes q0_size q0_kinds q0_firsts q0_seconds q0_orders t.2 q0_latestNumber)) args s 0 0 (adr (wT E ad q0_codes q0_size q0_kinds q0_firsts q0_seconds q0_orders q0_cursor q0_latestNumber))) (F0 m 0 ls []) from hmain _ _ hH
  clear hH
  intro H locs hH
  rw [fT_readSign] at hf
  refine lv_aload_n hx hb dX7_readSign_0 rfl (lv_at hl 0 rfl) ?_
  refine lv_aload_n hx hb dX7_readSign_1 rfl (lv_at hl 0 rfl) ?_
  refine gX7_31 hC hH.1 0 rfl (v := .int q0_cursor) rfl dX7_readSign_2 ?_
  obtain ⟨t1, ht1, hf⟩ := ob hf
  refine k_PVi hC LX7_42 ⟨Nat.le_of_ble_eq_true rfl, Nat.le_of_ble_eq_true rfl⟩ ⟨Nat.zero_le _, Nat.zero_le _⟩ (cT_codeAt l E ad q0_codes q0_size q0_kinds q0_firsts q0_seconds q0_orders q0_cursor q0_latestNumber q0_cursor t1 ht1) rfl rfl hH.1 rfl rfl hl.1 rfl (Nat.le_of_ble_eq_true rfl) rfl dX7_readSign_5 (fun hz5 => ?_)
  refine lv_iload_n hx hb dX7_readSign_8 rfl (lv_at hl 1 rfl) ?_
  refine lv_icmp_eq (tgt := 14) hx hb dX7_readSign_9 (by decide) (fun c2 => ?_) (fun c2 => ?_)
  · have hf := ite_t hf c2
    refine lv_aload_n hx hb dX7_readSign_14 rfl (lv_at hl 0 rfl) ?_
    refine lv_dup hx hb dX7_readSign_15 rfl ?_
    refine gX7_31 hC hH.1 0 rfl (v := .int q0_cursor) rfl dX7_readSign_16 ?_
    refine lv_iconst (v := 1) hx hb dX7_readSign_19 (by decide) ?_
    refine lv_iadd hx hb dX7_readSign_20 ?_
    refine pX7_31 hC hH 0 rfl (v := .int (q0_cursor + (1 : Int32))) rfl rfl (Nat.le_of_ble_eq_true rfl) (W1 := wT E ad q0_codes q0_size q0_kinds q0_firsts q0_seconds q0_orders (q0_cursor + (1 : Int32)) q0_latestNumber) rfl dX7_readSign_21 (fun H locs hH => ?_)
    refine lv_iconst (v := 1) hx hb dX7_readSign_24 (by decide) ?_
    have hf := Option.some.inj hf
    subst hf
    exact e_Wz hC hH hr hlocks rfl rfl rfl dX7_readSign_25
  · have hf := ite_f hf c2
    refine lv_iconst (v := 0) hx hb dX7_readSign_12 (by decide) ?_
    have hf := Option.some.inj hf
    subst hf
    exact e_Wz hC hH hr hlocks rfl rfl rfl dX7_readSign_13
abbrev rmT_readWord : Room := { frames := 4, cells := 0, slots := 0, locals := 85 }
set_option maxHeartbeats 4000000 in
set_option maxRecDepth 100000 in
theorem cT_readWord (l : Launch) (E : eE) (G : eG) (ad : Nat → Nat) (q0_codes : (Nat → Int32)) (q0_size : Int32) (q0_kinds : (Nat → Int32)) (q0_firsts : (Nat → Int32)) (q0_seconds : (Nat → Int32)) (q0_orders : Int32) (q0_cursor : Int32) (q0_latestNumber : Int32) (a1 : Nat) (hia1 : a1 < 15) (t : Int32 × Int32) (hf : fT_readWord q0_codes q0_size q0_cursor a1 = some t) : cWS l E G yX7_readWord cX7_readWord 3 (some .boolean) rmT_readWord [.ref (ad 0), .ref (G.1 a1)] (wT E ad q0_codes q0_size q0_kinds q0_firsts q0_seconds q0_orders q0_cursor q0_latestNumber) (some (.int t.1)) (wT E ad q0_codes q0_size q0_kinds q0_firsts q0_seconds q0_orders t.2 q0_latestNumber) := by
  refine Met.ofW (cc := cX7_readWord) (maxL := 3) (ret := (some .boolean)) (by decide) rfl ?_
  intro p e s m args below meth c s₁ B hml hv
  obtain ⟨hargs, hP, hK, hD0, hSC⟩ := hv
  have hx := B.exec
  have hb := B.bytes
  have hr := B.returns
  have hts := atoms_spec (ws := ws_ yX7_readWord cX7_readWord 3 (some .boolean)) B.pre
  have hta : ∀ w ∈ lw_all, w.before args s = true := fun w h => hts w (List.mem_cons_of_mem _ h)
  have hown : s.vm.findClass RX7 = some m.cls := findClass_of_methodNamed B.named
  have hlocks := B.notSynchronized
  have hC : Cx p s m args c cX7_readWord 3 RX7 E := ⟨hx, hb, hml, hown, hta, hK⟩
  have hH : Hp E (adr (wT E ad q0_codes q0_size q0_kinds q0_firsts q0_seconds q0_orders q0_cursor q0_latestNumber)) (wT E ad q0_codes q0_size q0_kinds q0_firsts q0_seconds q0_orders q0_cursor q0_latestNumber) s.heap s.heap [] := Hp.start hP hD0
  obtain ⟨ls, he, hl⟩ := entry_ (m := m) (n := 3) hargs (Nat.le_of_ble_eq_true rfl)
  rw [he]
  have hl : lv_has ls 3 [(0, .ref (ad 0)), (1, .ref (G.1 a1))] := hl
  show W p l e rmT_readWord s m args below meth c s.heap [] 0 0 (MQ below (qW E (some .boolean) (some (.int t.1)) (wT E ad q0_codes q0_size q0_kinds q0_firsts q0_seconds q0_orders q0_cursor q0_latestNumber) (wT E ad q0_codes q0_size q0_kinds q0_firsts q0_seconds q0_orders t.2 q0_latestNumber)) args s 0 0 (adr (wT E ad q0_codes q0_size q0_kinds q0_firsts q0_seconds q0_orders q0_cursor q0_latestNumber))) (F0 m 0 ls [])
  suffices hmain : ∀ (H : Heap) (locs : List Loc), Hp E (adr (wT E ad q0_codes q0_size q0_kinds q0_firsts q0_seconds q0_orders q0_cursor q0_latestNumber)) (wT E ad q0_codes q0_size q0_kinds q0_firsts q0_seconds q0_orders q0_cursor q0_latestNumber) s.heap H locs → W p l e rmT_readWord s m args below meth c H locs 0 0 (MQ below (qW E (some .boolean) (some (.int t.1)) (wT E ad q0_codes q0_size q0_kinds q0_firsts q0_seconds q0_orders q0_cursor q0_latestNumber) (wT E ad q0_codes q0_size q0_kinds q0_firsts q0_seconds q0_orders t.2 q0_latestNumber)) args s 0 0 (adr (wT E ad q0_codes q0_size q0_kinds q0_firsts q0_seconds q0_orders q0_cursor q0_latestNumber))) (F0 m 0 ls []) from hmain _ _ hH
  clear hH
  have L2 : ∀ (n : Nat) (y0_6 : Int32) (a2 : Int32) (ls : Array Slot), lv_has ls 3 [(0, .ref (ad 0)), (1, .ref (G.1 a1)), (2, .int a2)] → ∀ (H : Heap) (locs : List Loc), Hp E (adr (wT E ad q0_codes q0_size q0_kinds q0_firsts q0_seconds q0_orders q0_cursor q0_latestNumber)) (wT E ad q0_codes q0_size q0_kinds q0_firsts q0_seconds q0_orders y0_6 q0_latestNumber) s.heap H locs → fT_readWord_2 n q0_codes q0_size y0_6 a1 a2 = some t → W p l e rmT_readWord s m args below meth c H locs 0 0 (MQ below (qW E (some .boolean) (some (.int t.1)) (wT E ad q0_codes q0_size q0_kinds q0_firsts q0_seconds q0_orders q0_cursor q0_latestNumber) (wT E ad q0_codes q0_size q0_kinds q0_firsts q0_seconds q0_orders t.2 q0_latestNumber)) args s 0 0 (adr (wT E ad q0_codes q0_size q0_kinds q0_firsts q0_seconds q0_orders q0_cursor q0_latestNumber))) (F0 m 2 ls []) := by
    intro n
    induction n with
    | zero => intro y0_6 a2 ls hl H locs hH hf; cases hf
    | succ n ih =>
      intro y0_6 a2 ls hl H locs hH hf
      rw [fT_readWord_2] at hf
      refine lv_iload_n hx hb dX7_readWord_2 rfl (lv_at hl 2 rfl) ?_
      refine lv_aload_n hx hb dX7_readWord_3 rfl (lv_at hl 1 rfl) ?_
      refine k_XVi hC LX7_78 ⟨Nat.le_of_ble_eq_true rfl, Nat.le_of_ble_eq_true rfl⟩ ⟨Nat.zero_le _, Nat.zero_le _⟩ (cJ_length l E G a1 hia1) rfl rfl hSC hH.2.2 hia1 rfl hl.1 rfl (Nat.le_of_ble_eq_true rfl) rfl dX7_readWord_4 (fun hz4 => ?_)
      refine lv_icmp_ge (tgt := 30) hx hb dX7_readWord_7 (by decide) (fun c1 => ?_) (fun c1 => ?_)
      · have hf := ite_t hf c1
        refine lv_aload_n hx hb dX7_readWord_30 rfl (lv_at hl 1 rfl) ?_
        refine k_XVi hC LX7_88 ⟨Nat.le_of_ble_eq_true rfl, Nat.le_of_ble_eq_true rfl⟩ ⟨Nat.zero_le _, Nat.zero_le _⟩ (cJ_isEmpty l E G a1 hia1) rfl rfl hSC hH.2.2 hia1 rfl hl.1 rfl (Nat.le_of_ble_eq_true rfl) rfl dX7_readWord_31 (fun hz31 => ?_)
        refine lv_if_ne (tgt := 41) hx hb dX7_readWord_34 (by decide) (fun c2 => ?_) (fun c2 => ?_)
        · have hf := ite_f hf c2
          refine lv_iconst (v := 0) hx hb dX7_readWord_41 (by decide) ?_
          have hf := Option.some.inj hf
          subst hf
          exact e_Wz hC hH hr hlocks rfl rfl rfl dX7_readWord_42
        · have hf := ite_t hf c2
          refine lv_iconst (v := 1) hx hb dX7_readWord_37 (by decide) ?_
          refine lv_goto (tgt := 42) hx hb dX7_readWord_38 (by decide) ?_
          have hf := Option.some.inj hf
          subst hf
          exact e_Wz hC hH hr hlocks rfl rfl rfl dX7_readWord_42
      · have hf := ite_f hf c1
        refine lv_aload_n hx hb dX7_readWord_10 rfl (lv_at hl 0 rfl) ?_
        refine lv_aload_n hx hb dX7_readWord_11 rfl (lv_at hl 1 rfl) ?_
        refine lv_iload_n hx hb dX7_readWord_12 rfl (lv_at hl 2 rfl) ?_
        obtain ⟨v3, hv3, hf⟩ := ob hf
        refine k_XVi hC LX7_84 ⟨Nat.le_of_ble_eq_true rfl, Nat.le_of_ble_eq_true rfl⟩ ⟨Nat.zero_le _, Nat.zero_le _⟩ (cJ_charAt l E G a1 a2 v3 hia1 hv3) rfl rfl hSC hH.2.2 hia1 rfl hl.1 rfl (Nat.le_of_ble_eq_true rfl) rfl dX7_readWord_13 (fun hz13 => ?_)
        obtain ⟨t4, ht4, hf⟩ := ob hf
        refine k_WVsi hC LX7_38 ⟨Nat.le_of_ble_eq_true rfl, Nat.le_of_ble_eq_true rfl⟩ ⟨Nat.zero_le _, Nat.zero_le _⟩ (cT_readSign l E ad q0_codes q0_size q0_kinds q0_firsts q0_seconds q0_orders y0_6 q0_latestNumber v3 t4 ht4) rfl rfl hH rfl rfl rfl hl.1 rfl (Nat.le_of_ble_eq_true rfl) rfl dX7_readWord_16 (fun H locs hz16 hH => ?_)
        have hH : Hp E (adr (wT E ad q0_codes q0_size q0_kinds q0_firsts q0_seconds q0_orders q0_cursor q0_latestNumber)) (wT E ad q0_codes q0_size q0_kinds q0_firsts q0_seconds q0_orders t4.2 q0_latestNumber) s.heap H locs := hH
        refine lv_if_ne (tgt := 24) hx hb dX7_readWord_19 (by decide) (fun c5 => ?_) (fun c5 => ?_)
        · have hf := ite_f hf c5
          refine lv_iinc (v := (a2 + (1 : Int32))) (lv' := [(2, .int (a2 + (1 : Int32))), (0, .ref (ad 0)), (1, .ref (G.1 a1))]) hx hb dX7_readWord_24 hl (k := 2) rfl rfl (by decide) rfl (fun ls hl => ?_)
          refine lv_goto (tgt := 2) hx hb dX7_readWord_27 (by decide) ?_
          exact ih t4.2 (a2 + (1 : Int32)) ls (lv_sub hl [1, 2, 0] rfl) _ _ hH hf
        · have hf := ite_t hf c5
          refine lv_iconst (v := 0) hx hb dX7_readWord_22 (by decide) ?_
          have hf := Option.some.inj hf
          subst hf
          exact e_Wz hC hH hr hlocks rfl rfl rfl dX7_readWord_23
  intro H locs hH
  rw [fT_readWord] at hf
  refine lv_iconst (v := 0) hx hb dX7_readWord_0 (by decide) ?_
  refine lv_istore_n (lv' := [(2, .int (0 : Int32)), (0, .ref (ad 0)), (1, .ref (G.1 a1))]) hx hb dX7_readWord_1 rfl hl (by decide) rfl (fun ls hl => ?_)
  exact L2 FU q0_cursor (0 : Int32) ls (lv_sub hl [1, 2, 0] rfl) _ _ hH hf
abbrev rmT_digitAt : Room := { frames := 1, cells := 0, slots := 0, locals := 21 }
set_option maxHeartbeats 4000000 in
set_option maxRecDepth 100000 in
theorem cT_digitAt (l : Launch) (E : eE) (ad : Nat → Nat) (q0_codes : (Nat → Int32)) (q0_size : Int32) (q0_kinds : (Nat → Int32)) (q0_firsts : (Nat → Int32)) (q0_seconds : (Nat → Int32)) (q0_orders : Int32) (q0_cursor : Int32) (q0_latestNumber : Int32) (a1 : Int32) (r : Int32) (hf : fT_digitAt q0_codes q0_size a1 = some r) : cP l E yX7_digitAt cX7_digitAt 3 (some .int) rmT_digitAt [.ref (ad 0), .int a1] (wT E ad q0_codes q0_size q0_kinds q0_firsts q0_seconds q0_orders q0_cursor q0_latestNumber) (some (.int r)) := by
  refine Met.ofW (cc := cX7_digitAt) (maxL := 3) (ret := (some .int)) (by decide) rfl ?_
  intro p e s m args below meth c s₁ B hml hv
  obtain ⟨hargs, hP, hK⟩ := hv
  have hx := B.exec
  have hb := B.bytes
  have hr := B.returns
  have hts := atoms_spec (ws := ws_ yX7_digitAt cX7_digitAt 3 (some .int)) B.pre
  have hta : ∀ w ∈ lw_all, w.before args s = true := fun w h => hts w (List.mem_cons_of_mem _ h)
  have hown : s.vm.findClass RX7 = some m.cls := findClass_of_methodNamed B.named
  have hlocks := B.notSynchronized
  have hC : Cx p s m args c cX7_digitAt 3 RX7 E := ⟨hx, hb, hml, hown, hta, hK⟩
  obtain ⟨ls, he, hl⟩ := entry_ (m := m) (n := 3) hargs (Nat.le_of_ble_eq_true rfl)
  rw [he]
  have hl : lv_has ls 3 [(0, .ref (ad 0)), (1, .int a1)] := hl
  show W p l e rmT_digitAt s m args below meth c s.heap [] 0 0 (MQ below (qP (some .int) (some (.int r))) args s 0 0 (fun _ => False)) (F0 m 0 ls [])
  rw [fT_digitAt] at hf
  refine lv_aload_n hx hb dX7_digitAt_0 rfl (lv_at hl 0 rfl) ?_
  refine lv_iload_n hx hb dX7_digitAt_1 rfl (lv_at hl 1 rfl) ?_
  obtain ⟨t1, ht1, hf⟩ := ob hf
  refine k_PVi hC LX7_42 ⟨Nat.le_of_ble_eq_true rfl, Nat.le_of_ble_eq_true rfl⟩ ⟨Nat.zero_le _, Nat.zero_le _⟩ (cT_codeAt l E ad q0_codes q0_size q0_kinds q0_firsts q0_seconds q0_orders q0_cursor q0_latestNumber a1 t1 ht1) rfl rfl hP rfl rfl hl.1 rfl (Nat.le_of_ble_eq_true rfl) rfl dX7_digitAt_2 (fun hz2 => ?_)
  refine lv_istore_n (lv' := [(2, .int t1), (0, .ref (ad 0)), (1, .int a1)]) hx hb dX7_digitAt_5 rfl hl (by decide) rfl (fun ls hl => ?_)
  refine lv_iload_n hx hb dX7_digitAt_6 rfl (lv_at hl 0 rfl) ?_
  refine lv_bipush (v := 48) hx hb dX7_digitAt_7 (by decide) ?_
  refine lv_icmp_lt (tgt := 25) hx hb dX7_digitAt_9 (by decide) (fun c2 => ?_) (fun c2 => ?_)
  · have hf := ite_t hf c2
    refine lv_iconst (v := (-1)) hx hb dX7_digitAt_25 (by decide) ?_
    have hf := Option.some.inj hf
    exact e_Pi hC hr hlocks hf dX7_digitAt_26
  · have hf := ite_f hf c2
    refine lv_iload_n hx hb dX7_digitAt_12 rfl (lv_at hl 0 rfl) ?_
    refine lv_bipush (v := 57) hx hb dX7_digitAt_13 (by decide) ?_
    refine lv_icmp_gt (tgt := 25) hx hb dX7_digitAt_15 (by decide) (fun c3 => ?_) (fun c3 => ?_)
    · have hf := ite_t hf c3
      refine lv_iconst (v := (-1)) hx hb dX7_digitAt_25 (by decide) ?_
      have hf := Option.some.inj hf
      exact e_Pi hC hr hlocks hf dX7_digitAt_26
    · have hf := ite_f hf c3
      refine lv_iload_n hx hb dX7_digitAt_18 rfl (lv_at hl 0 rfl) ?_
      refine lv_bipush (v := 48) hx hb dX7_digitAt_19 (by decide) ?_
      refine lv_isub hx hb dX7_digitAt_21 ?_
      refine lv_goto (tgt := 26) hx hb dX7_digitAt_22 (by decide) ?_
      have hf := Option.some.inj hf
      exact e_Pi hC hr hlocks hf dX7_digitAt_26
abbrev rmT_readNumber : Room := { frames := 2, cells := 0, slots := 0, locals := 43 }
set_option maxHeartbeats 4000000 in
set_option maxRecDepth 100000 in
theorem cT_readNumber (l : Launch) (E : eE) (ad : Nat → Nat) (q0_codes : (Nat → Int32)) (q0_size : Int32) (q0_kinds : (Nat → Int32)) (q0_firsts : (Nat → Int32)) (q0_seconds : (Nat → Int32)) (q0_orders : Int32) (q0_cursor : Int32) (q0_latestNumber : Int32) (t : Int32 × Int32 × Int32) (hf : fT_readNumber q0_codes q0_size q0_cursor q0_latestNumber = some t) : cW l E yX7_readNumber cX7_readNumber 2 (some .boolean) rmT_readNumber [.ref (ad 0)] (wT E ad q0_codes q0_size q0_kinds q0_firsts q0_seconds q0_orders q0_cursor q0_latestNumber) (some (.int t.1)) (wT E ad q0_codes q0_size q0_kinds q0_firsts q0_seconds q0_orders t.2.1 t.2.2) := by
  refine Met.ofW (cc := cX7_readNumber) (maxL := 2) (ret := (some .boolean)) (by decide) rfl ?_
  intro p e s m args below meth c s₁ B hml hv
  obtain ⟨hargs, hP, hK, hD0⟩ := hv
  have hx := B.exec
  have hb := B.bytes
  have hr := B.returns
  have hts := atoms_spec (ws := ws_ yX7_readNumber cX7_readNumber 2 (some .boolean)) B.pre
  have hta : ∀ w ∈ lw_all, w.before args s = true := fun w h => hts w (List.mem_cons_of_mem _ h)
  have hown : s.vm.findClass RX7 = some m.cls := findClass_of_methodNamed B.named
  have hlocks := B.notSynchronized
  have hC : Cx p s m args c cX7_readNumber 2 RX7 E := ⟨hx, hb, hml, hown, hta, hK⟩
  have hH : Hp E (adr (wT E ad q0_codes q0_size q0_kinds q0_firsts q0_seconds q0_orders q0_cursor q0_latestNumber)) (wT E ad q0_codes q0_size q0_kinds q0_firsts q0_seconds q0_orders q0_cursor q0_latestNumber) s.heap s.heap [] := Hp.start hP hD0
  obtain ⟨ls, he, hl⟩ := entry_ (m := m) (n := 2) hargs (Nat.le_of_ble_eq_true rfl)
  rw [he]
  have hl : lv_has ls 2 [(0, .ref (ad 0))] := hl
  show W p l e rmT_readNumber s m args below meth c s.heap [] 0 0 (MQ below (qW E (some .boolean) (some (.int t.1)) (wT E ad q0_codes q0_size q0_kinds q0_firsts q0_seconds q0_orders q0_cursor q0_latestNumber) (wT E ad q0_codes q0_size q0_kinds q0_firsts q0_seconds q0_orders t.2.1 t.2.2)) args s 0 0 (adr (wT E ad q0_codes q0_size q0_kinds q0_firsts q0_seconds q0_orders q0_cursor q0_latestNumber))) (F0 m 0 ls [])
  suffices hmain : ∀ (H : Heap) (locs : List Loc), Hp E (adr (wT E ad q0_codes q0_size q0_kinds q0_firsts q0_seconds q0_orders q0_cursor q0_latestNumber)) (wT E ad q0_codes q0_size q0_kinds q0_firsts q0_seconds q0_orders q0_cursor q0_latestNumber) s.heap H locs → W p l e rmT_readNumber s m args below meth c H locs 0 0 (MQ below (qW E (some .boolean) (some (.int t.1)) (wT E ad q0_codes q0_size q0_kinds q0_firsts q0_seconds q0_orders q0_cursor q0_latestNumber) (wT E ad q0_codes q0_size q0_kinds q0_firsts q0_seconds q0_orders t.2.1 t.2.2)) args s 0 0 (adr (wT E ad q0_codes q0_size q0_kinds q0_firsts q0_seconds q0_orders q0_cursor q0_latestNumber))) (F0 m 0 ls []) from hmain _ _ hH
  clear hH
  intro H locs hH
  rw [fT_readNumber] at hf
  refine lv_aload_n hx hb dX7_readNumber_0 rfl (lv_at hl 0 rfl) ?_
  refine lv_aload_n hx hb dX7_readNumber_1 rfl (lv_at hl 0 rfl) ?_
  refine gX7_31 hC hH.1 0 rfl (v := .int q0_cursor) rfl dX7_readNumber_2 ?_
  obtain ⟨t1, ht1, hf⟩ := ob hf
  refine k_PVi hC LX7_91 ⟨Nat.le_of_ble_eq_true rfl, Nat.le_of_ble_eq_true rfl⟩ ⟨Nat.zero_le _, Nat.zero_le _⟩ (cT_digitAt l E ad q0_codes q0_size q0_kinds q0_firsts q0_seconds q0_orders q0_cursor q0_latestNumber q0_cursor t1 ht1) rfl rfl hH.1 rfl rfl hl.1 rfl (Nat.le_of_ble_eq_true rfl) rfl dX7_readNumber_5 (fun hz5 => ?_)
  refine lv_istore_n (lv' := [(1, .int t1), (0, .ref (ad 0))]) hx hb dX7_readNumber_8 rfl hl (by decide) rfl (fun ls hl => ?_)
  refine lv_iload_n hx hb dX7_readNumber_9 rfl (lv_at hl 0 rfl) ?_
  refine lv_if_ge (tgt := 15) hx hb dX7_readNumber_10 (by decide) (fun c2 => ?_) (fun c2 => ?_)
  · have hf := ite_t hf c2
    refine lv_aload_n hx hb dX7_readNumber_15 rfl (lv_at hl 1 rfl) ?_
    refine lv_iload_n hx hb dX7_readNumber_16 rfl (lv_at hl 0 rfl) ?_
    refine pX7_57 hC hH 0 rfl (v := .int t1) rfl rfl (Nat.le_of_ble_eq_true rfl) (W1 := wT E ad q0_codes q0_size q0_kinds q0_firsts q0_seconds q0_orders q0_cursor t1) rfl dX7_readNumber_17 (fun H locs hH => ?_)
    refine lv_aload_n hx hb dX7_readNumber_20 rfl (lv_at hl 1 rfl) ?_
    refine lv_dup hx hb dX7_readNumber_21 rfl ?_
    refine gX7_31 hC hH.1 0 rfl (v := .int q0_cursor) rfl dX7_readNumber_22 ?_
    refine lv_iconst (v := 1) hx hb dX7_readNumber_25 (by decide) ?_
    refine lv_iadd hx hb dX7_readNumber_26 ?_
    refine pX7_31 hC hH 0 rfl (v := .int (q0_cursor + (1 : Int32))) rfl rfl (Nat.le_of_ble_eq_true rfl) (W1 := wT E ad q0_codes q0_size q0_kinds q0_firsts q0_seconds q0_orders (q0_cursor + (1 : Int32)) t1) rfl dX7_readNumber_27 (fun H locs hH => ?_)
    refine lv_aload_n hx hb dX7_readNumber_30 rfl (lv_at hl 1 rfl) ?_
    refine lv_aload_n hx hb dX7_readNumber_31 rfl (lv_at hl 1 rfl) ?_
    refine gX7_31 hC hH.1 0 rfl (v := .int (q0_cursor + (1 : Int32))) rfl dX7_readNumber_32 ?_
    obtain ⟨t3, ht3, hf⟩ := ob hf
    refine k_PVi hC LX7_91 ⟨Nat.le_of_ble_eq_true rfl, Nat.le_of_ble_eq_true rfl⟩ ⟨Nat.zero_le _, Nat.zero_le _⟩ (cT_digitAt l E ad q0_codes q0_size q0_kinds q0_firsts q0_seconds q0_orders (q0_cursor + (1 : Int32)) t1 (q0_cursor + (1 : Int32)) t3 ht3) rfl rfl hH.1 rfl rfl hl.1 rfl (Nat.le_of_ble_eq_true rfl) rfl dX7_readNumber_35 (fun hz35 => ?_)
    refine lv_istore_n (lv' := [(1, .int t3), (0, .ref (ad 0))]) hx hb dX7_readNumber_38 rfl hl (by decide) rfl (fun ls hl => ?_)
    refine lv_iload_n hx hb dX7_readNumber_39 rfl (lv_at hl 0 rfl) ?_
    refine lv_if_lt (tgt := 66) hx hb dX7_readNumber_40 (by decide) (fun c4 => ?_) (fun c4 => ?_)
    · have hf := ite_t hf c4
      refine lv_iconst (v := 1) hx hb dX7_readNumber_66 (by decide) ?_
      have hf := Option.some.inj hf
      subst hf
      exact e_Wz hC hH hr hlocks rfl rfl rfl dX7_readNumber_67
    · have hf := ite_f hf c4
      refine lv_aload_n hx hb dX7_readNumber_43 rfl (lv_at hl 1 rfl) ?_
      refine lv_aload_n hx hb dX7_readNumber_44 rfl (lv_at hl 1 rfl) ?_
      refine gX7_57 hC hH.1 0 rfl (v := .int t1) rfl dX7_readNumber_45 ?_
      refine lv_bipush (v := 10) hx hb dX7_readNumber_48 (by decide) ?_
      refine lv_imul hx hb dX7_readNumber_50 ?_
      refine lv_iload_n hx hb dX7_readNumber_51 rfl (lv_at hl 0 rfl) ?_
      refine lv_iadd hx hb dX7_readNumber_52 ?_
      refine pX7_57 hC hH 0 rfl (v := .int ((t1 * (10 : Int32)) + t3)) rfl rfl (Nat.le_of_ble_eq_true rfl) (W1 := wT E ad q0_codes q0_size q0_kinds q0_firsts q0_seconds q0_orders (q0_cursor + (1 : Int32)) ((t1 * (10 : Int32)) + t3)) rfl dX7_readNumber_53 (fun H locs hH => ?_)
      refine lv_aload_n hx hb dX7_readNumber_56 rfl (lv_at hl 1 rfl) ?_
      refine lv_dup hx hb dX7_readNumber_57 rfl ?_
      refine gX7_31 hC hH.1 0 rfl (v := .int (q0_cursor + (1 : Int32))) rfl dX7_readNumber_58 ?_
      refine lv_iconst (v := 1) hx hb dX7_readNumber_61 (by decide) ?_
      refine lv_iadd hx hb dX7_readNumber_62 ?_
      refine pX7_31 hC hH 0 rfl (v := .int ((q0_cursor + (1 : Int32)) + (1 : Int32))) rfl rfl (Nat.le_of_ble_eq_true rfl) (W1 := wT E ad q0_codes q0_size q0_kinds q0_firsts q0_seconds q0_orders ((q0_cursor + (1 : Int32)) + (1 : Int32)) ((t1 * (10 : Int32)) + t3)) rfl dX7_readNumber_63 (fun H locs hH => ?_)
      refine lv_iconst (v := 1) hx hb dX7_readNumber_66 (by decide) ?_
      have hf := Option.some.inj hf
      subst hf
      exact e_Wz hC hH hr hlocks rfl rfl rfl dX7_readNumber_67
  · have hf := ite_f hf c2
    refine lv_iconst (v := 0) hx hb dX7_readNumber_13 (by decide) ?_
    have hf := Option.some.inj hf
    subst hf
    exact e_Wz hC hH hr hlocks rfl rfl rfl dX7_readNumber_14
abbrev rmT_addOrder : Room := { frames := 0, cells := 0, slots := 0, locals := 0 }
set_option maxHeartbeats 4000000 in
set_option maxRecDepth 100000 in
theorem cT_addOrder (l : Launch) (E : eE) (ad : Nat → Nat) (q0_codes : (Nat → Int32)) (q0_size : Int32) (q0_kinds : (Nat → Int32)) (q0_firsts : (Nat → Int32)) (q0_seconds : (Nat → Int32)) (q0_orders : Int32) (q0_cursor : Int32) (q0_latestNumber : Int32) (a1 : Int32) (a2 : Int32) (a3 : Int32) (t : (Nat → Int32) × (Nat → Int32) × (Nat → Int32) × Int32) (hf : fT_addOrder q0_kinds q0_firsts q0_seconds q0_orders a1 a2 a3 = some t) : cW l E yX7_addOrder cX7_addOrder 4 none rmT_addOrder [.ref (ad 0), .int a1, .int a2, .int a3] (wT E ad q0_codes q0_size q0_kinds q0_firsts q0_seconds q0_orders q0_cursor q0_latestNumber) none (wT E ad q0_codes q0_size t.1 t.2.1 t.2.2.1 t.2.2.2 q0_cursor q0_latestNumber) := by
  refine Met.ofW (cc := cX7_addOrder) (maxL := 4) (ret := none) (by decide) rfl ?_
  intro p e s m args below meth c s₁ B hml hv
  obtain ⟨hargs, hP, hK, hD0⟩ := hv
  have hx := B.exec
  have hb := B.bytes
  have hr := B.returns
  have hts := atoms_spec (ws := ws_ yX7_addOrder cX7_addOrder 4 none) B.pre
  have hta : ∀ w ∈ lw_all, w.before args s = true := fun w h => hts w (List.mem_cons_of_mem _ h)
  have hown : s.vm.findClass RX7 = some m.cls := findClass_of_methodNamed B.named
  have hlocks := B.notSynchronized
  have hC : Cx p s m args c cX7_addOrder 4 RX7 E := ⟨hx, hb, hml, hown, hta, hK⟩
  have hH : Hp E (adr (wT E ad q0_codes q0_size q0_kinds q0_firsts q0_seconds q0_orders q0_cursor q0_latestNumber)) (wT E ad q0_codes q0_size q0_kinds q0_firsts q0_seconds q0_orders q0_cursor q0_latestNumber) s.heap s.heap [] := Hp.start hP hD0
  obtain ⟨ls, he, hl⟩ := entry_ (m := m) (n := 4) hargs (Nat.le_of_ble_eq_true rfl)
  rw [he]
  have hl : lv_has ls 4 [(0, .ref (ad 0)), (1, .int a1), (2, .int a2), (3, .int a3)] := hl
  show W p l e rmT_addOrder s m args below meth c s.heap [] 0 0 (MQ below (qW E none none (wT E ad q0_codes q0_size q0_kinds q0_firsts q0_seconds q0_orders q0_cursor q0_latestNumber) (wT E ad q0_codes q0_size t.1 t.2.1 t.2.2.1 t.2.2.2 q0_cursor q0_latestNumber)) args s 0 0 (adr (wT E ad q0_codes q0_size q0_kinds q0_firsts q0_seconds q0_orders q0_cursor q0_latestNumber))) (F0 m 0 ls [])
  suffices hmain : ∀ (H : Heap) (locs : List Loc), Hp E (adr (wT E ad q0_codes q0_size q0_kinds q0_firsts q0_seconds q0_orders q0_cursor q0_latestNumber)) (wT E ad q0_codes q0_size q0_kinds q0_firsts q0_seconds q0_orders q0_cursor q0_latestNumber) s.heap H locs → W p l e rmT_addOrder s m args below meth c H locs 0 0 (MQ below (qW E none none (wT E ad q0_codes q0_size q0_kinds q0_firsts q0_seconds q0_orders q0_cursor q0_latestNumber) (wT E ad q0_codes q0_size t.1 t.2.1 t.2.2.1 t.2.2.2 q0_cursor q0_latestNumber)) args s 0 0 (adr (wT E ad q0_codes q0_size q0_kinds q0_firsts q0_seconds q0_orders q0_cursor q0_latestNumber))) (F0 m 0 ls []) from hmain _ _ hH
  clear hH
  intro H locs hH
  rw [fT_addOrder] at hf
  refine lv_aload_n hx hb dX7_addOrder_0 rfl (lv_at hl 0 rfl) ?_
  refine gX7_28 hC hH.1 0 rfl (v := .int q0_orders) rfl dX7_addOrder_1 ?_
  refine lv_if_lt (tgt := 83) hx hb dX7_addOrder_4 (by decide) (fun c1 => ?_) (fun c1 => ?_)
  · have hf := ite_t hf c1
    have hf := Option.some.inj hf
    subst hf
    exact e_Wv hC hH hr hlocks rfl dX7_addOrder_83
  · have hf := ite_f hf c1
    refine lv_aload_n hx hb dX7_addOrder_7 rfl (lv_at hl 0 rfl) ?_
    refine gX7_28 hC hH.1 0 rfl (v := .int q0_orders) rfl dX7_addOrder_8 ?_
    refine lv_aload_n hx hb dX7_addOrder_11 rfl (lv_at hl 0 rfl) ?_
    refine gX7_15 hC hH.1 0 rfl (v := .ref (ad 2)) rfl dX7_addOrder_12 ?_
    refine va_alen (v := 10) hx hb hK.1 hH.1 2 0 rfl rfl rfl dX7_addOrder_15 ?_
    refine lv_icmp_ge (tgt := 83) hx hb dX7_addOrder_16 (by decide) (fun c2 => ?_) (fun c2 => ?_)
    · have hf := ite_t hf c2
      have hf := Option.some.inj hf
      subst hf
      exact e_Wv hC hH hr hlocks rfl dX7_addOrder_83
    · have hf := ite_f hf c2
      refine lv_aload_n hx hb dX7_addOrder_19 rfl (lv_at hl 0 rfl) ?_
      refine gX7_28 hC hH.1 0 rfl (v := .int q0_orders) rfl dX7_addOrder_20 ?_
      refine lv_aload_n hx hb dX7_addOrder_23 rfl (lv_at hl 0 rfl) ?_
      refine gX7_18 hC hH.1 0 rfl (v := .ref (ad 3)) rfl dX7_addOrder_24 ?_
      refine va_alen (v := 10) hx hb hK.1 hH.1 3 0 rfl rfl rfl dX7_addOrder_27 ?_
      refine lv_icmp_ge (tgt := 83) hx hb dX7_addOrder_28 (by decide) (fun c3 => ?_) (fun c3 => ?_)
      · have hf := ite_t hf c3
        have hf := Option.some.inj hf
        subst hf
        exact e_Wv hC hH hr hlocks rfl dX7_addOrder_83
      · have hf := ite_f hf c3
        refine lv_aload_n hx hb dX7_addOrder_31 rfl (lv_at hl 0 rfl) ?_
        refine gX7_28 hC hH.1 0 rfl (v := .int q0_orders) rfl dX7_addOrder_32 ?_
        refine lv_aload_n hx hb dX7_addOrder_35 rfl (lv_at hl 0 rfl) ?_
        refine gX7_21 hC hH.1 0 rfl (v := .ref (ad 4)) rfl dX7_addOrder_36 ?_
        refine va_alen (v := 10) hx hb hK.1 hH.1 4 0 rfl rfl rfl dX7_addOrder_39 ?_
        refine lv_icmp_ge (tgt := 83) hx hb dX7_addOrder_40 (by decide) (fun c4 => ?_) (fun c4 => ?_)
        · have hf := ite_t hf c4
          have hf := Option.some.inj hf
          subst hf
          exact e_Wv hC hH hr hlocks rfl dX7_addOrder_83
        · have hf := ite_f hf c4
          refine lv_aload_n hx hb dX7_addOrder_43 rfl (lv_at hl 0 rfl) ?_
          refine gX7_15 hC hH.1 0 rfl (v := .ref (ad 2)) rfl dX7_addOrder_44 ?_
          refine lv_aload_n hx hb dX7_addOrder_47 rfl (lv_at hl 0 rfl) ?_
          refine gX7_28 hC hH.1 0 rfl (v := .int q0_orders) rfl dX7_addOrder_48 ?_
          refine lv_iload_n hx hb dX7_addOrder_51 rfl (lv_at hl 1 rfl) ?_
          obtain ⟨g5, hg5, hf⟩ := ob hf
          obtain ⟨hg5a, hg5b⟩ := stA_ok hg5
          refine a_ist hC hH 2 rfl hg5a hg5b (W1 := wT E ad q0_codes q0_size g5 q0_firsts q0_seconds q0_orders q0_cursor q0_latestNumber) rfl dX7_addOrder_52 (fun H locs hH => ?_)
          refine lv_aload_n hx hb dX7_addOrder_53 rfl (lv_at hl 0 rfl) ?_
          refine gX7_18 hC hH.1 0 rfl (v := .ref (ad 3)) rfl dX7_addOrder_54 ?_
          refine lv_aload_n hx hb dX7_addOrder_57 rfl (lv_at hl 0 rfl) ?_
          refine gX7_28 hC hH.1 0 rfl (v := .int q0_orders) rfl dX7_addOrder_58 ?_
          refine lv_iload_n hx hb dX7_addOrder_61 rfl (lv_at hl 2 rfl) ?_
          obtain ⟨g6, hg6, hf⟩ := ob hf
          obtain ⟨hg6a, hg6b⟩ := stA_ok hg6
          refine a_ist hC hH 3 rfl hg6a hg6b (W1 := wT E ad q0_codes q0_size g5 g6 q0_seconds q0_orders q0_cursor q0_latestNumber) rfl dX7_addOrder_62 (fun H locs hH => ?_)
          refine lv_aload_n hx hb dX7_addOrder_63 rfl (lv_at hl 0 rfl) ?_
          refine gX7_21 hC hH.1 0 rfl (v := .ref (ad 4)) rfl dX7_addOrder_64 ?_
          refine lv_aload_n hx hb dX7_addOrder_67 rfl (lv_at hl 0 rfl) ?_
          refine gX7_28 hC hH.1 0 rfl (v := .int q0_orders) rfl dX7_addOrder_68 ?_
          refine lv_iload_n hx hb dX7_addOrder_71 rfl (lv_at hl 3 rfl) ?_
          obtain ⟨g7, hg7, hf⟩ := ob hf
          obtain ⟨hg7a, hg7b⟩ := stA_ok hg7
          refine a_ist hC hH 4 rfl hg7a hg7b (W1 := wT E ad q0_codes q0_size g5 g6 g7 q0_orders q0_cursor q0_latestNumber) rfl dX7_addOrder_72 (fun H locs hH => ?_)
          refine lv_aload_n hx hb dX7_addOrder_73 rfl (lv_at hl 0 rfl) ?_
          refine lv_dup hx hb dX7_addOrder_74 rfl ?_
          refine gX7_28 hC hH.1 0 rfl (v := .int q0_orders) rfl dX7_addOrder_75 ?_
          refine lv_iconst (v := 1) hx hb dX7_addOrder_78 (by decide) ?_
          refine lv_iadd hx hb dX7_addOrder_79 ?_
          refine pX7_28 hC hH 0 rfl (v := .int (q0_orders + (1 : Int32))) rfl rfl (Nat.le_of_ble_eq_true rfl) (W1 := wT E ad q0_codes q0_size g5 g6 g7 (q0_orders + (1 : Int32)) q0_cursor q0_latestNumber) rfl dX7_addOrder_80 (fun H locs hH => ?_)
          have hf := Option.some.inj hf
          subst hf
          exact e_Wv hC hH hr hlocks rfl dX7_addOrder_83
abbrev rmT_readOrder : Room := { frames := 5, cells := 0, slots := 0, locals := 107 }
set_option maxHeartbeats 4000000 in
set_option maxRecDepth 100000 in
theorem cT_readOrder (l : Launch) (E : eE) (G : eG) (ad : Nat → Nat) (q0_codes : (Nat → Int32)) (q0_size : Int32) (q0_kinds : (Nat → Int32)) (q0_firsts : (Nat → Int32)) (q0_seconds : (Nat → Int32)) (q0_orders : Int32) (q0_cursor : Int32) (q0_latestNumber : Int32) (t : Int32 × (Nat → Int32) × (Nat → Int32) × (Nat → Int32) × Int32 × Int32 × Int32) (hf : fT_readOrder q0_codes q0_size q0_kinds q0_firsts q0_seconds q0_orders q0_cursor q0_latestNumber = some t) : cWS l E G yX7_readOrder cX7_readOrder 3 (some .boolean) rmT_readOrder [.ref (ad 0)] (wT E ad q0_codes q0_size q0_kinds q0_firsts q0_seconds q0_orders q0_cursor q0_latestNumber) (some (.int t.1)) (wT E ad q0_codes q0_size t.2.1 t.2.2.1 t.2.2.2.1 t.2.2.2.2.1 t.2.2.2.2.2.1 t.2.2.2.2.2.2) := by
  refine Met.ofW (cc := cX7_readOrder) (maxL := 3) (ret := (some .boolean)) (by decide) rfl ?_
  intro p e s m args below meth c s₁ B hml hv
  obtain ⟨hargs, hP, hK, hD0, hSC⟩ := hv
  have hx := B.exec
  have hb := B.bytes
  have hr := B.returns
  have hts := atoms_spec (ws := ws_ yX7_readOrder cX7_readOrder 3 (some .boolean)) B.pre
  have hta : ∀ w ∈ lw_all, w.before args s = true := fun w h => hts w (List.mem_cons_of_mem _ h)
  have hown : s.vm.findClass RX7 = some m.cls := findClass_of_methodNamed B.named
  have hlocks := B.notSynchronized
  have hC : Cx p s m args c cX7_readOrder 3 RX7 E := ⟨hx, hb, hml, hown, hta, hK⟩
  have hH : Hp E (adr (wT E ad q0_codes q0_size q0_kinds q0_firsts q0_seconds q0_orders q0_cursor q0_latestNumber)) (wT E ad q0_codes q0_size q0_kinds q0_firsts q0_seconds q0_orders q0_cursor q0_latestNumber) s.heap s.heap [] := Hp.start hP hD0
  obtain ⟨ls, he, hl⟩ := entry_ (m := m) (n := 3) hargs (Nat.le_of_ble_eq_true rfl)
  rw [he]
  have hl : lv_has ls 3 [(0, .ref (ad 0))] := hl
  show W p l e rmT_readOrder s m args below meth c s.heap [] 0 0 (MQ below (qW E (some .boolean) (some (.int t.1)) (wT E ad q0_codes q0_size q0_kinds q0_firsts q0_seconds q0_orders q0_cursor q0_latestNumber) (wT E ad q0_codes q0_size t.2.1 t.2.2.1 t.2.2.2.1 t.2.2.2.2.1 t.2.2.2.2.2.1 t.2.2.2.2.2.2)) args s 0 0 (adr (wT E ad q0_codes q0_size q0_kinds q0_firsts q0_seconds q0_orders q0_cursor q0_latestNumber))) (F0 m 0 ls [])
  suffices hmain : ∀ (H : Heap) (locs : List Loc), Hp E (adr (wT E ad q0_codes q0_size q0_kinds q0_firsts q0_seconds q0_orders q0_cursor q0_latestNumber)) (wT E ad q0_codes q0_size q0_kinds q0_firsts q0_seconds q0_orders q0_cursor q0_latestNumber) s.heap H locs → W p l e rmT_readOrder s m args below meth c H locs 0 0 (MQ below (qW E (some .boolean) (some (.int t.1)) (wT E ad q0_codes q0_size q0_kinds q0_firsts q0_seconds q0_orders q0_cursor q0_latestNumber) (wT E ad q0_codes q0_size t.2.1 t.2.2.1 t.2.2.2.1 t.2.2.2.2.1 t.2.2.2.2.2.1 t.2.2.2.2.2.2)) args s 0 0 (adr (wT E ad q0_codes q0_size q0_kinds q0_firsts q0_seconds q0_orders q0_cursor q0_latestNumber))) (F0 m 0 ls []) from hmain _ _ hH
  clear hH
  intro H locs hH
  rw [fT_readOrder] at hf
  refine lv_aload_n hx hb dX7_readOrder_0 rfl (lv_at hl 0 rfl) ?_
  refine lv_aload_n hx hb dX7_readOrder_1 rfl (lv_at hl 0 rfl) ?_
  refine gX7_31 hC hH.1 0 rfl (v := .int q0_cursor) rfl dX7_readOrder_2 ?_
  obtain ⟨t1, ht1, hf⟩ := ob hf
  refine k_PVi hC LX7_42 ⟨Nat.le_of_ble_eq_true rfl, Nat.le_of_ble_eq_true rfl⟩ ⟨Nat.zero_le _, Nat.zero_le _⟩ (cT_codeAt l E ad q0_codes q0_size q0_kinds q0_firsts q0_seconds q0_orders q0_cursor q0_latestNumber q0_cursor t1 ht1) rfl rfl hH.1 rfl rfl hl.1 rfl (Nat.le_of_ble_eq_true rfl) rfl dX7_readOrder_5 (fun hz5 => ?_)
  refine lv_istore_n (lv' := [(1, .int t1), (0, .ref (ad 0))]) hx hb dX7_readOrder_8 rfl hl (by decide) rfl (fun ls hl => ?_)
  refine lv_aload_n hx hb dX7_readOrder_9 rfl (lv_at hl 1 rfl) ?_
  refine lv_iload_n hx hb dX7_readOrder_10 rfl (lv_at hl 0 rfl) ?_
  refine k_XSr hC LX7_46 ⟨Nat.le_of_ble_eq_true rfl, Nat.le_of_ble_eq_true rfl⟩ ⟨Nat.zero_le _, Nat.zero_le _⟩ (cT_wordOf l E G t1 _ rfl) rfl rfl hSC hH.2.2 hl.1 rfl (Nat.le_of_ble_eq_true rfl) rfl dX7_readOrder_11 (fun hz11 => ?_)
  obtain ⟨t2, ht2, hf⟩ := ob hf
  refine k_WXi hC LX7_50 ⟨Nat.le_of_ble_eq_true rfl, Nat.le_of_ble_eq_true rfl⟩ ⟨Nat.zero_le _, Nat.zero_le _⟩ (cT_readWord l E G ad q0_codes q0_size q0_kinds q0_firsts q0_seconds q0_orders q0_cursor q0_latestNumber (fT_wordOf t1) (fT_wordOf_lt _) t2 ht2) rfl rfl hSC hH (W1 := wT E ad q0_codes q0_size q0_kinds q0_firsts q0_seconds q0_orders t2.2 q0_latestNumber) (app_nil_perm _) (perm_app_nil _) rfl rfl rfl hl.1 rfl (Nat.le_of_ble_eq_true rfl) rfl dX7_readOrder_14 (fun H locs hz14 hH => ?_)
  refine lv_if_eq (tgt := 27) hx hb dX7_readOrder_17 (by decide) (fun c3 => ?_) (fun c3 => ?_)
  · have hf := ite_t hf c3
    refine lv_iconst (v := 0) hx hb dX7_readOrder_27 (by decide) ?_
    have hf := Option.some.inj hf
    subst hf
    exact e_Wz hC hH hr hlocks rfl rfl rfl dX7_readOrder_28
  · have hf := ite_f hf c3
    refine lv_aload_n hx hb dX7_readOrder_20 rfl (lv_at hl 1 rfl) ?_
    obtain ⟨t4, ht4, hf⟩ := ob hf
    refine k_WVsi hC LX7_54 ⟨Nat.le_of_ble_eq_true rfl, Nat.le_of_ble_eq_true rfl⟩ ⟨Nat.zero_le _, Nat.zero_le _⟩ (cT_readNumber l E ad q0_codes q0_size q0_kinds q0_firsts q0_seconds q0_orders t2.2 q0_latestNumber t4 ht4) rfl rfl hH rfl rfl rfl hl.1 rfl (Nat.le_of_ble_eq_true rfl) rfl dX7_readOrder_21 (fun H locs hz21 hH => ?_)
    have hH : Hp E (adr (wT E ad q0_codes q0_size q0_kinds q0_firsts q0_seconds q0_orders q0_cursor q0_latestNumber)) (wT E ad q0_codes q0_size q0_kinds q0_firsts q0_seconds q0_orders t4.2.1 t4.2.2) s.heap H locs := hH
    refine lv_if_ne (tgt := 29) hx hb dX7_readOrder_24 (by decide) (fun c5 => ?_) (fun c5 => ?_)
    · have hf := ite_f hf c5
      refine lv_aload_n hx hb dX7_readOrder_29 rfl (lv_at hl 1 rfl) ?_
      refine gX7_57 hC hH.1 0 rfl (v := .int t4.2.2) rfl dX7_readOrder_30 ?_
      refine lv_istore_n (lv' := [(2, .int t4.2.2), (1, .int t1), (0, .ref (ad 0))]) hx hb dX7_readOrder_33 rfl hl (by decide) rfl (fun ls hl => ?_)
      refine lv_iload_n hx hb dX7_readOrder_34 rfl (lv_at hl 1 rfl) ?_
      refine lv_bipush (v := 105) hx hb dX7_readOrder_35 (by decide) ?_
      refine lv_icmp_ne (tgt := 58) hx hb dX7_readOrder_37 (by decide) (fun c6 => ?_) (fun c6 => ?_)
      · have hf := ite_f hf c6
        refine lv_aload_n hx hb dX7_readOrder_58 rfl (lv_at hl 2 rfl) ?_
        refine lv_iload_n hx hb dX7_readOrder_59 rfl (lv_at hl 1 rfl) ?_
        refine lv_iload_n hx hb dX7_readOrder_60 rfl (lv_at hl 0 rfl) ?_
        refine lv_aload_n hx hb dX7_readOrder_61 rfl (lv_at hl 2 rfl) ?_
        refine gX7_57 hC hH.1 0 rfl (v := .int t4.2.2) rfl dX7_readOrder_62 ?_
        obtain ⟨t7, ht7, hf⟩ := ob hf
        refine k_WVsv hC LX7_60 ⟨Nat.le_of_ble_eq_true rfl, Nat.le_of_ble_eq_true rfl⟩ ⟨Nat.zero_le _, Nat.zero_le _⟩ (cT_addOrder l E ad q0_codes q0_size q0_kinds q0_firsts q0_seconds q0_orders t4.2.1 t4.2.2 t1 t4.2.2 t4.2.2 t7 ht7) rfl rfl hH rfl rfl rfl hl.1 rfl (Nat.le_of_ble_eq_true rfl) rfl dX7_readOrder_65 (fun H locs hz65 hH => ?_)
        have hH : Hp E (adr (wT E ad q0_codes q0_size q0_kinds q0_firsts q0_seconds q0_orders q0_cursor q0_latestNumber)) (wT E ad q0_codes q0_size t7.1 t7.2.1 t7.2.2.1 t7.2.2.2 t4.2.1 t4.2.2) s.heap H locs := hH
        refine lv_iconst (v := 1) hx hb dX7_readOrder_68 (by decide) ?_
        have hf := Option.some.inj hf
        subst hf
        exact e_Wz hC hH hr hlocks rfl rfl rfl dX7_readOrder_69
      · have hf := ite_t hf c6
        refine lv_aload_n hx hb dX7_readOrder_40 rfl (lv_at hl 2 rfl) ?_
        refine lv_bipush (v := 32) hx hb dX7_readOrder_41 (by decide) ?_
        obtain ⟨t8, ht8, hf⟩ := ob hf
        refine k_WVsi hC LX7_38 ⟨Nat.le_of_ble_eq_true rfl, Nat.le_of_ble_eq_true rfl⟩ ⟨Nat.zero_le _, Nat.zero_le _⟩ (cT_readSign l E ad q0_codes q0_size q0_kinds q0_firsts q0_seconds q0_orders t4.2.1 t4.2.2 (32 : Int32) t8 ht8) rfl rfl hH rfl rfl rfl hl.1 rfl (Nat.le_of_ble_eq_true rfl) rfl dX7_readOrder_43 (fun H locs hz43 hH => ?_)
        have hH : Hp E (adr (wT E ad q0_codes q0_size q0_kinds q0_firsts q0_seconds q0_orders q0_cursor q0_latestNumber)) (wT E ad q0_codes q0_size q0_kinds q0_firsts q0_seconds q0_orders t8.2 t4.2.2) s.heap H locs := hH
        refine lv_if_eq (tgt := 56) hx hb dX7_readOrder_46 (by decide) (fun c9 => ?_) (fun c9 => ?_)
        · have hf := ite_t hf c9
          refine lv_iconst (v := 0) hx hb dX7_readOrder_56 (by decide) ?_
          have hf := Option.some.inj hf
          subst hf
          exact e_Wz hC hH hr hlocks rfl rfl rfl dX7_readOrder_57
        · have hf := ite_f hf c9
          refine lv_aload_n hx hb dX7_readOrder_49 rfl (lv_at hl 2 rfl) ?_
          obtain ⟨t10, ht10, hf⟩ := ob hf
          refine k_WVsi hC LX7_54 ⟨Nat.le_of_ble_eq_true rfl, Nat.le_of_ble_eq_true rfl⟩ ⟨Nat.zero_le _, Nat.zero_le _⟩ (cT_readNumber l E ad q0_codes q0_size q0_kinds q0_firsts q0_seconds q0_orders t8.2 t4.2.2 t10 ht10) rfl rfl hH rfl rfl rfl hl.1 rfl (Nat.le_of_ble_eq_true rfl) rfl dX7_readOrder_50 (fun H locs hz50 hH => ?_)
          have hH : Hp E (adr (wT E ad q0_codes q0_size q0_kinds q0_firsts q0_seconds q0_orders q0_cursor q0_latestNumber)) (wT E ad q0_codes q0_size q0_kinds q0_firsts q0_seconds q0_orders t10.2.1 t10.2.2) s.heap H locs := hH
          refine lv_if_ne (tgt := 58) hx hb dX7_readOrder_53 (by decide) (fun c11 => ?_) (fun c11 => ?_)
          · have hf := ite_f hf c11
            refine lv_aload_n hx hb dX7_readOrder_58 rfl (lv_at hl 2 rfl) ?_
            refine lv_iload_n hx hb dX7_readOrder_59 rfl (lv_at hl 1 rfl) ?_
            refine lv_iload_n hx hb dX7_readOrder_60 rfl (lv_at hl 0 rfl) ?_
            refine lv_aload_n hx hb dX7_readOrder_61 rfl (lv_at hl 2 rfl) ?_
            refine gX7_57 hC hH.1 0 rfl (v := .int t10.2.2) rfl dX7_readOrder_62 ?_
            obtain ⟨t12, ht12, hf⟩ := ob hf
            refine k_WVsv hC LX7_60 ⟨Nat.le_of_ble_eq_true rfl, Nat.le_of_ble_eq_true rfl⟩ ⟨Nat.zero_le _, Nat.zero_le _⟩ (cT_addOrder l E ad q0_codes q0_size q0_kinds q0_firsts q0_seconds q0_orders t10.2.1 t10.2.2 t1 t4.2.2 t10.2.2 t12 ht12) rfl rfl hH rfl rfl rfl hl.1 rfl (Nat.le_of_ble_eq_true rfl) rfl dX7_readOrder_65 (fun H locs hz65 hH => ?_)
            have hH : Hp E (adr (wT E ad q0_codes q0_size q0_kinds q0_firsts q0_seconds q0_orders q0_cursor q0_latestNumber)) (wT E ad q0_codes q0_size t12.1 t12.2.1 t12.2.2.1 t12.2.2.2 t10.2.1 t10.2.2) s.heap H locs := hH
            refine lv_iconst (v := 1) hx hb dX7_readOrder_68 (by decide) ?_
            have hf := Option.some.inj hf
            subst hf
            exact e_Wz hC hH hr hlocks rfl rfl rfl dX7_readOrder_69
          · have hf := ite_t hf c11
            refine lv_iconst (v := 0) hx hb dX7_readOrder_56 (by decide) ?_
            have hf := Option.some.inj hf
            subst hf
            exact e_Wz hC hH hr hlocks rfl rfl rfl dX7_readOrder_57
    · have hf := ite_t hf c5
      refine lv_iconst (v := 0) hx hb dX7_readOrder_27 (by decide) ?_
      have hf := Option.some.inj hf
      subst hf
      exact e_Wz hC hH hr hlocks rfl rfl rfl dX7_readOrder_28
abbrev rmT_read : Room := { frames := 6, cells := 0, slots := 0, locals := 129 }
set_option maxHeartbeats 4000000 in
set_option maxRecDepth 100000 in
theorem cT_read (l : Launch) (E : eE) (G : eG) (ad : Nat → Nat) (q0_codes : (Nat → Int32)) (q0_size : Int32) (q0_kinds : (Nat → Int32)) (q0_firsts : (Nat → Int32)) (q0_seconds : (Nat → Int32)) (q0_orders : Int32) (q0_cursor : Int32) (q0_latestNumber : Int32) (t : Int32 × (Nat → Int32) × (Nat → Int32) × (Nat → Int32) × Int32 × Int32 × Int32) (hf : fT_read q0_codes q0_size q0_kinds q0_firsts q0_seconds q0_orders q0_cursor q0_latestNumber = some t) : cWS l E G yX7_read cX7_read 2 (some .int) rmT_read [.ref (ad 0)] (wT E ad q0_codes q0_size q0_kinds q0_firsts q0_seconds q0_orders q0_cursor q0_latestNumber) (some (.int t.1)) (wT E ad q0_codes q0_size t.2.1 t.2.2.1 t.2.2.2.1 t.2.2.2.2.1 t.2.2.2.2.2.1 t.2.2.2.2.2.2) := by
  refine Met.ofW (cc := cX7_read) (maxL := 2) (ret := (some .int)) (by decide) rfl ?_
  intro p e s m args below meth c s₁ B hml hv
  obtain ⟨hargs, hP, hK, hD0, hSC⟩ := hv
  have hx := B.exec
  have hb := B.bytes
  have hr := B.returns
  have hts := atoms_spec (ws := ws_ yX7_read cX7_read 2 (some .int)) B.pre
  have hta : ∀ w ∈ lw_all, w.before args s = true := fun w h => hts w (List.mem_cons_of_mem _ h)
  have hown : s.vm.findClass RX7 = some m.cls := findClass_of_methodNamed B.named
  have hlocks := B.notSynchronized
  have hC : Cx p s m args c cX7_read 2 RX7 E := ⟨hx, hb, hml, hown, hta, hK⟩
  have hH : Hp E (adr (wT E ad q0_codes q0_size q0_kinds q0_firsts q0_seconds q0_orders q0_cursor q0_latestNumber)) (wT E ad q0_codes q0_size q0_kinds q0_firsts q0_seconds q0_orders q0_cursor q0_latestNumber) s.heap s.heap [] := Hp.start hP hD0
  obtain ⟨ls, he, hl⟩ := entry_ (m := m) (n := 2) hargs (Nat.le_of_ble_eq_true rfl)
  rw [he]
  have hl : lv_has ls 2 [(0, .ref (ad 0))] := hl
  show W p l e rmT_read s m args below meth c s.heap [] 0 0 (MQ below (qW E (some .int) (some (.int t.1)) (wT E ad q0_codes q0_size q0_kinds q0_firsts q0_seconds q0_orders q0_cursor q0_latestNumber) (wT E ad q0_codes q0_size t.2.1 t.2.2.1 t.2.2.2.1 t.2.2.2.2.1 t.2.2.2.2.2.1 t.2.2.2.2.2.2)) args s 0 0 (adr (wT E ad q0_codes q0_size q0_kinds q0_firsts q0_seconds q0_orders q0_cursor q0_latestNumber))) (F0 m 0 ls [])
  suffices hmain : ∀ (H : Heap) (locs : List Loc), Hp E (adr (wT E ad q0_codes q0_size q0_kinds q0_firsts q0_seconds q0_orders q0_cursor q0_latestNumber)) (wT E ad q0_codes q0_size q0_kinds q0_firsts q0_seconds q0_orders q0_cursor q0_latestNumber) s.heap H locs → W p l e rmT_read s m args below meth c H locs 0 0 (MQ below (qW E (some .int) (some (.int t.1)) (wT E ad q0_codes q0_size q0_kinds q0_firsts q0_seconds q0_orders q0_cursor q0_latestNumber) (wT E ad q0_codes q0_size t.2.1 t.2.2.1 t.2.2.2.1 t.2.2.2.2.1 t.2.2.2.2.2.1 t.2.2.2.2.2.2)) args s 0 0 (adr (wT E ad q0_codes q0_size q0_kinds q0_firsts q0_seconds q0_orders q0_cursor q0_latestNumber))) (F0 m 0 ls []) from hmain _ _ hH
  clear hH
  have L12 : ∀ (n : Nat) (y0_2 : (Nat → Int32)) (y0_3 : (Nat → Int32)) (y0_4 : (Nat → Int32)) (y0_5 : Int32) (y0_6 : Int32) (y0_7 : Int32) (a1 : Int32) (ls : Array Slot), lv_has ls 2 [(0, .ref (ad 0)), (1, .int a1)] → ∀ (H : Heap) (locs : List Loc), Hp E (adr (wT E ad q0_codes q0_size q0_kinds q0_firsts q0_seconds q0_orders q0_cursor q0_latestNumber)) (wT E ad q0_codes q0_size y0_2 y0_3 y0_4 y0_5 y0_6 y0_7) s.heap H locs → fT_read_12 n q0_codes q0_size y0_2 y0_3 y0_4 y0_5 y0_6 y0_7 a1 = some t → W p l e rmT_read s m args below meth c H locs 0 0 (MQ below (qW E (some .int) (some (.int t.1)) (wT E ad q0_codes q0_size q0_kinds q0_firsts q0_seconds q0_orders q0_cursor q0_latestNumber) (wT E ad q0_codes q0_size t.2.1 t.2.2.1 t.2.2.2.1 t.2.2.2.2.1 t.2.2.2.2.2.1 t.2.2.2.2.2.2)) args s 0 0 (adr (wT E ad q0_codes q0_size q0_kinds q0_firsts q0_seconds q0_orders q0_cursor q0_latestNumber))) (F0 m 12 ls []) := by
    intro n
    induction n with
    | zero => intro y0_2 y0_3 y0_4 y0_5 y0_6 y0_7 a1 ls hl H locs hH hf; cases hf
    | succ n ih =>
      intro y0_2 y0_3 y0_4 y0_5 y0_6 y0_7 a1 ls hl H locs hH hf
      rw [fT_read_12] at hf
      refine lv_iload_n hx hb dX7_read_12 rfl (lv_at hl 1 rfl) ?_
      refine lv_bipush (v := 60) hx hb dX7_read_13 (by decide) ?_
      refine lv_icmp_gt (tgt := 63) hx hb dX7_read_15 (by decide) (fun c1 => ?_) (fun c1 => ?_)
      · have hf := ite_t hf c1
        refine lv_aload_n hx hb dX7_read_63 rfl (lv_at hl 0 rfl) ?_
        refine gX7_31 hC hH.1 0 rfl (v := .int y0_6) rfl dX7_read_64 ?_
        have hf := Option.some.inj hf
        subst hf
        exact e_Wi hC hH hr hlocks rfl rfl dX7_read_67
      · have hf := ite_f hf c1
        refine lv_aload_n hx hb dX7_read_18 rfl (lv_at hl 0 rfl) ?_
        obtain ⟨t2, ht2, hf⟩ := ob hf
        refine k_WXi hC LX7_34 ⟨Nat.le_of_ble_eq_true rfl, Nat.le_of_ble_eq_true rfl⟩ ⟨Nat.zero_le _, Nat.zero_le _⟩ (cT_readOrder l E G ad q0_codes q0_size y0_2 y0_3 y0_4 y0_5 y0_6 y0_7 t2 ht2) rfl rfl hSC hH (W1 := wT E ad q0_codes q0_size t2.2.1 t2.2.2.1 t2.2.2.2.1 t2.2.2.2.2.1 t2.2.2.2.2.2.1 t2.2.2.2.2.2.2) (app_nil_perm _) (perm_app_nil _) rfl rfl rfl hl.1 rfl (Nat.le_of_ble_eq_true rfl) rfl dX7_read_19 (fun H locs hz19 hH => ?_)
        refine lv_if_ne (tgt := 30) hx hb dX7_read_22 (by decide) (fun c3 => ?_) (fun c3 => ?_)
        · have hf := ite_f hf c3
          refine lv_aload_n hx hb dX7_read_30 rfl (lv_at hl 0 rfl) ?_
          refine gX7_31 hC hH.1 0 rfl (v := .int t2.2.2.2.2.2.1) rfl dX7_read_31 ?_
          refine lv_aload_n hx hb dX7_read_34 rfl (lv_at hl 0 rfl) ?_
          refine gX7_24 hC hH.1 0 rfl (v := .int q0_size) rfl dX7_read_35 ?_
          refine lv_icmp_ne (tgt := 43) hx hb dX7_read_38 (by decide) (fun c4 => ?_) (fun c4 => ?_)
          · have hf := ite_f hf c4
            refine lv_aload_n hx hb dX7_read_43 rfl (lv_at hl 0 rfl) ?_
            refine lv_bipush (v := 59) hx hb dX7_read_44 (by decide) ?_
            obtain ⟨t5, ht5, hf⟩ := ob hf
            refine k_WVsi hC LX7_38 ⟨Nat.le_of_ble_eq_true rfl, Nat.le_of_ble_eq_true rfl⟩ ⟨Nat.zero_le _, Nat.zero_le _⟩ (cT_readSign l E ad q0_codes q0_size t2.2.1 t2.2.2.1 t2.2.2.2.1 t2.2.2.2.2.1 t2.2.2.2.2.2.1 t2.2.2.2.2.2.2 (59 : Int32) t5 ht5) rfl rfl hH rfl rfl rfl hl.1 rfl (Nat.le_of_ble_eq_true rfl) rfl dX7_read_46 (fun H locs hz46 hH => ?_)
            have hH : Hp E (adr (wT E ad q0_codes q0_size q0_kinds q0_firsts q0_seconds q0_orders q0_cursor q0_latestNumber)) (wT E ad q0_codes q0_size t2.2.1 t2.2.2.1 t2.2.2.2.1 t2.2.2.2.2.1 t5.2 t2.2.2.2.2.2.2) s.heap H locs := hH
            refine lv_if_ne (tgt := 57) hx hb dX7_read_49 (by decide) (fun c6 => ?_) (fun c6 => ?_)
            · have hf := ite_f hf c6
              refine lv_iinc (v := (a1 + (1 : Int32))) (lv' := [(1, .int (a1 + (1 : Int32))), (0, .ref (ad 0))]) hx hb dX7_read_57 hl (k := 1) rfl rfl (by decide) rfl (fun ls hl => ?_)
              refine lv_goto (tgt := 12) hx hb dX7_read_60 (by decide) ?_
              exact ih t2.2.1 t2.2.2.1 t2.2.2.2.1 t2.2.2.2.2.1 t5.2 t2.2.2.2.2.2.2 (a1 + (1 : Int32)) ls (lv_sub hl [1, 0] rfl) _ _ hH hf
            · have hf := ite_t hf c6
              refine lv_aload_n hx hb dX7_read_52 rfl (lv_at hl 0 rfl) ?_
              refine gX7_31 hC hH.1 0 rfl (v := .int t5.2) rfl dX7_read_53 ?_
              have hf := Option.some.inj hf
              subst hf
              exact e_Wi hC hH hr hlocks rfl rfl dX7_read_56
          · have hf := ite_t hf c4
            refine lv_iconst (v := (-1)) hx hb dX7_read_41 (by decide) ?_
            have hf := Option.some.inj hf
            subst hf
            exact e_Wi hC hH hr hlocks rfl rfl dX7_read_42
        · have hf := ite_t hf c3
          refine lv_aload_n hx hb dX7_read_25 rfl (lv_at hl 0 rfl) ?_
          refine gX7_31 hC hH.1 0 rfl (v := .int t2.2.2.2.2.2.1) rfl dX7_read_26 ?_
          have hf := Option.some.inj hf
          subst hf
          exact e_Wi hC hH hr hlocks rfl rfl dX7_read_29
  intro H locs hH
  rw [fT_read] at hf
  refine lv_aload_n hx hb dX7_read_0 rfl (lv_at hl 0 rfl) ?_
  refine lv_iconst (v := 0) hx hb dX7_read_1 (by decide) ?_
  refine pX7_28 hC hH 0 rfl (v := .int (0 : Int32)) rfl rfl (Nat.le_of_ble_eq_true rfl) (W1 := wT E ad q0_codes q0_size q0_kinds q0_firsts q0_seconds (0 : Int32) q0_cursor q0_latestNumber) rfl dX7_read_2 (fun H locs hH => ?_)
  refine lv_aload_n hx hb dX7_read_5 rfl (lv_at hl 0 rfl) ?_
  refine lv_iconst (v := 0) hx hb dX7_read_6 (by decide) ?_
  refine pX7_31 hC hH 0 rfl (v := .int (0 : Int32)) rfl rfl (Nat.le_of_ble_eq_true rfl) (W1 := wT E ad q0_codes q0_size q0_kinds q0_firsts q0_seconds (0 : Int32) (0 : Int32) q0_latestNumber) rfl dX7_read_7 (fun H locs hH => ?_)
  refine lv_iconst (v := 0) hx hb dX7_read_10 (by decide) ?_
  refine lv_istore_n (lv' := [(1, .int (0 : Int32)), (0, .ref (ad 0))]) hx hb dX7_read_11 rfl hl (by decide) rfl (fun ls hl => ?_)
  exact L12 FU q0_kinds q0_firsts q0_seconds (0 : Int32) (0 : Int32) q0_latestNumber (0 : Int32) ls (lv_sub hl [1, 0] rfl) _ _ hH hf
