abbrev rmT_size : Room := { frames := 0, cells := 0, slots := 0, locals := 0 }
set_option maxHeartbeats 4000000 in
set_option maxRecDepth 100000 in
theorem cT_size (l : Launch) (E : eE) (ad : Nat → Nat) (q0_codes : (Nat → Int32)) (q0_size : Int32) (q0_kinds : (Nat → Int32)) (q0_firsts : (Nat → Int32)) (q0_seconds : (Nat → Int32)) (q0_orders : Int32) (q0_cursor : Int32) (q0_latestNumber : Int32) (r : Int32) (hf : fT_size q0_size = r) : cP l E yX7_size cX7_size 1 (some .int) rmT_size [.ref (ad 0)] (wT E ad q0_codes q0_size q0_kinds q0_firsts q0_seconds q0_orders q0_cursor q0_latestNumber) (some (.int r)) := by
  refine Met.ofW (cc := cX7_size) (maxL := 1) (ret := (some .int)) (by decide) rfl ?_
  intro p e s m args below meth c s₁ B hml hv
  obtain ⟨hargs, hP, hK⟩ := hv
  have hx := B.exec
  have hb := B.bytes
  have hr := B.returns
  have hts := atoms_spec (ws := ws_ yX7_size cX7_size 1 (some .int)) B.pre
  have hta : ∀ w ∈ lw_all, w.before args s = true := fun w h => hts w (List.mem_cons_of_mem _ h)
  have hown : s.vm.findClass RX7 = some m.cls := findClass_of_methodNamed B.named
  have hlocks := B.notSynchronized
  have hC : Cx p s m args c cX7_size 1 RX7 E := ⟨hx, hb, hml, hown, hta, hK⟩
  obtain ⟨ls, he, hl⟩ := entry_ (m := m) (n := 1) hargs (Nat.le_of_ble_eq_true rfl)
  rw [he]
  have hl : lv_has ls 1 [(0, .ref (ad 0))] := hl
  show W p l e rmT_size s m args below meth c s.heap [] 0 0 (MQ below (qP (some .int) (some (.int r))) args s 0 0 (fun _ => False)) (F0 m 0 ls [])
  rw [fT_size] at hf
  refine lv_aload_n hx hb dX7_size_0 rfl (lv_at hl 0 rfl) ?_
  refine gX7_24 hC hP 0 rfl (v := .int q0_size) rfl dX7_size_1 ?_
  exact e_Pi hC hr hlocks hf dX7_size_4
abbrev rmT_isFull : Room := { frames := 0, cells := 0, slots := 0, locals := 0 }
set_option maxHeartbeats 4000000 in
set_option maxRecDepth 100000 in
theorem cT_isFull (l : Launch) (E : eE) (ad : Nat → Nat) (q0_codes : (Nat → Int32)) (q0_size : Int32) (q0_kinds : (Nat → Int32)) (q0_firsts : (Nat → Int32)) (q0_seconds : (Nat → Int32)) (q0_orders : Int32) (q0_cursor : Int32) (q0_latestNumber : Int32) (r : Int32) (hf : fT_isFull q0_size = r) : cP l E yX7_isFull cX7_isFull 1 (some .boolean) rmT_isFull [.ref (ad 0)] (wT E ad q0_codes q0_size q0_kinds q0_firsts q0_seconds q0_orders q0_cursor q0_latestNumber) (some (.int r)) := by
  refine Met.ofW (cc := cX7_isFull) (maxL := 1) (ret := (some .boolean)) (by decide) rfl ?_
  intro p e s m args below meth c s₁ B hml hv
  obtain ⟨hargs, hP, hK⟩ := hv
  have hx := B.exec
  have hb := B.bytes
  have hr := B.returns
  have hts := atoms_spec (ws := ws_ yX7_isFull cX7_isFull 1 (some .boolean)) B.pre
  have hta : ∀ w ∈ lw_all, w.before args s = true := fun w h => hts w (List.mem_cons_of_mem _ h)
  have hown : s.vm.findClass RX7 = some m.cls := findClass_of_methodNamed B.named
  have hlocks := B.notSynchronized
  have hC : Cx p s m args c cX7_isFull 1 RX7 E := ⟨hx, hb, hml, hown, hta, hK⟩
  obtain ⟨ls, he, hl⟩ := entry_ (m := m) (n := 1) hargs (Nat.le_of_ble_eq_true rfl)
  rw [he]
  have hl : lv_has ls 1 [(0, .ref (ad 0))] := hl
  show W p l e rmT_isFull s m args below meth c s.heap [] 0 0 (MQ below (qP (some .boolean) (some (.int r))) args s 0 0 (fun _ => False)) (F0 m 0 ls [])
  rw [fT_isFull] at hf
  refine lv_aload_n hx hb dX7_isFull_0 rfl (lv_at hl 0 rfl) ?_
  refine gX7_24 hC hP 0 rfl (v := .int q0_size) rfl dX7_isFull_1 ?_
  refine lv_aload_n hx hb dX7_isFull_4 rfl (lv_at hl 0 rfl) ?_
  refine gX7_9 hC hP 0 rfl (v := .ref (ad 1)) rfl dX7_isFull_5 ?_
  refine va_alen (v := 60) hx hb hK.1 hP 1 0 rfl rfl rfl dX7_isFull_8 ?_
  refine lv_icmp_lt (tgt := 16) hx hb dX7_isFull_9 (by decide) (fun c1 => ?_) (fun c1 => ?_)
  · have hf := ite_t hf c1
    refine lv_iconst (v := 0) hx hb dX7_isFull_16 (by decide) ?_
    exact e_Pz hC hr hlocks hf rfl dX7_isFull_17
  · have hf := ite_f hf c1
    refine lv_iconst (v := 1) hx hb dX7_isFull_12 (by decide) ?_
    refine lv_goto (tgt := 17) hx hb dX7_isFull_13 (by decide) ?_
    exact e_Pz hC hr hlocks hf rfl dX7_isFull_17
abbrev rmT_add : Room := { frames := 0, cells := 0, slots := 0, locals := 0 }
set_option maxHeartbeats 4000000 in
set_option maxRecDepth 100000 in
theorem cT_add (l : Launch) (E : eE) (ad : Nat → Nat) (q0_codes : (Nat → Int32)) (q0_size : Int32) (q0_kinds : (Nat → Int32)) (q0_firsts : (Nat → Int32)) (q0_seconds : (Nat → Int32)) (q0_orders : Int32) (q0_cursor : Int32) (q0_latestNumber : Int32) (a1 : Int32) (t : (Nat → Int32) × Int32) (hf : fT_add q0_codes q0_size a1 = some t) : cW l E yX7_add cX7_add 2 none rmT_add [.ref (ad 0), .int a1] (wT E ad q0_codes q0_size q0_kinds q0_firsts q0_seconds q0_orders q0_cursor q0_latestNumber) none (wT E ad t.1 t.2 q0_kinds q0_firsts q0_seconds q0_orders q0_cursor q0_latestNumber) := by
  refine Met.ofW (cc := cX7_add) (maxL := 2) (ret := none) (by decide) rfl ?_
  intro p e s m args below meth c s₁ B hml hv
  obtain ⟨hargs, hP, hK, hD0⟩ := hv
  have hx := B.exec
  have hb := B.bytes
  have hr := B.returns
  have hts := atoms_spec (ws := ws_ yX7_add cX7_add 2 none) B.pre
  have hta : ∀ w ∈ lw_all, w.before args s = true := fun w h => hts w (List.mem_cons_of_mem _ h)
  have hown : s.vm.findClass RX7 = some m.cls := findClass_of_methodNamed B.named
  have hlocks := B.notSynchronized
  have hC : Cx p s m args c cX7_add 2 RX7 E := ⟨hx, hb, hml, hown, hta, hK⟩
  have hH : Hp E (adr (wT E ad q0_codes q0_size q0_kinds q0_firsts q0_seconds q0_orders q0_cursor q0_latestNumber)) (wT E ad q0_codes q0_size q0_kinds q0_firsts q0_seconds q0_orders q0_cursor q0_latestNumber) s.heap s.heap [] := Hp.start hP hD0
  obtain ⟨ls, he, hl⟩ := entry_ (m := m) (n := 2) hargs (Nat.le_of_ble_eq_true rfl)
  rw [he]
  have hl : lv_has ls 2 [(0, .ref (ad 0)), (1, .int a1)] := hl
  show W p l e rmT_add s m args below meth c s.heap [] 0 0 (MQ below (qW E none none (wT E ad q0_codes q0_size q0_kinds q0_firsts q0_seconds q0_orders q0_cursor q0_latestNumber) (wT E ad t.1 t.2 q0_kinds q0_firsts q0_seconds q0_orders q0_cursor q0_latestNumber)) args s 0 0 (adr (wT E ad q0_codes q0_size q0_kinds q0_firsts q0_seconds q0_orders q0_cursor q0_latestNumber))) (F0 m 0 ls [])
  suffices hmain : ∀ (H : Heap) (locs : List Loc), Hp E (adr (wT E ad q0_codes q0_size q0_kinds q0_firsts q0_seconds q0_orders q0_cursor q0_latestNumber)) (wT E ad q0_codes q0_size q0_kinds q0_firsts q0_seconds q0_orders q0_cursor q0_latestNumber) s.heap H locs → W p l e rmT_add s m args below meth c H locs 0 0 (MQ below (qW E none none (wT E ad q0_codes q0_size q0_kinds q0_firsts q0_seconds q0_orders q0_cursor q0_latestNumber) (wT E ad t.1 t.2 q0_kinds q0_firsts q0_seconds q0_orders q0_cursor q0_latestNumber)) args s 0 0 (adr (wT E ad q0_codes q0_size q0_kinds q0_firsts q0_seconds q0_orders q0_cursor q0_latestNumber))) (F0 m 0 ls []) from hmain _ _ hH
  clear hH
  intro H locs hH
  rw [fT_add] at hf
  refine lv_aload_n hx hb dX7_add_0 rfl (lv_at hl 0 rfl) ?_
  refine gX7_24 hC hH.1 0 rfl (v := .int q0_size) rfl dX7_add_1 ?_
  refine lv_if_lt (tgt := 39) hx hb dX7_add_4 (by decide) (fun c1 => ?_) (fun c1 => ?_)
  · have hf := ite_t hf c1
    have hf := Option.some.inj hf
    subst hf
    exact e_Wv hC hH hr hlocks rfl dX7_add_39
  · have hf := ite_f hf c1
    refine lv_aload_n hx hb dX7_add_7 rfl (lv_at hl 0 rfl) ?_
    refine gX7_24 hC hH.1 0 rfl (v := .int q0_size) rfl dX7_add_8 ?_
    refine lv_aload_n hx hb dX7_add_11 rfl (lv_at hl 0 rfl) ?_
    refine gX7_9 hC hH.1 0 rfl (v := .ref (ad 1)) rfl dX7_add_12 ?_
    refine va_alen (v := 60) hx hb hK.1 hH.1 1 0 rfl rfl rfl dX7_add_15 ?_
    refine lv_icmp_ge (tgt := 39) hx hb dX7_add_16 (by decide) (fun c2 => ?_) (fun c2 => ?_)
    · have hf := ite_t hf c2
      have hf := Option.some.inj hf
      subst hf
      exact e_Wv hC hH hr hlocks rfl dX7_add_39
    · have hf := ite_f hf c2
      refine lv_aload_n hx hb dX7_add_19 rfl (lv_at hl 0 rfl) ?_
      refine gX7_9 hC hH.1 0 rfl (v := .ref (ad 1)) rfl dX7_add_20 ?_
      refine lv_aload_n hx hb dX7_add_23 rfl (lv_at hl 0 rfl) ?_
      refine gX7_24 hC hH.1 0 rfl (v := .int q0_size) rfl dX7_add_24 ?_
      refine lv_iload_n hx hb dX7_add_27 rfl (lv_at hl 1 rfl) ?_
      obtain ⟨g3, hg3, hf⟩ := ob hf
      obtain ⟨hg3a, hg3b⟩ := stA_ok hg3
      refine a_ist hC hH 1 rfl hg3a hg3b (W1 := wT E ad g3 q0_size q0_kinds q0_firsts q0_seconds q0_orders q0_cursor q0_latestNumber) rfl dX7_add_28 (fun H locs hH => ?_)
      refine lv_aload_n hx hb dX7_add_29 rfl (lv_at hl 0 rfl) ?_
      refine lv_dup hx hb dX7_add_30 rfl ?_
      refine gX7_24 hC hH.1 0 rfl (v := .int q0_size) rfl dX7_add_31 ?_
      refine lv_iconst (v := 1) hx hb dX7_add_34 (by decide) ?_
      refine lv_iadd hx hb dX7_add_35 ?_
      refine pX7_24 hC hH 0 rfl (v := .int (q0_size + (1 : Int32))) rfl rfl (Nat.le_of_ble_eq_true rfl) (W1 := wT E ad g3 (q0_size + (1 : Int32)) q0_kinds q0_firsts q0_seconds q0_orders q0_cursor q0_latestNumber) rfl dX7_add_36 (fun H locs hH => ?_)
      have hf := Option.some.inj hf
      subst hf
      exact e_Wv hC hH hr hlocks rfl dX7_add_39
abbrev rmT_empty : Room := { frames := 0, cells := 0, slots := 0, locals := 0 }
set_option maxHeartbeats 4000000 in
set_option maxRecDepth 100000 in
theorem cT_empty (l : Launch) (E : eE) (ad : Nat → Nat) (q0_codes : (Nat → Int32)) (q0_size : Int32) (q0_kinds : (Nat → Int32)) (q0_firsts : (Nat → Int32)) (q0_seconds : (Nat → Int32)) (q0_orders : Int32) (q0_cursor : Int32) (q0_latestNumber : Int32) (t : Int32) (hf : fT_empty q0_size = some t) : cW l E yX7_empty cX7_empty 1 none rmT_empty [.ref (ad 0)] (wT E ad q0_codes q0_size q0_kinds q0_firsts q0_seconds q0_orders q0_cursor q0_latestNumber) none (wT E ad q0_codes t q0_kinds q0_firsts q0_seconds q0_orders q0_cursor q0_latestNumber) := by
  refine Met.ofW (cc := cX7_empty) (maxL := 1) (ret := none) (by decide) rfl ?_
  intro p e s m args below meth c s₁ B hml hv
  obtain ⟨hargs, hP, hK, hD0⟩ := hv
  have hx := B.exec
  have hb := B.bytes
  have hr := B.returns
  have hts := atoms_spec (ws := ws_ yX7_empty cX7_empty 1 none) B.pre
  have hta : ∀ w ∈ lw_all, w.before args s = true := fun w h => hts w (List.mem_cons_of_mem _ h)
  have hown : s.vm.findClass RX7 = some m.cls := findClass_of_methodNamed B.named
  have hlocks := B.notSynchronized
  have hC : Cx p s m args c cX7_empty 1 RX7 E := ⟨hx, hb, hml, hown, hta, hK⟩
  have hH : Hp E (adr (wT E ad q0_codes q0_size q0_kinds q0_firsts q0_seconds q0_orders q0_cursor q0_latestNumber)) (wT E ad q0_codes q0_size q0_kinds q0_firsts q0_seconds q0_orders q0_cursor q0_latestNumber) s.heap s.heap [] := Hp.start hP hD0
  obtain ⟨ls, he, hl⟩ := entry_ (m := m) (n := 1) hargs (Nat.le_of_ble_eq_true rfl)
  rw [he]
  have hl : lv_has ls 1 [(0, .ref (ad 0))] := hl
  show W p l e rmT_empty s m args below meth c s.heap [] 0 0 (MQ below (qW E none none (wT E ad q0_codes q0_size q0_kinds q0_firsts q0_seconds q0_orders q0_cursor q0_latestNumber) (wT E ad q0_codes t q0_kinds q0_firsts q0_seconds q0_orders q0_cursor q0_latestNumber)) args s 0 0 (adr (wT E ad q0_codes q0_size q0_kinds q0_firsts q0_seconds q0_orders q0_cursor q0_latestNumber))) (F0 m 0 ls [])
  suffices hmain : ∀ (H : Heap) (locs : List Loc), Hp E (adr (wT E ad q0_codes q0_size q0_kinds q0_firsts q0_seconds q0_orders q0_cursor q0_latestNumber)) (wT E ad q0_codes q0_size q0_kinds q0_firsts q0_seconds q0_orders q0_cursor q0_latestNumber) s.heap H locs → W p l e rmT_empty s m args below meth c H locs 0 0 (MQ below (qW E none none (wT E ad q0_codes q0_size q0_kinds q0_firsts q0_seconds q0_orders q0_cursor q0_latestNumber) (wT E ad q0_codes t q0_kinds q0_firsts q0_seconds q0_orders q0_cursor q0_latestNumber)) args s 0 0 (adr (wT E ad q0_codes q0_size q0_kinds q0_firsts q0_seconds q0_orders q0_cursor q0_latestNumber))) (F0 m 0 ls []) from hmain _ _ hH
  clear hH
  intro H locs hH
  rw [fT_empty] at hf
  refine lv_aload_n hx hb dX7_empty_0 rfl (lv_at hl 0 rfl) ?_
  refine lv_iconst (v := 0) hx hb dX7_empty_1 (by decide) ?_
  refine pX7_24 hC hH 0 rfl (v := .int (0 : Int32)) rfl rfl (Nat.le_of_ble_eq_true rfl) (W1 := wT E ad q0_codes (0 : Int32) q0_kinds q0_firsts q0_seconds q0_orders q0_cursor q0_latestNumber) rfl dX7_empty_2 (fun H locs hH => ?_)
  have hf := Option.some.inj hf
  subst hf
  exact e_Wv hC hH hr hlocks rfl dX7_empty_5
abbrev rmT_orders : Room := { frames := 0, cells := 0, slots := 0, locals := 0 }
set_option maxHeartbeats 4000000 in
set_option maxRecDepth 100000 in
theorem cT_orders (l : Launch) (E : eE) (ad : Nat → Nat) (q0_codes : (Nat → Int32)) (q0_size : Int32) (q0_kinds : (Nat → Int32)) (q0_firsts : (Nat → Int32)) (q0_seconds : (Nat → Int32)) (q0_orders : Int32) (q0_cursor : Int32) (q0_latestNumber : Int32) (r : Int32) (hf : fT_orders q0_orders = r) : cP l E yX7_orders cX7_orders 1 (some .int) rmT_orders [.ref (ad 0)] (wT E ad q0_codes q0_size q0_kinds q0_firsts q0_seconds q0_orders q0_cursor q0_latestNumber) (some (.int r)) := by
  refine Met.ofW (cc := cX7_orders) (maxL := 1) (ret := (some .int)) (by decide) rfl ?_
  intro p e s m args below meth c s₁ B hml hv
  obtain ⟨hargs, hP, hK⟩ := hv
  have hx := B.exec
  have hb := B.bytes
  have hr := B.returns
  have hts := atoms_spec (ws := ws_ yX7_orders cX7_orders 1 (some .int)) B.pre
  have hta : ∀ w ∈ lw_all, w.before args s = true := fun w h => hts w (List.mem_cons_of_mem _ h)
  have hown : s.vm.findClass RX7 = some m.cls := findClass_of_methodNamed B.named
  have hlocks := B.notSynchronized
  have hC : Cx p s m args c cX7_orders 1 RX7 E := ⟨hx, hb, hml, hown, hta, hK⟩
  obtain ⟨ls, he, hl⟩ := entry_ (m := m) (n := 1) hargs (Nat.le_of_ble_eq_true rfl)
  rw [he]
  have hl : lv_has ls 1 [(0, .ref (ad 0))] := hl
  show W p l e rmT_orders s m args below meth c s.heap [] 0 0 (MQ below (qP (some .int) (some (.int r))) args s 0 0 (fun _ => False)) (F0 m 0 ls [])
  rw [fT_orders] at hf
  refine lv_aload_n hx hb dX7_orders_0 rfl (lv_at hl 0 rfl) ?_
  refine gX7_28 hC hP 0 rfl (v := .int q0_orders) rfl dX7_orders_1 ?_
  exact e_Pi hC hr hlocks hf dX7_orders_4
abbrev rmT_kindOf : Room := { frames := 0, cells := 0, slots := 0, locals := 0 }
set_option maxHeartbeats 4000000 in
set_option maxRecDepth 100000 in
theorem cT_kindOf (l : Launch) (E : eE) (ad : Nat → Nat) (q0_codes : (Nat → Int32)) (q0_size : Int32) (q0_kinds : (Nat → Int32)) (q0_firsts : (Nat → Int32)) (q0_seconds : (Nat → Int32)) (q0_orders : Int32) (q0_cursor : Int32) (q0_latestNumber : Int32) (a1 : Int32) (r : Int32) (hf : fT_kindOf q0_kinds q0_orders a1 = some r) : cP l E yX7_kindOf cX7_kindOf 2 (some .int) rmT_kindOf [.ref (ad 0), .int a1] (wT E ad q0_codes q0_size q0_kinds q0_firsts q0_seconds q0_orders q0_cursor q0_latestNumber) (some (.int r)) := by
  refine Met.ofW (cc := cX7_kindOf) (maxL := 2) (ret := (some .int)) (by decide) rfl ?_
  intro p e s m args below meth c s₁ B hml hv
  obtain ⟨hargs, hP, hK⟩ := hv
  have hx := B.exec
  have hb := B.bytes
  have hr := B.returns
  have hts := atoms_spec (ws := ws_ yX7_kindOf cX7_kindOf 2 (some .int)) B.pre
  have hta : ∀ w ∈ lw_all, w.before args s = true := fun w h => hts w (List.mem_cons_of_mem _ h)
  have hown : s.vm.findClass RX7 = some m.cls := findClass_of_methodNamed B.named
  have hlocks := B.notSynchronized
  have hC : Cx p s m args c cX7_kindOf 2 RX7 E := ⟨hx, hb, hml, hown, hta, hK⟩
  obtain ⟨ls, he, hl⟩ := entry_ (m := m) (n := 2) hargs (Nat.le_of_ble_eq_true rfl)
  rw [he]
  have hl : lv_has ls 2 [(0, .ref (ad 0)), (1, .int a1)] := hl
  show W p l e rmT_kindOf s m args below meth c s.heap [] 0 0 (MQ below (qP (some .int) (some (.int r))) args s 0 0 (fun _ => False)) (F0 m 0 ls [])
  rw [fT_kindOf] at hf
  refine lv_iload_n hx hb dX7_kindOf_0 rfl (lv_at hl 1 rfl) ?_
  refine lv_if_lt (tgt := 30) hx hb dX7_kindOf_1 (by decide) (fun c1 => ?_) (fun c1 => ?_)
  · have hf := ite_t hf c1
    refine lv_iconst (v := 0) hx hb dX7_kindOf_30 (by decide) ?_
    have hf := Option.some.inj hf
    exact e_Pi hC hr hlocks hf dX7_kindOf_31
  · have hf := ite_f hf c1
    refine lv_iload_n hx hb dX7_kindOf_4 rfl (lv_at hl 1 rfl) ?_
    refine lv_aload_n hx hb dX7_kindOf_5 rfl (lv_at hl 0 rfl) ?_
    refine gX7_28 hC hP 0 rfl (v := .int q0_orders) rfl dX7_kindOf_6 ?_
    refine lv_icmp_ge (tgt := 30) hx hb dX7_kindOf_9 (by decide) (fun c2 => ?_) (fun c2 => ?_)
    · have hf := ite_t hf c2
      refine lv_iconst (v := 0) hx hb dX7_kindOf_30 (by decide) ?_
      have hf := Option.some.inj hf
      exact e_Pi hC hr hlocks hf dX7_kindOf_31
    · have hf := ite_f hf c2
      refine lv_iload_n hx hb dX7_kindOf_12 rfl (lv_at hl 1 rfl) ?_
      refine lv_aload_n hx hb dX7_kindOf_13 rfl (lv_at hl 0 rfl) ?_
      refine gX7_15 hC hP 0 rfl (v := .ref (ad 2)) rfl dX7_kindOf_14 ?_
      refine va_alen (v := 10) hx hb hK.1 hP 2 0 rfl rfl rfl dX7_kindOf_17 ?_
      refine lv_icmp_ge (tgt := 30) hx hb dX7_kindOf_18 (by decide) (fun c3 => ?_) (fun c3 => ?_)
      · have hf := ite_t hf c3
        refine lv_iconst (v := 0) hx hb dX7_kindOf_30 (by decide) ?_
        have hf := Option.some.inj hf
        exact e_Pi hC hr hlocks hf dX7_kindOf_31
      · have hf := ite_f hf c3
        refine lv_aload_n hx hb dX7_kindOf_21 rfl (lv_at hl 0 rfl) ?_
        refine gX7_15 hC hP 0 rfl (v := .ref (ad 2)) rfl dX7_kindOf_22 ?_
        refine lv_iload_n hx hb dX7_kindOf_25 rfl (lv_at hl 1 rfl) ?_
        obtain ⟨v4, hv4, hf⟩ := ob hf
        obtain ⟨hv4a, hv4b⟩ := ldA_ok hv4
        refine a_ild hC hP 2 rfl hv4a hv4b dX7_kindOf_26 ?_
        refine lv_goto (tgt := 31) hx hb dX7_kindOf_27 (by decide) ?_
        have hf := Option.some.inj hf
        exact e_Pi hC hr hlocks hf dX7_kindOf_31
abbrev rmT_firstOf : Room := { frames := 0, cells := 0, slots := 0, locals := 0 }
set_option maxHeartbeats 4000000 in
set_option maxRecDepth 100000 in
theorem cT_firstOf (l : Launch) (E : eE) (ad : Nat → Nat) (q0_codes : (Nat → Int32)) (q0_size : Int32) (q0_kinds : (Nat → Int32)) (q0_firsts : (Nat → Int32)) (q0_seconds : (Nat → Int32)) (q0_orders : Int32) (q0_cursor : Int32) (q0_latestNumber : Int32) (a1 : Int32) (r : Int32) (hf : fT_firstOf q0_firsts q0_orders a1 = some r) : cP l E yX7_firstOf cX7_firstOf 2 (some .int) rmT_firstOf [.ref (ad 0), .int a1] (wT E ad q0_codes q0_size q0_kinds q0_firsts q0_seconds q0_orders q0_cursor q0_latestNumber) (some (.int r)) := by
  refine Met.ofW (cc := cX7_firstOf) (maxL := 2) (ret := (some .int)) (by decide) rfl ?_
  intro p e s m args below meth c s₁ B hml hv
  obtain ⟨hargs, hP, hK⟩ := hv
  have hx := B.exec
  have hb := B.bytes
  have hr := B.returns
  have hts := atoms_spec (ws := ws_ yX7_firstOf cX7_firstOf 2 (some .int)) B.pre
  have hta : ∀ w ∈ lw_all, w.before args s = true := fun w h => hts w (List.mem_cons_of_mem _ h)
  have hown : s.vm.findClass RX7 = some m.cls := findClass_of_methodNamed B.named
  have hlocks := B.notSynchronized
  have hC : Cx p s m args c cX7_firstOf 2 RX7 E := ⟨hx, hb, hml, hown, hta, hK⟩
  obtain ⟨ls, he, hl⟩ := entry_ (m := m) (n := 2) hargs (Nat.le_of_ble_eq_true rfl)
  rw [he]
  have hl : lv_has ls 2 [(0, .ref (ad 0)), (1, .int a1)] := hl
  show W p l e rmT_firstOf s m args below meth c s.heap [] 0 0 (MQ below (qP (some .int) (some (.int r))) args s 0 0 (fun _ => False)) (F0 m 0 ls [])
  rw [fT_firstOf] at hf
  refine lv_iload_n hx hb dX7_firstOf_0 rfl (lv_at hl 1 rfl) ?_
  refine lv_if_lt (tgt := 30) hx hb dX7_firstOf_1 (by decide) (fun c1 => ?_) (fun c1 => ?_)
  · have hf := ite_t hf c1
    refine lv_iconst (v := 0) hx hb dX7_firstOf_30 (by decide) ?_
    have hf := Option.some.inj hf
    exact e_Pi hC hr hlocks hf dX7_firstOf_31
  · have hf := ite_f hf c1
    refine lv_iload_n hx hb dX7_firstOf_4 rfl (lv_at hl 1 rfl) ?_
    refine lv_aload_n hx hb dX7_firstOf_5 rfl (lv_at hl 0 rfl) ?_
    refine gX7_28 hC hP 0 rfl (v := .int q0_orders) rfl dX7_firstOf_6 ?_
    refine lv_icmp_ge (tgt := 30) hx hb dX7_firstOf_9 (by decide) (fun c2 => ?_) (fun c2 => ?_)
    · have hf := ite_t hf c2
      refine lv_iconst (v := 0) hx hb dX7_firstOf_30 (by decide) ?_
      have hf := Option.some.inj hf
      exact e_Pi hC hr hlocks hf dX7_firstOf_31
    · have hf := ite_f hf c2
      refine lv_iload_n hx hb dX7_firstOf_12 rfl (lv_at hl 1 rfl) ?_
      refine lv_aload_n hx hb dX7_firstOf_13 rfl (lv_at hl 0 rfl) ?_
      refine gX7_18 hC hP 0 rfl (v := .ref (ad 3)) rfl dX7_firstOf_14 ?_
      refine va_alen (v := 10) hx hb hK.1 hP 3 0 rfl rfl rfl dX7_firstOf_17 ?_
      refine lv_icmp_ge (tgt := 30) hx hb dX7_firstOf_18 (by decide) (fun c3 => ?_) (fun c3 => ?_)
      · have hf := ite_t hf c3
        refine lv_iconst (v := 0) hx hb dX7_firstOf_30 (by decide) ?_
        have hf := Option.some.inj hf
        exact e_Pi hC hr hlocks hf dX7_firstOf_31
      · have hf := ite_f hf c3
        refine lv_aload_n hx hb dX7_firstOf_21 rfl (lv_at hl 0 rfl) ?_
        refine gX7_18 hC hP 0 rfl (v := .ref (ad 3)) rfl dX7_firstOf_22 ?_
        refine lv_iload_n hx hb dX7_firstOf_25 rfl (lv_at hl 1 rfl) ?_
        obtain ⟨v4, hv4, hf⟩ := ob hf
        obtain ⟨hv4a, hv4b⟩ := ldA_ok hv4
        refine a_ild hC hP 3 rfl hv4a hv4b dX7_firstOf_26 ?_
        refine lv_goto (tgt := 31) hx hb dX7_firstOf_27 (by decide) ?_
        have hf := Option.some.inj hf
        exact e_Pi hC hr hlocks hf dX7_firstOf_31
abbrev rmT_secondOf : Room := { frames := 0, cells := 0, slots := 0, locals := 0 }
set_option maxHeartbeats 4000000 in
set_option maxRecDepth 100000 in
theorem cT_secondOf (l : Launch) (E : eE) (ad : Nat → Nat) (q0_codes : (Nat → Int32)) (q0_size : Int32) (q0_kinds : (Nat → Int32)) (q0_firsts : (Nat → Int32)) (q0_seconds : (Nat → Int32)) (q0_orders : Int32) (q0_cursor : Int32) (q0_latestNumber : Int32) (a1 : Int32) (r : Int32) (hf : fT_secondOf q0_seconds q0_orders a1 = some r) : cP l E yX7_secondOf cX7_secondOf 2 (some .int) rmT_secondOf [.ref (ad 0), .int a1] (wT E ad q0_codes q0_size q0_kinds q0_firsts q0_seconds q0_orders q0_cursor q0_latestNumber) (some (.int r)) := by
  refine Met.ofW (cc := cX7_secondOf) (maxL := 2) (ret := (some .int)) (by decide) rfl ?_
  intro p e s m args below meth c s₁ B hml hv
  obtain ⟨hargs, hP, hK⟩ := hv
  have hx := B.exec
  have hb := B.bytes
  have hr := B.returns
  have hts := atoms_spec (ws := ws_ yX7_secondOf cX7_secondOf 2 (some .int)) B.pre
  have hta : ∀ w ∈ lw_all, w.before args s = true := fun w h => hts w (List.mem_cons_of_mem _ h)
  have hown : s.vm.findClass RX7 = some m.cls := findClass_of_methodNamed B.named
  have hlocks := B.notSynchronized
  have hC : Cx p s m args c cX7_secondOf 2 RX7 E := ⟨hx, hb, hml, hown, hta, hK⟩
  obtain ⟨ls, he, hl⟩ := entry_ (m := m) (n := 2) hargs (Nat.le_of_ble_eq_true rfl)
  rw [he]
  have hl : lv_has ls 2 [(0, .ref (ad 0)), (1, .int a1)] := hl
  show W p l e rmT_secondOf s m args below meth c s.heap [] 0 0 (MQ below (qP (some .int) (some (.int r))) args s 0 0 (fun _ => False)) (F0 m 0 ls [])
  rw [fT_secondOf] at hf
  refine lv_iload_n hx hb dX7_secondOf_0 rfl (lv_at hl 1 rfl) ?_
  refine lv_if_lt (tgt := 30) hx hb dX7_secondOf_1 (by decide) (fun c1 => ?_) (fun c1 => ?_)
  · have hf := ite_t hf c1
    refine lv_iconst (v := 0) hx hb dX7_secondOf_30 (by decide) ?_
    have hf := Option.some.inj hf
    exact e_Pi hC hr hlocks hf dX7_secondOf_31
  · have hf := ite_f hf c1
    refine lv_iload_n hx hb dX7_secondOf_4 rfl (lv_at hl 1 rfl) ?_
    refine lv_aload_n hx hb dX7_secondOf_5 rfl (lv_at hl 0 rfl) ?_
    refine gX7_28 hC hP 0 rfl (v := .int q0_orders) rfl dX7_secondOf_6 ?_
    refine lv_icmp_ge (tgt := 30) hx hb dX7_secondOf_9 (by decide) (fun c2 => ?_) (fun c2 => ?_)
    · have hf := ite_t hf c2
      refine lv_iconst (v := 0) hx hb dX7_secondOf_30 (by decide) ?_
      have hf := Option.some.inj hf
      exact e_Pi hC hr hlocks hf dX7_secondOf_31
    · have hf := ite_f hf c2
      refine lv_iload_n hx hb dX7_secondOf_12 rfl (lv_at hl 1 rfl) ?_
      refine lv_aload_n hx hb dX7_secondOf_13 rfl (lv_at hl 0 rfl) ?_
      refine gX7_21 hC hP 0 rfl (v := .ref (ad 4)) rfl dX7_secondOf_14 ?_
      refine va_alen (v := 10) hx hb hK.1 hP 4 0 rfl rfl rfl dX7_secondOf_17 ?_
      refine lv_icmp_ge (tgt := 30) hx hb dX7_secondOf_18 (by decide) (fun c3 => ?_) (fun c3 => ?_)
      · have hf := ite_t hf c3
        refine lv_iconst (v := 0) hx hb dX7_secondOf_30 (by decide) ?_
        have hf := Option.some.inj hf
        exact e_Pi hC hr hlocks hf dX7_secondOf_31
      · have hf := ite_f hf c3
        refine lv_aload_n hx hb dX7_secondOf_21 rfl (lv_at hl 0 rfl) ?_
        refine gX7_21 hC hP 0 rfl (v := .ref (ad 4)) rfl dX7_secondOf_22 ?_
        refine lv_iload_n hx hb dX7_secondOf_25 rfl (lv_at hl 1 rfl) ?_
        obtain ⟨v4, hv4, hf⟩ := ob hf
        obtain ⟨hv4a, hv4b⟩ := ldA_ok hv4
        refine a_ild hC hP 4 rfl hv4a hv4b dX7_secondOf_26 ?_
        refine lv_goto (tgt := 31) hx hb dX7_secondOf_27 (by decide) ?_
        have hf := Option.some.inj hf
        exact e_Pi hC hr hlocks hf dX7_secondOf_31
abbrev rmT_codeAt : Room := { frames := 0, cells := 0, slots := 0, locals := 0 }
set_option maxHeartbeats 4000000 in
set_option maxRecDepth 100000 in
theorem cT_codeAt (l : Launch) (E : eE) (ad : Nat → Nat) (q0_codes : (Nat → Int32)) (q0_size : Int32) (q0_kinds : (Nat → Int32)) (q0_firsts : (Nat → Int32)) (q0_seconds : (Nat → Int32)) (q0_orders : Int32) (q0_cursor : Int32) (q0_latestNumber : Int32) (a1 : Int32) (r : Int32) (hf : fT_codeAt q0_codes q0_size a1 = some r) : cP l E yX7_codeAt cX7_codeAt 2 (some .int) rmT_codeAt [.ref (ad 0), .int a1] (wT E ad q0_codes q0_size q0_kinds q0_firsts q0_seconds q0_orders q0_cursor q0_latestNumber) (some (.int r)) := by
  refine Met.ofW (cc := cX7_codeAt) (maxL := 2) (ret := (some .int)) (by decide) rfl ?_
  intro p e s m args below meth c s₁ B hml hv
  obtain ⟨hargs, hP, hK⟩ := hv
  have hx := B.exec
  have hb := B.bytes
  have hr := B.returns
  have hts := atoms_spec (ws := ws_ yX7_codeAt cX7_codeAt 2 (some .int)) B.pre
  have hta : ∀ w ∈ lw_all, w.before args s = true := fun w h => hts w (List.mem_cons_of_mem _ h)
  have hown : s.vm.findClass RX7 = some m.cls := findClass_of_methodNamed B.named
  have hlocks := B.notSynchronized
  have hC : Cx p s m args c cX7_codeAt 2 RX7 E := ⟨hx, hb, hml, hown, hta, hK⟩
  obtain ⟨ls, he, hl⟩ := entry_ (m := m) (n := 2) hargs (Nat.le_of_ble_eq_true rfl)
  rw [he]
  have hl : lv_has ls 2 [(0, .ref (ad 0)), (1, .int a1)] := hl
  show W p l e rmT_codeAt s m args below meth c s.heap [] 0 0 (MQ below (qP (some .int) (some (.int r))) args s 0 0 (fun _ => False)) (F0 m 0 ls [])
  rw [fT_codeAt] at hf
  refine lv_iload_n hx hb dX7_codeAt_0 rfl (lv_at hl 1 rfl) ?_
  refine lv_if_lt (tgt := 30) hx hb dX7_codeAt_1 (by decide) (fun c1 => ?_) (fun c1 => ?_)
  · have hf := ite_t hf c1
    refine lv_iconst (v := (-1)) hx hb dX7_codeAt_30 (by decide) ?_
    have hf := Option.some.inj hf
    exact e_Pi hC hr hlocks hf dX7_codeAt_31
  · have hf := ite_f hf c1
    refine lv_iload_n hx hb dX7_codeAt_4 rfl (lv_at hl 1 rfl) ?_
    refine lv_aload_n hx hb dX7_codeAt_5 rfl (lv_at hl 0 rfl) ?_
    refine gX7_24 hC hP 0 rfl (v := .int q0_size) rfl dX7_codeAt_6 ?_
    refine lv_icmp_ge (tgt := 30) hx hb dX7_codeAt_9 (by decide) (fun c2 => ?_) (fun c2 => ?_)
    · have hf := ite_t hf c2
      refine lv_iconst (v := (-1)) hx hb dX7_codeAt_30 (by decide) ?_
      have hf := Option.some.inj hf
      exact e_Pi hC hr hlocks hf dX7_codeAt_31
    · have hf := ite_f hf c2
      refine lv_iload_n hx hb dX7_codeAt_12 rfl (lv_at hl 1 rfl) ?_
      refine lv_aload_n hx hb dX7_codeAt_13 rfl (lv_at hl 0 rfl) ?_
      refine gX7_9 hC hP 0 rfl (v := .ref (ad 1)) rfl dX7_codeAt_14 ?_
      refine va_alen (v := 60) hx hb hK.1 hP 1 0 rfl rfl rfl dX7_codeAt_17 ?_
      refine lv_icmp_ge (tgt := 30) hx hb dX7_codeAt_18 (by decide) (fun c3 => ?_) (fun c3 => ?_)
      · have hf := ite_t hf c3
        refine lv_iconst (v := (-1)) hx hb dX7_codeAt_30 (by decide) ?_
        have hf := Option.some.inj hf
        exact e_Pi hC hr hlocks hf dX7_codeAt_31
      · have hf := ite_f hf c3
        refine lv_aload_n hx hb dX7_codeAt_21 rfl (lv_at hl 0 rfl) ?_
        refine gX7_9 hC hP 0 rfl (v := .ref (ad 1)) rfl dX7_codeAt_22 ?_
        refine lv_iload_n hx hb dX7_codeAt_25 rfl (lv_at hl 1 rfl) ?_
        obtain ⟨v4, hv4, hf⟩ := ob hf
        obtain ⟨hv4a, hv4b⟩ := ldA_ok hv4
        refine a_ild hC hP 1 rfl hv4a hv4b dX7_codeAt_26 ?_
        refine lv_goto (tgt := 31) hx hb dX7_codeAt_27 (by decide) ?_
        have hf := Option.some.inj hf
        exact e_Pi hC hr hlocks hf dX7_codeAt_31
abbrev rmT_readSign : Room := { frames := 1, cells := 0, slots := 0, locals := 21 }
set_option maxHeartbeats 4000000 in
set_option maxRecDepth 100000 in
theorem cT_readSign (l : Launch) (E : eE) (ad : Nat → Nat) (q0_codes : (Nat → Int32)) (q0_size : Int32) (q0_kinds : (Nat → Int32)) (q0_firsts : (Nat → Int32)) (q0_seconds : (Nat → Int32)) (q0_orders : Int32) (q0_cursor : Int32) (q0_latestNumber : Int32) (a1 : Int32) (t : Int32 × Int32) (hf : fT_readSign q0_codes q0_size q0_cursor a1 = some t) : cW l E yX7_readSign cX7_readSign 2 (some .boolean) rmT_readSign [.ref (ad 0), .int a1] (wT E ad q0_codes q0_size q0_kinds q0_firsts q0_seconds q0_orders q0_cursor q0_latestNumber) (some (.int t.1)) (wT E ad q0_codes q0_size q0_kinds q0_firsts q0_seconds q0_orders t.2 q0_latestNumber) := by
  refine Met.ofW (cc := cX7_readSign) (maxL := 2) (ret := (some .boolean)) (by decide) rfl ?_
  intro p e s m args below meth c s₁ B hml hv
  obtain ⟨hargs, hP, hK, hD0⟩ := hv
  have hx := B.exec
  have hb := B.bytes
  have hr := B.returns
  have hts := atoms_spec (ws := ws_ yX7_readSign cX7_readSign 2 (some .boolean)) B.pre
  have hta : ∀ w ∈ lw_all, w.before args s = true := fun w h => hts w (List.mem_cons_of_mem _ h)
  have hown : s.vm.findClass RX7 = some m.cls := findClass_of_methodNamed B.named
  have hlocks := B.notSynchronized
  have hC : Cx p s m args c cX7_readSign 2 RX7 E := ⟨hx, hb, hml, hown, hta, hK⟩
  have hH : Hp E (adr (wT E ad q0_codes q0_size q0_kinds q0_firsts q0_seconds q0_orders q0_cursor q0_latestNumber)) (wT E ad q0_codes q0_size q0_kinds q0_firsts q0_seconds q0_orders q0_cursor q0_latestNumber) s.heap s.heap [] := Hp.start hP hD0
  obtain ⟨ls, he, hl⟩ := entry_ (m := m) (n := 2) hargs (Nat.le_of_ble_eq_true rfl)
  rw [he]
  have hl : lv_has ls 2 [(0, .ref (ad 0)), (1, .int a1)] := hl
  show W p l e rmT_readSign s m args below meth c s.heap [] 0 0 (MQ below (qW E (some .boolean) (some (.int t.1)) (wT E ad q0_codes q0_size q0_kinds q0_firsts q0_seconds q0_orders q0_cursor q0_latestNumber) (wT E ad q0_codes q0_size q0_kinds q0_firsts q0_seconds q0_orders t.2 q0_latestNumber)) args s 0 0 (adr (wT E ad q0_codes q0_size q0_kinds q0_firsts q0_seconds q0_orders q0_cursor q0_latestNumber))) (F0 m 0 ls [])
  suffices hmain : ∀ (H : Heap) (locs : List Loc), Hp E (adr (wT E ad q0_codes q0_size q0_kinds q0_firsts q0_seconds q0_orders q0_cursor q0_latestNumber)) (wT E ad q0_codes q0_size q0_kinds q0_firsts q0_seconds q0_orders q0_cursor q0_latestNumber) s.heap H locs → W p l e rmT_readSign s m args below meth c H locs 0 0 (MQ below (qW E (some .boolean) (some (.int t.1)) (wT E ad q0_codes q0_size q0_kinds q0_firsts q0_seconds q0_orders q0_cursor q0_latestNumber) (wT E ad q0_codes q0_size q0_kinds q0_firsts q0_seconds q0_orders t.2 q0_latestNumber)) args s 0 0 (adr (wT E ad q0_codes q0_size q0_kinds q0_firsts q0_seconds q0_orders q0_cursor q0_latestNumber))) (F0 m 0 ls []) from hmain _ _ hH
  clear hH
  intro H locs hH
  rw [fT_readSign] at hf
  refine lv_aload_n hx hb dX7_readSign_0 rfl (lv_at hl 0 rfl) ?_
  refine lv_aload_n hx hb dX7_readSign_1 rfl (lv_at hl 0 rfl) ?_
  refine gX7_31 hC hH.1 0 rfl (v := .int q0_cursor) rfl dX7_readSign_2 ?_
  obtain ⟨t1, ht1, hf⟩ := ob hf
  refine k_PVi hC LX7_42 ⟨Nat.le_of_ble_eq_true rfl, Nat.le_of_ble_eq_true rfl⟩ ⟨Nat.zero_le _, Nat.zero_le _⟩ (cT_codeAt l E ad q0_codes q0_size q0_kinds q0_firsts q0_seconds q0_orders q0_cursor q0_latestNumber q0_cursor t1 ht1) rfl rfl hH.1 rfl rfl hl.1 rfl (Nat.le_of_ble_eq_true rfl) rfl dX7_readSign_5 (fun hz5 => ?_)
  refine lv_iload_n hx hb dX7_readSign_8 rfl (lv_at hl 1 rfl) ?_
  refine lv_icmp_eq (tgt := 14) hx hb dX7_readSign_9 (by decide) (fun c2 => ?_) (fun c2 => ?_)
  · have hf := ite_t hf c2
    refine lv_aload_n hx hb dX7_readSign_14 rfl (lv_at hl 0 rfl) ?_
    refine lv_dup hx hb dX7_readSign_15 rfl ?_
    refine gX7_31 hC hH.1 0 rfl (v := .int q0_cursor) rfl dX7_readSign_16 ?_
    refine lv_iconst (v := 1) hx hb dX7_readSign_19 (by decide) ?_
    refine lv_iadd hx hb dX7_readSign_20 ?_
    refine pX7_31 hC hH 0 rfl (v := .int (q0_cursor + (1 : Int32))) rfl rfl (Nat.le_of_ble_eq_true rfl) (W1 := wT E ad q0_codes q0_size q0_kinds q0_firsts q0_seconds q0_orders (q0_cursor + (1 : Int32)) q0_latestNumber) rfl dX7_readSign_21 (fun H locs hH => ?_)
    refine lv_iconst (v := 1) hx hb dX7_readSign_24 (by decide) ?_
    have hf := Option.some.inj hf
    subst hf
    exact e_Wz hC hH hr hlocks rfl rfl rfl dX7_readSign_25
  · have hf := ite_f hf c2
    refine lv_iconst (v := 0) hx hb dX7_readSign_12 (by decide) ?_
    have hf := Option.some.inj hf
    subst hf
    exact e_Wz hC hH hr hlocks rfl rfl rfl dX7_readSign_13
abbrev rmT_digitAt : Room := { frames := 1, cells := 0, slots := 0, locals := 21 }
set_option maxHeartbeats 4000000 in
set_option maxRecDepth 100000 in
theorem cT_digitAt (l : Launch) (E : eE) (ad : Nat → Nat) (q0_codes : (Nat → Int32)) (q0_size : Int32) (q0_kinds : (Nat → Int32)) (q0_firsts : (Nat → Int32)) (q0_seconds : (Nat → Int32)) (q0_orders : Int32) (q0_cursor : Int32) (q0_latestNumber : Int32) (a1 : Int32) (r : Int32) (hf : fT_digitAt q0_codes q0_size a1 = some r) : cP l E yX7_digitAt cX7_digitAt 3 (some .int) rmT_digitAt [.ref (ad 0), .int a1] (wT E ad q0_codes q0_size q0_kinds q0_firsts q0_seconds q0_orders q0_cursor q0_latestNumber) (some (.int r)) := by
  refine Met.ofW (cc := cX7_digitAt) (maxL := 3) (ret := (some .int)) (by decide) rfl ?_
  intro p e s m args below meth c s₁ B hml hv
  obtain ⟨hargs, hP, hK⟩ := hv
  have hx := B.exec
  have hb := B.bytes
  have hr := B.returns
  have hts := atoms_spec (ws := ws_ yX7_digitAt cX7_digitAt 3 (some .int)) B.pre
  have hta : ∀ w ∈ lw_all, w.before args s = true := fun w h => hts w (List.mem_cons_of_mem _ h)
  have hown : s.vm.findClass RX7 = some m.cls := findClass_of_methodNamed B.named
  have hlocks := B.notSynchronized
  have hC : Cx p s m args c cX7_digitAt 3 RX7 E := ⟨hx, hb, hml, hown, hta, hK⟩
  obtain ⟨ls, he, hl⟩ := entry_ (m := m) (n := 3) hargs (Nat.le_of_ble_eq_true rfl)
  rw [he]
  have hl : lv_has ls 3 [(0, .ref (ad 0)), (1, .int a1)] := hl
  show W p l e rmT_digitAt s m args below meth c s.heap [] 0 0 (MQ below (qP (some .int) (some (.int r))) args s 0 0 (fun _ => False)) (F0 m 0 ls [])
  rw [fT_digitAt] at hf
  refine lv_aload_n hx hb dX7_digitAt_0 rfl (lv_at hl 0 rfl) ?_
  refine lv_iload_n hx hb dX7_digitAt_1 rfl (lv_at hl 1 rfl) ?_
  obtain ⟨t1, ht1, hf⟩ := ob hf
  refine k_PVi hC LX7_42 ⟨Nat.le_of_ble_eq_true rfl, Nat.le_of_ble_eq_true rfl⟩ ⟨Nat.zero_le _, Nat.zero_le _⟩ (cT_codeAt l E ad q0_codes q0_size q0_kinds q0_firsts q0_seconds q0_orders q0_cursor q0_latestNumber a1 t1 ht1) rfl rfl hP rfl rfl hl.1 rfl (Nat.le_of_ble_eq_true rfl) rfl dX7_digitAt_2 (fun hz2 => ?_)
  refine lv_istore_n (lv' := [(2, .int t1), (0, .ref (ad 0)), (1, .int a1)]) hx hb dX7_digitAt_5 rfl hl (by decide) rfl (fun ls hl => ?_)
  refine lv_iload_n hx hb dX7_digitAt_6 rfl (lv_at hl 0 rfl) ?_
  refine lv_bipush (v := 48) hx hb dX7_digitAt_7 (by decide) ?_
  refine lv_icmp_lt (tgt := 25) hx hb dX7_digitAt_9 (by decide) (fun c2 => ?_) (fun c2 => ?_)
  · have hf := ite_t hf c2
    refine lv_iconst (v := (-1)) hx hb dX7_digitAt_25 (by decide) ?_
    have hf := Option.some.inj hf
    exact e_Pi hC hr hlocks hf dX7_digitAt_26
  · have hf := ite_f hf c2
    refine lv_iload_n hx hb dX7_digitAt_12 rfl (lv_at hl 0 rfl) ?_
    refine lv_bipush (v := 57) hx hb dX7_digitAt_13 (by decide) ?_
    refine lv_icmp_gt (tgt := 25) hx hb dX7_digitAt_15 (by decide) (fun c3 => ?_) (fun c3 => ?_)
    · have hf := ite_t hf c3
      refine lv_iconst (v := (-1)) hx hb dX7_digitAt_25 (by decide) ?_
      have hf := Option.some.inj hf
      exact e_Pi hC hr hlocks hf dX7_digitAt_26
    · have hf := ite_f hf c3
      refine lv_iload_n hx hb dX7_digitAt_18 rfl (lv_at hl 0 rfl) ?_
      refine lv_bipush (v := 48) hx hb dX7_digitAt_19 (by decide) ?_
      refine lv_isub hx hb dX7_digitAt_21 ?_
      refine lv_goto (tgt := 26) hx hb dX7_digitAt_22 (by decide) ?_
      have hf := Option.some.inj hf
      exact e_Pi hC hr hlocks hf dX7_digitAt_26
abbrev rmT_readNumber : Room := { frames := 2, cells := 0, slots := 0, locals := 43 }
set_option maxHeartbeats 4000000 in
set_option maxRecDepth 100000 in
theorem cT_readNumber (l : Launch) (E : eE) (ad : Nat → Nat) (q0_codes : (Nat → Int32)) (q0_size : Int32) (q0_kinds : (Nat → Int32)) (q0_firsts : (Nat → Int32)) (q0_seconds : (Nat → Int32)) (q0_orders : Int32) (q0_cursor : Int32) (q0_latestNumber : Int32) (t : Int32 × Int32 × Int32) (hf : fT_readNumber q0_codes q0_size q0_cursor q0_latestNumber = some t) : cW l E yX7_readNumber cX7_readNumber 2 (some .boolean) rmT_readNumber [.ref (ad 0)] (wT E ad q0_codes q0_size q0_kinds q0_firsts q0_seconds q0_orders q0_cursor q0_latestNumber) (some (.int t.1)) (wT E ad q0_codes q0_size q0_kinds q0_firsts q0_seconds q0_orders t.2.1 t.2.2) := by
  refine Met.ofW (cc := cX7_readNumber) (maxL := 2) (ret := (some .boolean)) (by decide) rfl ?_
  intro p e s m args below meth c s₁ B hml hv
  obtain ⟨hargs, hP, hK, hD0⟩ := hv
  have hx := B.exec
  have hb := B.bytes
  have hr := B.returns
  have hts := atoms_spec (ws := ws_ yX7_readNumber cX7_readNumber 2 (some .boolean)) B.pre
  have hta : ∀ w ∈ lw_all, w.before args s = true := fun w h => hts w (List.mem_cons_of_mem _ h)
  have hown : s.vm.findClass RX7 = some m.cls := findClass_of_methodNamed B.named
  have hlocks := B.notSynchronized
  have hC : Cx p s m args c cX7_readNumber 2 RX7 E := ⟨hx, hb, hml, hown, hta, hK⟩
  have hH : Hp E (adr (wT E ad q0_codes q0_size q0_kinds q0_firsts q0_seconds q0_orders q0_cursor q0_latestNumber)) (wT E ad q0_codes q0_size q0_kinds q0_firsts q0_seconds q0_orders q0_cursor q0_latestNumber) s.heap s.heap [] := Hp.start hP hD0
  obtain ⟨ls, he, hl⟩ := entry_ (m := m) (n := 2) hargs (Nat.le_of_ble_eq_true rfl)
  rw [he]
  have hl : lv_has ls 2 [(0, .ref (ad 0))] := hl
  show W p l e rmT_readNumber s m args below meth c s.heap [] 0 0 (MQ below (qW E (some .boolean) (some (.int t.1)) (wT E ad q0_codes q0_size q0_kinds q0_firsts q0_seconds q0_orders q0_cursor q0_latestNumber) (wT E ad q0_codes q0_size q0_kinds q0_firsts q0_seconds q0_orders t.2.1 t.2.2)) args s 0 0 (adr (wT E ad q0_codes q0_size q0_kinds q0_firsts q0_seconds q0_orders q0_cursor q0_latestNumber))) (F0 m 0 ls [])
  suffices hmain : ∀ (H : Heap) (locs : List Loc), Hp E (adr (wT E ad q0_codes q0_size q0_kinds q0_firsts q0_seconds q0_orders q0_cursor q0_latestNumber)) (wT E ad q0_codes q0_size q0_kinds q0_firsts q0_seconds q0_orders q0_cursor q0_latestNumber) s.heap H locs → W p l e rmT_readNumber s m args below meth c H locs 0 0 (MQ below (qW E (some .boolean) (some (.int t.1)) (wT E ad q0_codes q0_size q0_kinds q0_firsts q0_seconds q0_orders q0_cursor q0_latestNumber) (wT E ad q0_codes q0_size q0_kinds q0_firsts q0_seconds q0_orders t.2.1 t.2.2)) args s 0 0 (adr (wT E ad q0_codes q0_size q0_kinds q0_firsts q0_seconds q0_orders q0_cursor q0_latestNumber))) (F0 m 0 ls []) from hmain _ _ hH
  clear hH
  intro H locs hH
  rw [fT_readNumber] at hf
  refine lv_aload_n hx hb dX7_readNumber_0 rfl (lv_at hl 0 rfl) ?_
  refine lv_aload_n hx hb dX7_readNumber_1 rfl (lv_at hl 0 rfl) ?_
  refine gX7_31 hC hH.1 0 rfl (v := .int q0_cursor) rfl dX7_readNumber_2 ?_
  obtain ⟨t1, ht1, hf⟩ := ob hf
  refine k_PVi hC LX7_91 ⟨Nat.le_of_ble_eq_true rfl, Nat.le_of_ble_eq_true rfl⟩ ⟨Nat.zero_le _, Nat.zero_le _⟩ (cT_digitAt l E ad q0_codes q0_size q0_kinds q0_firsts q0_seconds q0_orders q0_cursor q0_latestNumber q0_cursor t1 ht1) rfl rfl hH.1 rfl rfl hl.1 rfl (Nat.le_of_ble_eq_true rfl) rfl dX7_readNumber_5 (fun hz5 => ?_)
  refine lv_istore_n (lv' := [(1, .int t1), (0, .ref (ad 0))]) hx hb dX7_readNumber_8 rfl hl (by decide) rfl (fun ls hl => ?_)
  refine lv_iload_n hx hb dX7_readNumber_9 rfl (lv_at hl 0 rfl) ?_
  refine lv_if_ge (tgt := 15) hx hb dX7_readNumber_10 (by decide) (fun c2 => ?_) (fun c2 => ?_)
  · have hf := ite_t hf c2
    refine lv_aload_n hx hb dX7_readNumber_15 rfl (lv_at hl 1 rfl) ?_
    refine lv_iload_n hx hb dX7_readNumber_16 rfl (lv_at hl 0 rfl) ?_
    refine pX7_57 hC hH 0 rfl (v := .int t1) rfl rfl (Nat.le_of_ble_eq_true rfl) (W1 := wT E ad q0_codes q0_size q0_kinds q0_firsts q0_seconds q0_orders q0_cursor t1) rfl dX7_readNumber_17 (fun H locs hH => ?_)
    refine lv_aload_n hx hb dX7_readNumber_20 rfl (lv_at hl 1 rfl) ?_
    refine lv_dup hx hb dX7_readNumber_21 rfl ?_
    refine gX7_31 hC hH.1 0 rfl (v := .int q0_cursor) rfl dX7_readNumber_22 ?_
    refine lv_iconst (v := 1) hx hb dX7_readNumber_25 (by decide) ?_
    refine lv_iadd hx hb dX7_readNumber_26 ?_
    refine pX7_31 hC hH 0 rfl (v := .int (q0_cursor + (1 : Int32))) rfl rfl (Nat.le_of_ble_eq_true rfl) (W1 := wT E ad q0_codes q0_size q0_kinds q0_firsts q0_seconds q0_orders (q0_cursor + (1 : Int32)) t1) rfl dX7_readNumber_27 (fun H locs hH => ?_)
    refine lv_aload_n hx hb dX7_readNumber_30 rfl (lv_at hl 1 rfl) ?_
    refine lv_aload_n hx hb dX7_readNumber_31 rfl (lv_at hl 1 rfl) ?_
    refine gX7_31 hC hH.1 0 rfl (v := .int (q0_cursor + (1 : Int32))) rfl dX7_readNumber_32 ?_
    obtain ⟨t3, ht3, hf⟩ := ob hf
    refine k_PVi hC LX7_91 ⟨Nat.le_of_ble_eq_true rfl, Nat.le_of_ble_eq_true rfl⟩ ⟨Nat.zero_le _, Nat.zero_le _⟩ (cT_digitAt l E ad q0_codes q0_size q0_kinds q0_firsts q0_seconds q0_orders (q0_cursor + (1 : Int32)) t1 (q0_cursor + (1 : Int32)) t3 ht3) rfl rfl hH.1 rfl rfl hl.1 rfl (Nat.le_of_ble_eq_true rfl) rfl dX7_readNumber_35 (fun hz35 => ?_)
    refine lv_istore_n (lv' := [(1, .int t3), (0, .ref (ad 0))]) hx hb dX7_readNumber_38 rfl hl (by decide) rfl (fun ls hl => ?_)
    refine lv_iload_n hx hb dX7_readNumber_39 rfl (lv_at hl 0 rfl) ?_
    refine lv_if_lt (tgt := 66) hx hb dX7_readNumber_40 (by decide) (fun c4 => ?_) (fun c4 => ?_)
    · have hf := ite_t hf c4
      refine lv_iconst (v := 1) hx hb dX7_readNumber_66 (by decide) ?_
      have hf := Option.some.inj hf
      subst hf
      exact e_Wz hC hH hr hlocks rfl rfl rfl dX7_readNumber_67
    · have hf := ite_f hf c4
      refine lv_aload_n hx hb dX7_readNumber_43 rfl (lv_at hl 1 rfl) ?_
      refine lv_aload_n hx hb dX7_readNumber_44 rfl (lv_at hl 1 rfl) ?_
      refine gX7_57 hC hH.1 0 rfl (v := .int t1) rfl dX7_readNumber_45 ?_
      refine lv_bipush (v := 10) hx hb dX7_readNumber_48 (by decide) ?_
      refine lv_imul hx hb dX7_readNumber_50 ?_
      refine lv_iload_n hx hb dX7_readNumber_51 rfl (lv_at hl 0 rfl) ?_
      refine lv_iadd hx hb dX7_readNumber_52 ?_
      refine pX7_57 hC hH 0 rfl (v := .int ((t1 * (10 : Int32)) + t3)) rfl rfl (Nat.le_of_ble_eq_true rfl) (W1 := wT E ad q0_codes q0_size q0_kinds q0_firsts q0_seconds q0_orders (q0_cursor + (1 : Int32)) ((t1 * (10 : Int32)) + t3)) rfl dX7_readNumber_53 (fun H locs hH => ?_)
      refine lv_aload_n hx hb dX7_readNumber_56 rfl (lv_at hl 1 rfl) ?_
      refine lv_dup hx hb dX7_readNumber_57 rfl ?_
      refine gX7_31 hC hH.1 0 rfl (v := .int (q0_cursor + (1 : Int32))) rfl dX7_readNumber_58 ?_
      refine lv_iconst (v := 1) hx hb dX7_readNumber_61 (by decide) ?_
      refine lv_iadd hx hb dX7_readNumber_62 ?_
      refine pX7_31 hC hH 0 rfl (v := .int ((q0_cursor + (1 : Int32)) + (1 : Int32))) rfl rfl (Nat.le_of_ble_eq_true rfl) (W1 := wT E ad q0_codes q0_size q0_kinds q0_firsts q0_seconds q0_orders ((q0_cursor + (1 : Int32)) + (1 : Int32)) ((t1 * (10 : Int32)) + t3)) rfl dX7_readNumber_63 (fun H locs hH => ?_)
      refine lv_iconst (v := 1) hx hb dX7_readNumber_66 (by decide) ?_
      have hf := Option.some.inj hf
      subst hf
      exact e_Wz hC hH hr hlocks rfl rfl rfl dX7_readNumber_67
  · have hf := ite_f hf c2
    refine lv_iconst (v := 0) hx hb dX7_readNumber_13 (by decide) ?_
    have hf := Option.some.inj hf
    subst hf
    exact e_Wz hC hH hr hlocks rfl rfl rfl dX7_readNumber_14
abbrev rmT_addOrder : Room := { frames := 0, cells := 0, slots := 0, locals := 0 }
set_option maxHeartbeats 4000000 in
set_option maxRecDepth 100000 in
theorem cT_addOrder (l : Launch) (E : eE) (ad : Nat → Nat) (q0_codes : (Nat → Int32)) (q0_size : Int32) (q0_kinds : (Nat → Int32)) (q0_firsts : (Nat → Int32)) (q0_seconds : (Nat → Int32)) (q0_orders : Int32) (q0_cursor : Int32) (q0_latestNumber : Int32) (a1 : Int32) (a2 : Int32) (a3 : Int32) (t : (Nat → Int32) × (Nat → Int32) × (Nat → Int32) × Int32) (hf : fT_addOrder q0_kinds q0_firsts q0_seconds q0_orders a1 a2 a3 = some t) : cW l E yX7_addOrder cX7_addOrder 4 none rmT_addOrder [.ref (ad 0), .int a1, .int a2, .int a3] (wT E ad q0_codes q0_size q0_kinds q0_firsts q0_seconds q0_orders q0_cursor q0_latestNumber) none (wT E ad q0_codes q0_size t.1 t.2.1 t.2.2.1 t.2.2.2 q0_cursor q0_latestNumber) := by
  refine Met.ofW (cc := cX7_addOrder) (maxL := 4) (ret := none) (by decide) rfl ?_
  intro p e s m args below meth c s₁ B hml hv
  obtain ⟨hargs, hP, hK, hD0⟩ := hv
  have hx := B.exec
  have hb := B.bytes
  have hr := B.returns
  have hts := atoms_spec (ws := ws_ yX7_addOrder cX7_addOrder 4 none) B.pre
  have hta : ∀ w ∈ lw_all, w.before args s = true := fun w h => hts w (List.mem_cons_of_mem _ h)
  have hown : s.vm.findClass RX7 = some m.cls := findClass_of_methodNamed B.named
  have hlocks := B.notSynchronized
  have hC : Cx p s m args c cX7_addOrder 4 RX7 E := ⟨hx, hb, hml, hown, hta, hK⟩
  have hH : Hp E (adr (wT E ad q0_codes q0_size q0_kinds q0_firsts q0_seconds q0_orders q0_cursor q0_latestNumber)) (wT E ad q0_codes q0_size q0_kinds q0_firsts q0_seconds q0_orders q0_cursor q0_latestNumber) s.heap s.heap [] := Hp.start hP hD0
  obtain ⟨ls, he, hl⟩ := entry_ (m := m) (n := 4) hargs (Nat.le_of_ble_eq_true rfl)
  rw [he]
  have hl : lv_has ls 4 [(0, .ref (ad 0)), (1, .int a1), (2, .int a2), (3, .int a3)] := hl
  show W p l e rmT_addOrder s m args below meth c s.heap [] 0 0 (MQ below (qW E none none (wT E ad q0_codes q0_size q0_kinds q0_firsts q0_seconds q0_orders q0_cursor q0_latestNumber) (wT E ad q0_codes q0_size t.1 t.2.1 t.2.2.1 t.2.2.2 q0_cursor q0_latestNumber)) args s 0 0 (adr (wT E ad q0_codes q0_size q0_kinds q0_firsts q0_seconds q0_orders q0_cursor q0_latestNumber))) (F0 m 0 ls [])
  suffices hmain : ∀ (H : Heap) (locs : List Loc), Hp E (adr (wT E ad q0_codes q0_size q0_kinds q0_firsts q0_seconds q0_orders q0_cursor q0_latestNumber)) (wT E ad q0_codes q0_size q0_kinds q0_firsts q0_seconds q0_orders q0_cursor q0_latestNumber) s.heap H locs → W p l e rmT_addOrder s m args below meth c H locs 0 0 (MQ below (qW E none none (wT E ad q0_codes q0_size q0_kinds q0_firsts q0_seconds q0_orders q0_cursor q0_latestNumber) (wT E ad q0_codes q0_size t.1 t.2.1 t.2.2.1 t.2.2.2 q0_cursor q0_latestNumber)) args s 0 0 (adr (wT E ad q0_codes q0_size q0_kinds q0_firsts q0_seconds q0_orders q0_cursor q0_latestNumber))) (F0 m 0 ls []) from hmain _ _ hH
  clear hH
  intro H locs hH
  rw [fT_addOrder] at hf
  refine lv_aload_n hx hb dX7_addOrder_0 rfl (lv_at hl 0 rfl) ?_
  refine gX7_28 hC hH.1 0 rfl (v := .int q0_orders) rfl dX7_addOrder_1 ?_
  refine lv_if_lt (tgt := 83) hx hb dX7_addOrder_4 (by decide) (fun c1 => ?_) (fun c1 => ?_)
  · have hf := ite_t hf c1
    have hf := Option.some.inj hf
    subst hf
    exact e_Wv hC hH hr hlocks rfl dX7_addOrder_83
  · have hf := ite_f hf c1
    refine lv_aload_n hx hb dX7_addOrder_7 rfl (lv_at hl 0 rfl) ?_
    refine gX7_28 hC hH.1 0 rfl (v := .int q0_orders) rfl dX7_addOrder_8 ?_
    refine lv_aload_n hx hb dX7_addOrder_11 rfl (lv_at hl 0 rfl) ?_
    refine gX7_15 hC hH.1 0 rfl (v := .ref (ad 2)) rfl dX7_addOrder_12 ?_
    refine va_alen (v := 10) hx hb hK.1 hH.1 2 0 rfl rfl rfl dX7_addOrder_15 ?_
    refine lv_icmp_ge (tgt := 83) hx hb dX7_addOrder_16 (by decide) (fun c2 => ?_) (fun c2 => ?_)
    · have hf := ite_t hf c2
      have hf := Option.some.inj hf
      subst hf
      exact e_Wv hC hH hr hlocks rfl dX7_addOrder_83
    · have hf := ite_f hf c2
      refine lv_aload_n hx hb dX7_addOrder_19 rfl (lv_at hl 0 rfl) ?_
      refine gX7_28 hC hH.1 0 rfl (v := .int q0_orders) rfl dX7_addOrder_20 ?_
      refine lv_aload_n hx hb dX7_addOrder_23 rfl (lv_at hl 0 rfl) ?_
      refine gX7_18 hC hH.1 0 rfl (v := .ref (ad 3)) rfl dX7_addOrder_24 ?_
      refine va_alen (v := 10) hx hb hK.1 hH.1 3 0 rfl rfl rfl dX7_addOrder_27 ?_
      refine lv_icmp_ge (tgt := 83) hx hb dX7_addOrder_28 (by decide) (fun c3 => ?_) (fun c3 => ?_)
      · have hf := ite_t hf c3
        have hf := Option.some.inj hf
        subst hf
        exact e_Wv hC hH hr hlocks rfl dX7_addOrder_83
      · have hf := ite_f hf c3
        refine lv_aload_n hx hb dX7_addOrder_31 rfl (lv_at hl 0 rfl) ?_
        refine gX7_28 hC hH.1 0 rfl (v := .int q0_orders) rfl dX7_addOrder_32 ?_
        refine lv_aload_n hx hb dX7_addOrder_35 rfl (lv_at hl 0 rfl) ?_
        refine gX7_21 hC hH.1 0 rfl (v := .ref (ad 4)) rfl dX7_addOrder_36 ?_
        refine va_alen (v := 10) hx hb hK.1 hH.1 4 0 rfl rfl rfl dX7_addOrder_39 ?_
        refine lv_icmp_ge (tgt := 83) hx hb dX7_addOrder_40 (by decide) (fun c4 => ?_) (fun c4 => ?_)
        · have hf := ite_t hf c4
          have hf := Option.some.inj hf
          subst hf
          exact e_Wv hC hH hr hlocks rfl dX7_addOrder_83
        · have hf := ite_f hf c4
          refine lv_aload_n hx hb dX7_addOrder_43 rfl (lv_at hl 0 rfl) ?_
          refine gX7_15 hC hH.1 0 rfl (v := .ref (ad 2)) rfl dX7_addOrder_44 ?_
          refine lv_aload_n hx hb dX7_addOrder_47 rfl (lv_at hl 0 rfl) ?_
          refine gX7_28 hC hH.1 0 rfl (v := .int q0_orders) rfl dX7_addOrder_48 ?_
          refine lv_iload_n hx hb dX7_addOrder_51 rfl (lv_at hl 1 rfl) ?_
          obtain ⟨g5, hg5, hf⟩ := ob hf
          obtain ⟨hg5a, hg5b⟩ := stA_ok hg5
          refine a_ist hC hH 2 rfl hg5a hg5b (W1 := wT E ad q0_codes q0_size g5 q0_firsts q0_seconds q0_orders q0_cursor q0_latestNumber) rfl dX7_addOrder_52 (fun H locs hH => ?_)
          refine lv_aload_n hx hb dX7_addOrder_53 rfl (lv_at hl 0 rfl) ?_
          refine gX7_18 hC hH.1 0 rfl (v := .ref (ad 3)) rfl dX7_addOrder_54 ?_
          refine lv_aload_n hx hb dX7_addOrder_57 rfl (lv_at hl 0 rfl) ?_
          refine gX7_28 hC hH.1 0 rfl (v := .int q0_orders) rfl dX7_addOrder_58 ?_
          refine lv_iload_n hx hb dX7_addOrder_61 rfl (lv_at hl 2 rfl) ?_
          obtain ⟨g6, hg6, hf⟩ := ob hf
          obtain ⟨hg6a, hg6b⟩ := stA_ok hg6
          refine a_ist hC hH 3 rfl hg6a hg6b (W1 := wT E ad q0_codes q0_size g5 g6 q0_seconds q0_orders q0_cursor q0_latestNumber) rfl dX7_addOrder_62 (fun H locs hH => ?_)
          refine lv_aload_n hx hb dX7_addOrder_63 rfl (lv_at hl 0 rfl) ?_
          refine gX7_21 hC hH.1 0 rfl (v := .ref (ad 4)) rfl dX7_addOrder_64 ?_
          refine lv_aload_n hx hb dX7_addOrder_67 rfl (lv_at hl 0 rfl) ?_
          refine gX7_28 hC hH.1 0 rfl (v := .int q0_orders) rfl dX7_addOrder_68 ?_
          refine lv_iload_n hx hb dX7_addOrder_71 rfl (lv_at hl 3 rfl) ?_
          obtain ⟨g7, hg7, hf⟩ := ob hf
          obtain ⟨hg7a, hg7b⟩ := stA_ok hg7
          refine a_ist hC hH 4 rfl hg7a hg7b (W1 := wT E ad q0_codes q0_size g5 g6 g7 q0_orders q0_cursor q0_latestNumber) rfl dX7_addOrder_72 (fun H locs hH => ?_)
          refine lv_aload_n hx hb dX7_addOrder_73 rfl (lv_at hl 0 rfl) ?_
          refine lv_dup hx hb dX7_addOrder_74 rfl ?_
          refine gX7_28 hC hH.1 0 rfl (v := .int q0_orders) rfl dX7_addOrder_75 ?_
          refine lv_iconst (v := 1) hx hb dX7_addOrder_78 (by decide) ?_
          refine lv_iadd hx hb dX7_addOrder_79 ?_
          refine pX7_28 hC hH 0 rfl (v := .int (q0_orders + (1 : Int32))) rfl rfl (Nat.le_of_ble_eq_true rfl) (W1 := wT E ad q0_codes q0_size g5 g6 g7 (q0_orders + (1 : Int32)) q0_cursor q0_latestNumber) rfl dX7_addOrder_80 (fun H locs hH => ?_)
          have hf := Option.some.inj hf
          subst hf
          exact e_Wv hC hH hr hlocks rfl dX7_addOrder_83
