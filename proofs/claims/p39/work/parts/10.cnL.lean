abbrev rmL_size : Room := { frames := 0, cells := 0, slots := 0, locals := 0 }
set_option maxHeartbeats 4000000 in
set_option maxRecDepth 100000 in
theorem cL_size (l : Launch) (E : eE) (ad : Nat → Nat) (q0_weights : (Nat → Int32)) (q0_size : Int32) (q0_marks : Int64) (q0_came : Int32) (q0_left : Int32) (q0_swaps : Int32) (r : Int32) (hf : fL_size q0_size = r) : cP l E yX1_size cX1_size 1 (some .int) rmL_size [.ref (ad 0)] (wL E ad q0_weights q0_size q0_marks q0_came q0_left q0_swaps) (some (.int r)) := by
  refine Met.ofW (cc := cX1_size) (maxL := 1) (ret := (some .int)) (by decide) rfl ?_
  intro p e s m args below meth c s₁ B hml hv
  obtain ⟨hargs, hP, hK⟩ := hv
  have hx := B.exec
  have hb := B.bytes
  have hr := B.returns
  have hts := atoms_spec (ws := ws_ yX1_size cX1_size 1 (some .int)) B.pre
  have hta : ∀ w ∈ lw_all, w.before args s = true := fun w h => hts w (List.mem_cons_of_mem _ h)
  have hown : s.vm.findClass RX1 = some m.cls := findClass_of_methodNamed B.named
  have hlocks := B.notSynchronized
  have hC : Cx p s m args c cX1_size 1 RX1 E := ⟨hx, hb, hml, hown, hta, hK⟩
  obtain ⟨ls, he, hl⟩ := entry_ (m := m) (n := 1) hargs (Nat.le_of_ble_eq_true rfl)
  rw [he]
  have hl : lv_has ls 1 [(0, .ref (ad 0))] := hl
  show W p l e rmL_size s m args below meth c s.heap [] 0 0 (MQ below (qP (some .int) (some (.int r))) args s 0 0 (fun _ => False)) (F0 m 0 ls [])
  rw [fL_size] at hf
  refine lv_aload_n hx hb dX1_size_0 rfl (lv_at hl 0 rfl) ?_
  refine gX1_15 hC hP 0 rfl (v := .int q0_size) rfl dX1_size_1 ?_
  exact e_Pi hC hr hlocks hf dX1_size_4
abbrev rmL_isMarkedAt : Room := { frames := 1, cells := 0, slots := 0, locals := 20 }
set_option maxHeartbeats 4000000 in
set_option maxRecDepth 100000 in
theorem cL_isMarkedAt (l : Launch) (E : eE) (ad : Nat → Nat) (q0_weights : (Nat → Int32)) (q0_size : Int32) (q0_marks : Int64) (q0_came : Int32) (q0_left : Int32) (q0_swaps : Int32) (a1 : Int32) (r : Int32) (hf : fL_isMarkedAt q0_marks a1 = r) : cP l E yX1_isMarkedAt cX1_isMarkedAt 2 (some .boolean) rmL_isMarkedAt [.ref (ad 0), .int a1] (wL E ad q0_weights q0_size q0_marks q0_came q0_left q0_swaps) (some (.int r)) := by
  refine Met.ofW (cc := cX1_isMarkedAt) (maxL := 2) (ret := (some .boolean)) (by decide) rfl ?_
  intro p e s m args below meth c s₁ B hml hv
  obtain ⟨hargs, hP, hK⟩ := hv
  have hx := B.exec
  have hb := B.bytes
  have hr := B.returns
  have hts := atoms_spec (ws := ws_ yX1_isMarkedAt cX1_isMarkedAt 2 (some .boolean)) B.pre
  have hta : ∀ w ∈ lw_all, w.before args s = true := fun w h => hts w (List.mem_cons_of_mem _ h)
  have hown : s.vm.findClass RX1 = some m.cls := findClass_of_methodNamed B.named
  have hlocks := B.notSynchronized
  have hC : Cx p s m args c cX1_isMarkedAt 2 RX1 E := ⟨hx, hb, hml, hown, hta, hK⟩
  obtain ⟨ls, he, hl⟩ := entry_ (m := m) (n := 2) hargs (Nat.le_of_ble_eq_true rfl)
  rw [he]
  have hl : lv_has ls 2 [(0, .ref (ad 0)), (1, .int a1)] := hl
  show W p l e rmL_isMarkedAt s m args below meth c s.heap [] 0 0 (MQ below (qP (some .boolean) (some (.int r))) args s 0 0 (fun _ => False)) (F0 m 0 ls [])
  rw [fL_isMarkedAt] at hf
  refine lv_iload_n hx hb dX1_isMarkedAt_0 rfl (lv_at hl 1 rfl) ?_
  refine k_PSNi hC LX1_38 ⟨Nat.le_of_ble_eq_true rfl, Nat.le_of_ble_eq_true rfl⟩ ⟨Nat.zero_le _, Nat.zero_le _⟩ (cS_isMarkPlace l E a1 _ rfl) rfl rfl (vP_nil) hl.1 rfl (Nat.le_of_ble_eq_true rfl) rfl dX1_isMarkedAt_1 (fun hz1 => ?_)
  refine lv_if_eq (tgt := 24) hx hb dX1_isMarkedAt_4 (by decide) (fun c1 => ?_) (fun c1 => ?_)
  · have hf := ite_t hf c1
    refine lv_iconst (v := 0) hx hb dX1_isMarkedAt_24 (by decide) ?_
    exact e_Pz hC hr hlocks hf rfl dX1_isMarkedAt_25
  · have hf := ite_f hf c1
    refine lv_aload_n hx hb dX1_isMarkedAt_7 rfl (lv_at hl 0 rfl) ?_
    refine gX1_28 hC hP 0 rfl (v := .long q0_marks) rfl dX1_isMarkedAt_8 ?_
    refine lv_iload_n hx hb dX1_isMarkedAt_11 rfl (lv_at hl 1 rfl) ?_
    refine lv_lushr hx hb dX1_isMarkedAt_12 rfl ?_
    refine lv_lconst (v := 1) hx hb dX1_isMarkedAt_13 (by decide) ?_
    refine lv_land hx hb dX1_isMarkedAt_14 ?_
    refine lv_lconst (v := 1) hx hb dX1_isMarkedAt_15 (by decide) ?_
    refine W.lcmp hx hb dX1_isMarkedAt_16 ?_
    refine lv_if_ne (tgt := 24) hx hb dX1_isMarkedAt_17 (by decide) (fun c2 => ?_) (fun c2 => ?_)
    · have hf := ite_f hf c2
      refine lv_iconst (v := 0) hx hb dX1_isMarkedAt_24 (by decide) ?_
      exact e_Pz hC hr hlocks hf rfl dX1_isMarkedAt_25
    · have hf := ite_t hf c2
      refine lv_iconst (v := 1) hx hb dX1_isMarkedAt_20 (by decide) ?_
      refine lv_goto (tgt := 25) hx hb dX1_isMarkedAt_21 (by decide) ?_
      exact e_Pz hC hr hlocks hf rfl dX1_isMarkedAt_25
abbrev rmL_at : Room := { frames := 0, cells := 0, slots := 0, locals := 0 }
set_option maxHeartbeats 4000000 in
set_option maxRecDepth 100000 in
theorem cL_at (l : Launch) (E : eE) (ad : Nat → Nat) (q0_weights : (Nat → Int32)) (q0_size : Int32) (q0_marks : Int64) (q0_came : Int32) (q0_left : Int32) (q0_swaps : Int32) (a1 : Int32) (r : Int32) (hf : fL_at q0_weights a1 = some r) : cP l E yX1_at cX1_at 2 (some .int) rmL_at [.ref (ad 0), .int a1] (wL E ad q0_weights q0_size q0_marks q0_came q0_left q0_swaps) (some (.int r)) := by
  refine Met.ofW (cc := cX1_at) (maxL := 2) (ret := (some .int)) (by decide) rfl ?_
  intro p e s m args below meth c s₁ B hml hv
  obtain ⟨hargs, hP, hK⟩ := hv
  have hx := B.exec
  have hb := B.bytes
  have hr := B.returns
  have hts := atoms_spec (ws := ws_ yX1_at cX1_at 2 (some .int)) B.pre
  have hta : ∀ w ∈ lw_all, w.before args s = true := fun w h => hts w (List.mem_cons_of_mem _ h)
  have hown : s.vm.findClass RX1 = some m.cls := findClass_of_methodNamed B.named
  have hlocks := B.notSynchronized
  have hC : Cx p s m args c cX1_at 2 RX1 E := ⟨hx, hb, hml, hown, hta, hK⟩
  obtain ⟨ls, he, hl⟩ := entry_ (m := m) (n := 2) hargs (Nat.le_of_ble_eq_true rfl)
  rw [he]
  have hl : lv_has ls 2 [(0, .ref (ad 0)), (1, .int a1)] := hl
  show W p l e rmL_at s m args below meth c s.heap [] 0 0 (MQ below (qP (some .int) (some (.int r))) args s 0 0 (fun _ => False)) (F0 m 0 ls [])
  rw [fL_at] at hf
  refine lv_iload_n hx hb dX1_at_0 rfl (lv_at hl 1 rfl) ?_
  refine lv_if_lt (tgt := 22) hx hb dX1_at_1 (by decide) (fun c1 => ?_) (fun c1 => ?_)
  · have hf := ite_t hf c1
    refine lv_iconst (v := 0) hx hb dX1_at_22 (by decide) ?_
    have hf := Option.some.inj hf
    exact e_Pi hC hr hlocks hf dX1_at_23
  · have hf := ite_f hf c1
    refine lv_iload_n hx hb dX1_at_4 rfl (lv_at hl 1 rfl) ?_
    refine lv_aload_n hx hb dX1_at_5 rfl (lv_at hl 0 rfl) ?_
    refine gX1_9 hC hP 0 rfl (v := .ref (ad 1)) rfl dX1_at_6 ?_
    refine va_alen (v := 64) hx hb hK.1 hP 1 0 rfl rfl rfl dX1_at_9 ?_
    refine lv_icmp_ge (tgt := 22) hx hb dX1_at_10 (by decide) (fun c2 => ?_) (fun c2 => ?_)
    · have hf := ite_t hf c2
      refine lv_iconst (v := 0) hx hb dX1_at_22 (by decide) ?_
      have hf := Option.some.inj hf
      exact e_Pi hC hr hlocks hf dX1_at_23
    · have hf := ite_f hf c2
      refine lv_aload_n hx hb dX1_at_13 rfl (lv_at hl 0 rfl) ?_
      refine gX1_9 hC hP 0 rfl (v := .ref (ad 1)) rfl dX1_at_14 ?_
      refine lv_iload_n hx hb dX1_at_17 rfl (lv_at hl 1 rfl) ?_
      obtain ⟨v3, hv3, hf⟩ := ob hf
      obtain ⟨hv3a, hv3b⟩ := ldA_ok hv3
      refine a_ild hC hP 1 rfl hv3a hv3b dX1_at_18 ?_
      refine lv_goto (tgt := 23) hx hb dX1_at_19 (by decide) ?_
      have hf := Option.some.inj hf
      exact e_Pi hC hr hlocks hf dX1_at_23
abbrev rmL_came : Room := { frames := 0, cells := 0, slots := 0, locals := 0 }
set_option maxHeartbeats 4000000 in
set_option maxRecDepth 100000 in
theorem cL_came (l : Launch) (E : eE) (ad : Nat → Nat) (q0_weights : (Nat → Int32)) (q0_size : Int32) (q0_marks : Int64) (q0_came : Int32) (q0_left : Int32) (q0_swaps : Int32) (r : Int32) (hf : fL_came q0_came = r) : cP l E yX1_came cX1_came 1 (some .int) rmL_came [.ref (ad 0)] (wL E ad q0_weights q0_size q0_marks q0_came q0_left q0_swaps) (some (.int r)) := by
  refine Met.ofW (cc := cX1_came) (maxL := 1) (ret := (some .int)) (by decide) rfl ?_
  intro p e s m args below meth c s₁ B hml hv
  obtain ⟨hargs, hP, hK⟩ := hv
  have hx := B.exec
  have hb := B.bytes
  have hr := B.returns
  have hts := atoms_spec (ws := ws_ yX1_came cX1_came 1 (some .int)) B.pre
  have hta : ∀ w ∈ lw_all, w.before args s = true := fun w h => hts w (List.mem_cons_of_mem _ h)
  have hown : s.vm.findClass RX1 = some m.cls := findClass_of_methodNamed B.named
  have hlocks := B.notSynchronized
  have hC : Cx p s m args c cX1_came 1 RX1 E := ⟨hx, hb, hml, hown, hta, hK⟩
  obtain ⟨ls, he, hl⟩ := entry_ (m := m) (n := 1) hargs (Nat.le_of_ble_eq_true rfl)
  rw [he]
  have hl : lv_has ls 1 [(0, .ref (ad 0))] := hl
  show W p l e rmL_came s m args below meth c s.heap [] 0 0 (MQ below (qP (some .int) (some (.int r))) args s 0 0 (fun _ => False)) (F0 m 0 ls [])
  rw [fL_came] at hf
  refine lv_aload_n hx hb dX1_came_0 rfl (lv_at hl 0 rfl) ?_
  refine gX1_19 hC hP 0 rfl (v := .int q0_came) rfl dX1_came_1 ?_
  exact e_Pi hC hr hlocks hf dX1_came_4
abbrev rmL_left : Room := { frames := 0, cells := 0, slots := 0, locals := 0 }
set_option maxHeartbeats 4000000 in
set_option maxRecDepth 100000 in
theorem cL_left (l : Launch) (E : eE) (ad : Nat → Nat) (q0_weights : (Nat → Int32)) (q0_size : Int32) (q0_marks : Int64) (q0_came : Int32) (q0_left : Int32) (q0_swaps : Int32) (r : Int32) (hf : fL_left q0_left = r) : cP l E yX1_left cX1_left 1 (some .int) rmL_left [.ref (ad 0)] (wL E ad q0_weights q0_size q0_marks q0_came q0_left q0_swaps) (some (.int r)) := by
  refine Met.ofW (cc := cX1_left) (maxL := 1) (ret := (some .int)) (by decide) rfl ?_
  intro p e s m args below meth c s₁ B hml hv
  obtain ⟨hargs, hP, hK⟩ := hv
  have hx := B.exec
  have hb := B.bytes
  have hr := B.returns
  have hts := atoms_spec (ws := ws_ yX1_left cX1_left 1 (some .int)) B.pre
  have hta : ∀ w ∈ lw_all, w.before args s = true := fun w h => hts w (List.mem_cons_of_mem _ h)
  have hown : s.vm.findClass RX1 = some m.cls := findClass_of_methodNamed B.named
  have hlocks := B.notSynchronized
  have hC : Cx p s m args c cX1_left 1 RX1 E := ⟨hx, hb, hml, hown, hta, hK⟩
  obtain ⟨ls, he, hl⟩ := entry_ (m := m) (n := 1) hargs (Nat.le_of_ble_eq_true rfl)
  rw [he]
  have hl : lv_has ls 1 [(0, .ref (ad 0))] := hl
  show W p l e rmL_left s m args below meth c s.heap [] 0 0 (MQ below (qP (some .int) (some (.int r))) args s 0 0 (fun _ => False)) (F0 m 0 ls [])
  rw [fL_left] at hf
  refine lv_aload_n hx hb dX1_left_0 rfl (lv_at hl 0 rfl) ?_
  refine gX1_22 hC hP 0 rfl (v := .int q0_left) rfl dX1_left_1 ?_
  exact e_Pi hC hr hlocks hf dX1_left_4
abbrev rmL_swaps : Room := { frames := 0, cells := 0, slots := 0, locals := 0 }
set_option maxHeartbeats 4000000 in
set_option maxRecDepth 100000 in
theorem cL_swaps (l : Launch) (E : eE) (ad : Nat → Nat) (q0_weights : (Nat → Int32)) (q0_size : Int32) (q0_marks : Int64) (q0_came : Int32) (q0_left : Int32) (q0_swaps : Int32) (r : Int32) (hf : fL_swaps q0_swaps = r) : cP l E yX1_swaps cX1_swaps 1 (some .int) rmL_swaps [.ref (ad 0)] (wL E ad q0_weights q0_size q0_marks q0_came q0_left q0_swaps) (some (.int r)) := by
  refine Met.ofW (cc := cX1_swaps) (maxL := 1) (ret := (some .int)) (by decide) rfl ?_
  intro p e s m args below meth c s₁ B hml hv
  obtain ⟨hargs, hP, hK⟩ := hv
  have hx := B.exec
  have hb := B.bytes
  have hr := B.returns
  have hts := atoms_spec (ws := ws_ yX1_swaps cX1_swaps 1 (some .int)) B.pre
  have hta : ∀ w ∈ lw_all, w.before args s = true := fun w h => hts w (List.mem_cons_of_mem _ h)
  have hown : s.vm.findClass RX1 = some m.cls := findClass_of_methodNamed B.named
  have hlocks := B.notSynchronized
  have hC : Cx p s m args c cX1_swaps 1 RX1 E := ⟨hx, hb, hml, hown, hta, hK⟩
  obtain ⟨ls, he, hl⟩ := entry_ (m := m) (n := 1) hargs (Nat.le_of_ble_eq_true rfl)
  rw [he]
  have hl : lv_has ls 1 [(0, .ref (ad 0))] := hl
  show W p l e rmL_swaps s m args below meth c s.heap [] 0 0 (MQ below (qP (some .int) (some (.int r))) args s 0 0 (fun _ => False)) (F0 m 0 ls [])
  rw [fL_swaps] at hf
  refine lv_aload_n hx hb dX1_swaps_0 rfl (lv_at hl 0 rfl) ?_
  refine gX1_25 hC hP 0 rfl (v := .int q0_swaps) rfl dX1_swaps_1 ?_
  exact e_Pi hC hr hlocks hf dX1_swaps_4
abbrev rmL_marked : Room := { frames := 1, cells := 0, slots := 0, locals := 21 }
set_option maxHeartbeats 4000000 in
set_option maxRecDepth 100000 in
theorem cL_marked (l : Launch) (E : eE) (ad : Nat → Nat) (q0_weights : (Nat → Int32)) (q0_size : Int32) (q0_marks : Int64) (q0_came : Int32) (q0_left : Int32) (q0_swaps : Int32) (r : Int32) (hf : fL_marked q0_marks = r) : cP l E yX1_marked cX1_marked 1 (some .int) rmL_marked [.ref (ad 0)] (wL E ad q0_weights q0_size q0_marks q0_came q0_left q0_swaps) (some (.int r)) := by
  refine Met.ofW (cc := cX1_marked) (maxL := 1) (ret := (some .int)) (by decide) rfl ?_
  intro p e s m args below meth c s₁ B hml hv
  obtain ⟨hargs, hP, hK⟩ := hv
  have hx := B.exec
  have hb := B.bytes
  have hr := B.returns
  have hts := atoms_spec (ws := ws_ yX1_marked cX1_marked 1 (some .int)) B.pre
  have hta : ∀ w ∈ lw_all, w.before args s = true := fun w h => hts w (List.mem_cons_of_mem _ h)
  have hown : s.vm.findClass RX1 = some m.cls := findClass_of_methodNamed B.named
  have hlocks := B.notSynchronized
  have hC : Cx p s m args c cX1_marked 1 RX1 E := ⟨hx, hb, hml, hown, hta, hK⟩
  obtain ⟨ls, he, hl⟩ := entry_ (m := m) (n := 1) hargs (Nat.le_of_ble_eq_true rfl)
  rw [he]
  have hl : lv_has ls 1 [(0, .ref (ad 0))] := hl
  show W p l e rmL_marked s m args below meth c s.heap [] 0 0 (MQ below (qP (some .int) (some (.int r))) args s 0 0 (fun _ => False)) (F0 m 0 ls [])
  rw [fL_marked] at hf
  refine lv_aload_n hx hb dX1_marked_0 rfl (lv_at hl 0 rfl) ?_
  refine gX1_28 hC hP 0 rfl (v := .long q0_marks) rfl dX1_marked_1 ?_
  refine k_PSi hC LX1_32 ⟨Nat.le_of_ble_eq_true rfl, Nat.le_of_ble_eq_true rfl⟩ ⟨Nat.zero_le _, Nat.zero_le _⟩ (cJ_bitCount l E q0_marks _ rfl) rfl rfl (vP_nil) hl.1 rfl (Nat.le_of_ble_eq_true rfl) rfl dX1_marked_4 (fun hz4 => ?_)
  exact e_Pi hC hr hlocks hf dX1_marked_7
abbrev rmL_isFull : Room := { frames := 0, cells := 0, slots := 0, locals := 0 }
set_option maxHeartbeats 4000000 in
set_option maxRecDepth 100000 in
theorem cL_isFull (l : Launch) (E : eE) (ad : Nat → Nat) (q0_weights : (Nat → Int32)) (q0_size : Int32) (q0_marks : Int64) (q0_came : Int32) (q0_left : Int32) (q0_swaps : Int32) (r : Int32) (hf : fL_isFull q0_size = r) : cP l E yX1_isFull cX1_isFull 1 (some .boolean) rmL_isFull [.ref (ad 0)] (wL E ad q0_weights q0_size q0_marks q0_came q0_left q0_swaps) (some (.int r)) := by
  refine Met.ofW (cc := cX1_isFull) (maxL := 1) (ret := (some .boolean)) (by decide) rfl ?_
  intro p e s m args below meth c s₁ B hml hv
  obtain ⟨hargs, hP, hK⟩ := hv
  have hx := B.exec
  have hb := B.bytes
  have hr := B.returns
  have hts := atoms_spec (ws := ws_ yX1_isFull cX1_isFull 1 (some .boolean)) B.pre
  have hta : ∀ w ∈ lw_all, w.before args s = true := fun w h => hts w (List.mem_cons_of_mem _ h)
  have hown : s.vm.findClass RX1 = some m.cls := findClass_of_methodNamed B.named
  have hlocks := B.notSynchronized
  have hC : Cx p s m args c cX1_isFull 1 RX1 E := ⟨hx, hb, hml, hown, hta, hK⟩
  obtain ⟨ls, he, hl⟩ := entry_ (m := m) (n := 1) hargs (Nat.le_of_ble_eq_true rfl)
  rw [he]
  have hl : lv_has ls 1 [(0, .ref (ad 0))] := hl
  show W p l e rmL_isFull s m args below meth c s.heap [] 0 0 (MQ below (qP (some .boolean) (some (.int r))) args s 0 0 (fun _ => False)) (F0 m 0 ls [])
  rw [fL_isFull] at hf
  refine lv_aload_n hx hb dX1_isFull_0 rfl (lv_at hl 0 rfl) ?_
  refine gX1_15 hC hP 0 rfl (v := .int q0_size) rfl dX1_isFull_1 ?_
  refine lv_bipush (v := 64) hx hb dX1_isFull_4 (by decide) ?_
  refine lv_icmp_lt (tgt := 13) hx hb dX1_isFull_6 (by decide) (fun c1 => ?_) (fun c1 => ?_)
  · have hf := ite_t hf c1
    refine lv_iconst (v := 0) hx hb dX1_isFull_13 (by decide) ?_
    exact e_Pz hC hr hlocks hf rfl dX1_isFull_14
  · have hf := ite_f hf c1
    refine lv_iconst (v := 1) hx hb dX1_isFull_9 (by decide) ?_
    refine lv_goto (tgt := 14) hx hb dX1_isFull_10 (by decide) ?_
    exact e_Pz hC hr hlocks hf rfl dX1_isFull_14
abbrev rmL_has : Room := { frames := 0, cells := 0, slots := 0, locals := 0 }
set_option maxHeartbeats 4000000 in
set_option maxRecDepth 100000 in
theorem cL_has (l : Launch) (E : eE) (ad : Nat → Nat) (q0_weights : (Nat → Int32)) (q0_size : Int32) (q0_marks : Int64) (q0_came : Int32) (q0_left : Int32) (q0_swaps : Int32) (a1 : Int32) (r : Int32) (hf : fL_has q0_size a1 = r) : cP l E yX1_has cX1_has 2 (some .boolean) rmL_has [.ref (ad 0), .int a1] (wL E ad q0_weights q0_size q0_marks q0_came q0_left q0_swaps) (some (.int r)) := by
  refine Met.ofW (cc := cX1_has) (maxL := 2) (ret := (some .boolean)) (by decide) rfl ?_
  intro p e s m args below meth c s₁ B hml hv
  obtain ⟨hargs, hP, hK⟩ := hv
  have hx := B.exec
  have hb := B.bytes
  have hr := B.returns
  have hts := atoms_spec (ws := ws_ yX1_has cX1_has 2 (some .boolean)) B.pre
  have hta : ∀ w ∈ lw_all, w.before args s = true := fun w h => hts w (List.mem_cons_of_mem _ h)
  have hown : s.vm.findClass RX1 = some m.cls := findClass_of_methodNamed B.named
  have hlocks := B.notSynchronized
  have hC : Cx p s m args c cX1_has 2 RX1 E := ⟨hx, hb, hml, hown, hta, hK⟩
  obtain ⟨ls, he, hl⟩ := entry_ (m := m) (n := 2) hargs (Nat.le_of_ble_eq_true rfl)
  rw [he]
  have hl : lv_has ls 2 [(0, .ref (ad 0)), (1, .int a1)] := hl
  show W p l e rmL_has s m args below meth c s.heap [] 0 0 (MQ below (qP (some .boolean) (some (.int r))) args s 0 0 (fun _ => False)) (F0 m 0 ls [])
  rw [fL_has] at hf
  refine lv_iload_n hx hb dX1_has_0 rfl (lv_at hl 1 rfl) ?_
  refine lv_if_lt (tgt := 16) hx hb dX1_has_1 (by decide) (fun c1 => ?_) (fun c1 => ?_)
  · have hf := ite_t hf c1
    refine lv_iconst (v := 0) hx hb dX1_has_16 (by decide) ?_
    exact e_Pz hC hr hlocks hf rfl dX1_has_17
  · have hf := ite_f hf c1
    refine lv_iload_n hx hb dX1_has_4 rfl (lv_at hl 1 rfl) ?_
    refine lv_aload_n hx hb dX1_has_5 rfl (lv_at hl 0 rfl) ?_
    refine gX1_15 hC hP 0 rfl (v := .int q0_size) rfl dX1_has_6 ?_
    refine lv_icmp_ge (tgt := 16) hx hb dX1_has_9 (by decide) (fun c2 => ?_) (fun c2 => ?_)
    · have hf := ite_t hf c2
      refine lv_iconst (v := 0) hx hb dX1_has_16 (by decide) ?_
      exact e_Pz hC hr hlocks hf rfl dX1_has_17
    · have hf := ite_f hf c2
      refine lv_iconst (v := 1) hx hb dX1_has_12 (by decide) ?_
      refine lv_goto (tgt := 17) hx hb dX1_has_13 (by decide) ?_
      exact e_Pz hC hr hlocks hf rfl dX1_has_17
abbrev rmL_hasNext : Room := { frames := 0, cells := 0, slots := 0, locals := 0 }
set_option maxHeartbeats 4000000 in
set_option maxRecDepth 100000 in
theorem cL_hasNext (l : Launch) (E : eE) (ad : Nat → Nat) (q0_weights : (Nat → Int32)) (q0_size : Int32) (q0_marks : Int64) (q0_came : Int32) (q0_left : Int32) (q0_swaps : Int32) (a1 : Int32) (r : Int32) (hf : fL_hasNext q0_size a1 = r) : cP l E yX1_hasNext cX1_hasNext 2 (some .boolean) rmL_hasNext [.ref (ad 0), .int a1] (wL E ad q0_weights q0_size q0_marks q0_came q0_left q0_swaps) (some (.int r)) := by
  refine Met.ofW (cc := cX1_hasNext) (maxL := 2) (ret := (some .boolean)) (by decide) rfl ?_
  intro p e s m args below meth c s₁ B hml hv
  obtain ⟨hargs, hP, hK⟩ := hv
  have hx := B.exec
  have hb := B.bytes
  have hr := B.returns
  have hts := atoms_spec (ws := ws_ yX1_hasNext cX1_hasNext 2 (some .boolean)) B.pre
  have hta : ∀ w ∈ lw_all, w.before args s = true := fun w h => hts w (List.mem_cons_of_mem _ h)
  have hown : s.vm.findClass RX1 = some m.cls := findClass_of_methodNamed B.named
  have hlocks := B.notSynchronized
  have hC : Cx p s m args c cX1_hasNext 2 RX1 E := ⟨hx, hb, hml, hown, hta, hK⟩
  obtain ⟨ls, he, hl⟩ := entry_ (m := m) (n := 2) hargs (Nat.le_of_ble_eq_true rfl)
  rw [he]
  have hl : lv_has ls 2 [(0, .ref (ad 0)), (1, .int a1)] := hl
  show W p l e rmL_hasNext s m args below meth c s.heap [] 0 0 (MQ below (qP (some .boolean) (some (.int r))) args s 0 0 (fun _ => False)) (F0 m 0 ls [])
  rw [fL_hasNext] at hf
  refine lv_iload_n hx hb dX1_hasNext_0 rfl (lv_at hl 1 rfl) ?_
  refine lv_if_lt (tgt := 18) hx hb dX1_hasNext_1 (by decide) (fun c1 => ?_) (fun c1 => ?_)
  · have hf := ite_t hf c1
    refine lv_iconst (v := 0) hx hb dX1_hasNext_18 (by decide) ?_
    exact e_Pz hC hr hlocks hf rfl dX1_hasNext_19
  · have hf := ite_f hf c1
    refine lv_iload_n hx hb dX1_hasNext_4 rfl (lv_at hl 1 rfl) ?_
    refine lv_aload_n hx hb dX1_hasNext_5 rfl (lv_at hl 0 rfl) ?_
    refine gX1_15 hC hP 0 rfl (v := .int q0_size) rfl dX1_hasNext_6 ?_
    refine lv_iconst (v := 1) hx hb dX1_hasNext_9 (by decide) ?_
    refine lv_isub hx hb dX1_hasNext_10 ?_
    refine lv_icmp_ge (tgt := 18) hx hb dX1_hasNext_11 (by decide) (fun c2 => ?_) (fun c2 => ?_)
    · have hf := ite_t hf c2
      refine lv_iconst (v := 0) hx hb dX1_hasNext_18 (by decide) ?_
      exact e_Pz hC hr hlocks hf rfl dX1_hasNext_19
    · have hf := ite_f hf c2
      refine lv_iconst (v := 1) hx hb dX1_hasNext_14 (by decide) ?_
      refine lv_goto (tgt := 19) hx hb dX1_hasNext_15 (by decide) ?_
      exact e_Pz hC hr hlocks hf rfl dX1_hasNext_19
abbrev rmL_total : Room := { frames := 1, cells := 0, slots := 0, locals := 21 }
set_option maxHeartbeats 4000000 in
set_option maxRecDepth 100000 in
theorem cL_total (l : Launch) (E : eE) (ad : Nat → Nat) (q0_weights : (Nat → Int32)) (q0_size : Int32) (q0_marks : Int64) (q0_came : Int32) (q0_left : Int32) (q0_swaps : Int32) (r : Int32) (hf : fL_total q0_weights q0_size = some r) : cP l E yX1_total cX1_total 3 (some .int) rmL_total [.ref (ad 0)] (wL E ad q0_weights q0_size q0_marks q0_came q0_left q0_swaps) (some (.int r)) := by
  refine Met.ofW (cc := cX1_total) (maxL := 3) (ret := (some .int)) (by decide) rfl ?_
  intro p e s m args below meth c s₁ B hml hv
  obtain ⟨hargs, hP, hK⟩ := hv
  have hx := B.exec
  have hb := B.bytes
  have hr := B.returns
  have hts := atoms_spec (ws := ws_ yX1_total cX1_total 3 (some .int)) B.pre
  have hta : ∀ w ∈ lw_all, w.before args s = true := fun w h => hts w (List.mem_cons_of_mem _ h)
  have hown : s.vm.findClass RX1 = some m.cls := findClass_of_methodNamed B.named
  have hlocks := B.notSynchronized
  have hC : Cx p s m args c cX1_total 3 RX1 E := ⟨hx, hb, hml, hown, hta, hK⟩
  obtain ⟨ls, he, hl⟩ := entry_ (m := m) (n := 3) hargs (Nat.le_of_ble_eq_true rfl)
  rw [he]
  have hl : lv_has ls 3 [(0, .ref (ad 0))] := hl
  show W p l e rmL_total s m args below meth c s.heap [] 0 0 (MQ below (qP (some .int) (some (.int r))) args s 0 0 (fun _ => False)) (F0 m 0 ls [])
  have L4 : ∀ (n : Nat) (a1 : Int32) (a2 : Int32) (ls : Array Slot), lv_has ls 3 [(0, .ref (ad 0)), (1, .int a1), (2, .int a2)] → fL_total_4 n q0_weights q0_size a1 a2 = some r → W p l e rmL_total s m args below meth c s.heap [] 0 0 (MQ below (qP (some .int) (some (.int r))) args s 0 0 (fun _ => False)) (F0 m 4 ls []) := by
    intro n
    induction n with
    | zero => intro a1 a2 ls hl hf; cases hf
    | succ n ih =>
      intro a1 a2 ls hl hf
      rw [fL_total_4] at hf
      refine lv_iload_n hx hb dX1_total_4 rfl (lv_at hl 2 rfl) ?_
      refine lv_aload_n hx hb dX1_total_5 rfl (lv_at hl 0 rfl) ?_
      refine gX1_15 hC hP 0 rfl (v := .int q0_size) rfl dX1_total_6 ?_
      refine lv_icmp_ge (tgt := 26) hx hb dX1_total_9 (by decide) (fun c1 => ?_) (fun c1 => ?_)
      · have hf := ite_t hf c1
        refine lv_iload_n hx hb dX1_total_26 rfl (lv_at hl 1 rfl) ?_
        have hf := Option.some.inj hf
        exact e_Pi hC hr hlocks hf dX1_total_27
      · have hf := ite_f hf c1
        refine lv_iload_n hx hb dX1_total_12 rfl (lv_at hl 1 rfl) ?_
        refine lv_aload_n hx hb dX1_total_13 rfl (lv_at hl 0 rfl) ?_
        refine lv_iload_n hx hb dX1_total_14 rfl (lv_at hl 2 rfl) ?_
        obtain ⟨t2, ht2, hf⟩ := ob hf
        refine k_PVi hC LX1_42 ⟨Nat.le_of_ble_eq_true rfl, Nat.le_of_ble_eq_true rfl⟩ ⟨Nat.zero_le _, Nat.zero_le _⟩ (cL_at l E ad q0_weights q0_size q0_marks q0_came q0_left q0_swaps a2 t2 ht2) rfl rfl hP rfl rfl hl.1 rfl (Nat.le_of_ble_eq_true rfl) rfl dX1_total_15 (fun hz15 => ?_)
        refine lv_iadd hx hb dX1_total_18 ?_
        refine lv_istore_n (lv' := [(1, .int (a1 + t2)), (0, .ref (ad 0)), (2, .int a2)]) hx hb dX1_total_19 rfl hl (by decide) rfl (fun ls hl => ?_)
        refine lv_iinc (v := (a2 + (1 : Int32))) (lv' := [(2, .int (a2 + (1 : Int32))), (1, .int (a1 + t2)), (0, .ref (ad 0))]) hx hb dX1_total_20 hl (k := 2) rfl rfl (by decide) rfl (fun ls hl => ?_)
        refine lv_goto (tgt := 4) hx hb dX1_total_23 (by decide) ?_
        exact ih (a1 + t2) (a2 + (1 : Int32)) ls (lv_sub hl [2, 1, 0] rfl) hf
  rw [fL_total] at hf
  refine lv_iconst (v := 0) hx hb dX1_total_0 (by decide) ?_
  refine lv_istore_n (lv' := [(1, .int (0 : Int32)), (0, .ref (ad 0))]) hx hb dX1_total_1 rfl hl (by decide) rfl (fun ls hl => ?_)
  refine lv_iconst (v := 0) hx hb dX1_total_2 (by decide) ?_
  refine lv_istore_n (lv' := [(2, .int (0 : Int32)), (1, .int (0 : Int32)), (0, .ref (ad 0))]) hx hb dX1_total_3 rfl hl (by decide) rfl (fun ls hl => ?_)
  exact L4 FU (0 : Int32) (0 : Int32) ls (lv_sub hl [2, 1, 0] rfl) hf
abbrev rmL_lay : Room := { frames := 0, cells := 0, slots := 0, locals := 0 }
set_option maxHeartbeats 4000000 in
set_option maxRecDepth 100000 in
theorem cL_lay (l : Launch) (E : eE) (ad : Nat → Nat) (q0_weights : (Nat → Int32)) (q0_size : Int32) (q0_marks : Int64) (q0_came : Int32) (q0_left : Int32) (q0_swaps : Int32) (a1 : Int32) (a2 : Int32) (t : (Nat → Int32)) (hf : fL_lay q0_weights a1 a2 = some t) : cW l E yX1_lay cX1_lay 3 none rmL_lay [.ref (ad 0), .int a1, .int a2] (wL E ad q0_weights q0_size q0_marks q0_came q0_left q0_swaps) none (wL E ad t q0_size q0_marks q0_came q0_left q0_swaps) := by
  refine Met.ofW (cc := cX1_lay) (maxL := 3) (ret := none) (by decide) rfl ?_
  intro p e s m args below meth c s₁ B hml hv
  obtain ⟨hargs, hP, hK, hD0⟩ := hv
  have hx := B.exec
  have hb := B.bytes
  have hr := B.returns
  have hts := atoms_spec (ws := ws_ yX1_lay cX1_lay 3 none) B.pre
  have hta : ∀ w ∈ lw_all, w.before args s = true := fun w h => hts w (List.mem_cons_of_mem _ h)
  have hown : s.vm.findClass RX1 = some m.cls := findClass_of_methodNamed B.named
  have hlocks := B.notSynchronized
  have hC : Cx p s m args c cX1_lay 3 RX1 E := ⟨hx, hb, hml, hown, hta, hK⟩
  have hH : Hp E (adr (wL E ad q0_weights q0_size q0_marks q0_came q0_left q0_swaps)) (wL E ad q0_weights q0_size q0_marks q0_came q0_left q0_swaps) s.heap s.heap [] := Hp.start hP hD0
  obtain ⟨ls, he, hl⟩ := entry_ (m := m) (n := 3) hargs (Nat.le_of_ble_eq_true rfl)
  rw [he]
  have hl : lv_has ls 3 [(0, .ref (ad 0)), (1, .int a1), (2, .int a2)] := hl
  show W p l e rmL_lay s m args below meth c s.heap [] 0 0 (MQ below (qW E none none (wL E ad q0_weights q0_size q0_marks q0_came q0_left q0_swaps) (wL E ad t q0_size q0_marks q0_came q0_left q0_swaps)) args s 0 0 (adr (wL E ad q0_weights q0_size q0_marks q0_came q0_left q0_swaps))) (F0 m 0 ls [])
  suffices hmain : ∀ (H : Heap) (locs : List Loc), Hp E (adr (wL E ad q0_weights q0_size q0_marks q0_came q0_left q0_swaps)) (wL E ad q0_weights q0_size q0_marks q0_came q0_left q0_swaps) s.heap H locs → W p l e rmL_lay s m args below meth c H locs 0 0 (MQ below (qW E none none (wL E ad q0_weights q0_size q0_marks q0_came q0_left q0_swaps) (wL E ad t q0_size q0_marks q0_came q0_left q0_swaps)) args s 0 0 (adr (wL E ad q0_weights q0_size q0_marks q0_came q0_left q0_swaps))) (F0 m 0 ls []) from hmain _ _ hH
  clear hH
  intro H locs hH
  rw [fL_lay] at hf
  refine lv_iload_n hx hb dX1_lay_0 rfl (lv_at hl 1 rfl) ?_
  refine lv_if_lt (tgt := 20) hx hb dX1_lay_1 (by decide) (fun c1 => ?_) (fun c1 => ?_)
  · have hf := ite_t hf c1
    have hf := Option.some.inj hf
    subst hf
    exact e_Wv hC hH hr hlocks rfl dX1_lay_20
  · have hf := ite_f hf c1
    refine lv_iload_n hx hb dX1_lay_4 rfl (lv_at hl 1 rfl) ?_
    refine lv_aload_n hx hb dX1_lay_5 rfl (lv_at hl 0 rfl) ?_
    refine gX1_9 hC hH.1 0 rfl (v := .ref (ad 1)) rfl dX1_lay_6 ?_
    refine va_alen (v := 64) hx hb hK.1 hH.1 1 0 rfl rfl rfl dX1_lay_9 ?_
    refine lv_icmp_ge (tgt := 20) hx hb dX1_lay_10 (by decide) (fun c2 => ?_) (fun c2 => ?_)
    · have hf := ite_t hf c2
      have hf := Option.some.inj hf
      subst hf
      exact e_Wv hC hH hr hlocks rfl dX1_lay_20
    · have hf := ite_f hf c2
      refine lv_aload_n hx hb dX1_lay_13 rfl (lv_at hl 0 rfl) ?_
      refine gX1_9 hC hH.1 0 rfl (v := .ref (ad 1)) rfl dX1_lay_14 ?_
      refine lv_iload_n hx hb dX1_lay_17 rfl (lv_at hl 1 rfl) ?_
      refine lv_iload_n hx hb dX1_lay_18 rfl (lv_at hl 2 rfl) ?_
      obtain ⟨g3, hg3, hf⟩ := ob hf
      obtain ⟨hg3a, hg3b⟩ := stA_ok hg3
      refine a_ist hC hH 1 rfl hg3a hg3b (W1 := wL E ad g3 q0_size q0_marks q0_came q0_left q0_swaps) rfl dX1_lay_19 (fun H locs hH => ?_)
      have hf := Option.some.inj hf
      subst hf
      exact e_Wv hC hH hr hlocks rfl dX1_lay_20
abbrev rmL_come : Room := { frames := 1, cells := 0, slots := 0, locals := 22 }
set_option maxHeartbeats 4000000 in
set_option maxRecDepth 100000 in
theorem cL_come (l : Launch) (E : eE) (ad : Nat → Nat) (q0_weights : (Nat → Int32)) (q0_size : Int32) (q0_marks : Int64) (q0_came : Int32) (q0_left : Int32) (q0_swaps : Int32) (a1 : Int32) (a2 : Int32) (t : Int32 × (Nat → Int32) × Int32 × Int32) (hf : fL_come q0_weights q0_size q0_came a1 a2 = some t) : cW l E yX1_come cX1_come 4 (some .boolean) rmL_come [.ref (ad 0), .int a1, .int a2] (wL E ad q0_weights q0_size q0_marks q0_came q0_left q0_swaps) (some (.int t.1)) (wL E ad t.2.1 t.2.2.1 q0_marks t.2.2.2 q0_left q0_swaps) := by
  refine Met.ofW (cc := cX1_come) (maxL := 4) (ret := (some .boolean)) (by decide) rfl ?_
  intro p e s m args below meth c s₁ B hml hv
  obtain ⟨hargs, hP, hK, hD0⟩ := hv
  have hx := B.exec
  have hb := B.bytes
  have hr := B.returns
  have hts := atoms_spec (ws := ws_ yX1_come cX1_come 4 (some .boolean)) B.pre
  have hta : ∀ w ∈ lw_all, w.before args s = true := fun w h => hts w (List.mem_cons_of_mem _ h)
  have hown : s.vm.findClass RX1 = some m.cls := findClass_of_methodNamed B.named
  have hlocks := B.notSynchronized
  have hC : Cx p s m args c cX1_come 4 RX1 E := ⟨hx, hb, hml, hown, hta, hK⟩
  have hH : Hp E (adr (wL E ad q0_weights q0_size q0_marks q0_came q0_left q0_swaps)) (wL E ad q0_weights q0_size q0_marks q0_came q0_left q0_swaps) s.heap s.heap [] := Hp.start hP hD0
  obtain ⟨ls, he, hl⟩ := entry_ (m := m) (n := 4) hargs (Nat.le_of_ble_eq_true rfl)
  rw [he]
  have hl : lv_has ls 4 [(0, .ref (ad 0)), (1, .int a1), (2, .int a2)] := hl
  show W p l e rmL_come s m args below meth c s.heap [] 0 0 (MQ below (qW E (some .boolean) (some (.int t.1)) (wL E ad q0_weights q0_size q0_marks q0_came q0_left q0_swaps) (wL E ad t.2.1 t.2.2.1 q0_marks t.2.2.2 q0_left q0_swaps)) args s 0 0 (adr (wL E ad q0_weights q0_size q0_marks q0_came q0_left q0_swaps))) (F0 m 0 ls [])
  suffices hmain : ∀ (H : Heap) (locs : List Loc), Hp E (adr (wL E ad q0_weights q0_size q0_marks q0_came q0_left q0_swaps)) (wL E ad q0_weights q0_size q0_marks q0_came q0_left q0_swaps) s.heap H locs → W p l e rmL_come s m args below meth c H locs 0 0 (MQ below (qW E (some .boolean) (some (.int t.1)) (wL E ad q0_weights q0_size q0_marks q0_came q0_left q0_swaps) (wL E ad t.2.1 t.2.2.1 q0_marks t.2.2.2 q0_left q0_swaps)) args s 0 0 (adr (wL E ad q0_weights q0_size q0_marks q0_came q0_left q0_swaps))) (F0 m 0 ls []) from hmain _ _ hH
  clear hH
  have L33 : ∀ (n : Nat) (y0_0 : (Nat → Int32)) (y0_1 : Int32) (y0_3 : Int32) (a1 : Int32) (a2 : Int32) (a3 : Int32) (ls : Array Slot), lv_has ls 4 [(0, .ref (ad 0)), (1, .int a1), (2, .int a2), (3, .int a3)] → ∀ (H : Heap) (locs : List Loc), Hp E (adr (wL E ad q0_weights q0_size q0_marks q0_came q0_left q0_swaps)) (wL E ad y0_0 y0_1 q0_marks y0_3 q0_left q0_swaps) s.heap H locs → fL_come_33 n y0_0 y0_1 y0_3 a1 a2 a3 = some t → W p l e rmL_come s m args below meth c H locs 0 0 (MQ below (qW E (some .boolean) (some (.int t.1)) (wL E ad q0_weights q0_size q0_marks q0_came q0_left q0_swaps) (wL E ad t.2.1 t.2.2.1 q0_marks t.2.2.2 q0_left q0_swaps)) args s 0 0 (adr (wL E ad q0_weights q0_size q0_marks q0_came q0_left q0_swaps))) (F0 m 33 ls []) := by
    intro n
    induction n with
    | zero => intro y0_0 y0_1 y0_3 a1 a2 a3 ls hl H locs hH hf; cases hf
    | succ n ih =>
      intro y0_0 y0_1 y0_3 a1 a2 a3 ls hl H locs hH hf
      rw [fL_come_33] at hf
      refine lv_iload_n hx hb dX1_come_33 rfl (lv_at hl 3 rfl) ?_
      refine lv_iload_n hx hb dX1_come_34 rfl (lv_at hl 1 rfl) ?_
      refine lv_icmp_le (tgt := 56) hx hb dX1_come_35 (by decide) (fun c5 => ?_) (fun c5 => ?_)
      · have hf := ite_t hf c5
        refine lv_aload_n hx hb dX1_come_56 rfl (lv_at hl 0 rfl) ?_
        refine lv_iload_n hx hb dX1_come_57 rfl (lv_at hl 1 rfl) ?_
        refine lv_iload_n hx hb dX1_come_58 rfl (lv_at hl 2 rfl) ?_
        obtain ⟨t6, ht6, hf⟩ := ob hf
        refine k_WVsv hC LX1_53 ⟨Nat.le_of_ble_eq_true rfl, Nat.le_of_ble_eq_true rfl⟩ ⟨Nat.zero_le _, Nat.zero_le _⟩ (cL_lay l E ad y0_0 y0_1 q0_marks y0_3 q0_left q0_swaps a1 a2 t6 ht6) rfl rfl hH rfl rfl rfl hl.1 rfl (Nat.le_of_ble_eq_true rfl) rfl dX1_come_59 (fun H locs hz59 hH => ?_)
        have hH : Hp E (adr (wL E ad q0_weights q0_size q0_marks q0_came q0_left q0_swaps)) (wL E ad t6 y0_1 q0_marks y0_3 q0_left q0_swaps) s.heap H locs := hH
        refine lv_aload_n hx hb dX1_come_62 rfl (lv_at hl 0 rfl) ?_
        refine lv_dup hx hb dX1_come_63 rfl ?_
        refine gX1_15 hC hH.1 0 rfl (v := .int y0_1) rfl dX1_come_64 ?_
        refine lv_iconst (v := 1) hx hb dX1_come_67 (by decide) ?_
        refine lv_iadd hx hb dX1_come_68 ?_
        refine pX1_15 hC hH 0 rfl (v := .int (y0_1 + (1 : Int32))) rfl rfl (Nat.le_of_ble_eq_true rfl) (W1 := wL E ad t6 (y0_1 + (1 : Int32)) q0_marks y0_3 q0_left q0_swaps) rfl dX1_come_69 (fun H locs hH => ?_)
        refine lv_aload_n hx hb dX1_come_72 rfl (lv_at hl 0 rfl) ?_
        refine lv_dup hx hb dX1_come_73 rfl ?_
        refine gX1_19 hC hH.1 0 rfl (v := .int y0_3) rfl dX1_come_74 ?_
        refine lv_iconst (v := 1) hx hb dX1_come_77 (by decide) ?_
        refine lv_iadd hx hb dX1_come_78 ?_
        refine pX1_19 hC hH 0 rfl (v := .int (y0_3 + (1 : Int32))) rfl rfl (Nat.le_of_ble_eq_true rfl) (W1 := wL E ad t6 (y0_1 + (1 : Int32)) q0_marks (y0_3 + (1 : Int32)) q0_left q0_swaps) rfl dX1_come_79 (fun H locs hH => ?_)
        refine lv_iconst (v := 1) hx hb dX1_come_82 (by decide) ?_
        have hf := Option.some.inj hf
        subst hf
        exact e_Wz hC hH hr hlocks rfl rfl rfl dX1_come_83
      · have hf := ite_f hf c5
        refine lv_aload_n hx hb dX1_come_38 rfl (lv_at hl 0 rfl) ?_
        refine lv_iload_n hx hb dX1_come_39 rfl (lv_at hl 3 rfl) ?_
        refine lv_aload_n hx hb dX1_come_40 rfl (lv_at hl 0 rfl) ?_
        refine lv_iload_n hx hb dX1_come_41 rfl (lv_at hl 3 rfl) ?_
        refine lv_iconst (v := 1) hx hb dX1_come_42 (by decide) ?_
        refine lv_isub hx hb dX1_come_43 ?_
        obtain ⟨t7, ht7, hf⟩ := ob hf
        refine k_PVi hC LX1_42 ⟨Nat.le_of_ble_eq_true rfl, Nat.le_of_ble_eq_true rfl⟩ ⟨Nat.zero_le _, Nat.zero_le _⟩ (cL_at l E ad y0_0 y0_1 q0_marks y0_3 q0_left q0_swaps (a3 - (1 : Int32)) t7 ht7) rfl rfl hH.1 rfl rfl hl.1 rfl (Nat.le_of_ble_eq_true rfl) rfl dX1_come_44 (fun hz44 => ?_)
        obtain ⟨t8, ht8, hf⟩ := ob hf
        refine k_WVsv hC LX1_53 ⟨Nat.le_of_ble_eq_true rfl, Nat.le_of_ble_eq_true rfl⟩ ⟨Nat.zero_le _, Nat.zero_le _⟩ (cL_lay l E ad y0_0 y0_1 q0_marks y0_3 q0_left q0_swaps a3 t7 t8 ht8) rfl rfl hH rfl rfl rfl hl.1 rfl (Nat.le_of_ble_eq_true rfl) rfl dX1_come_47 (fun H locs hz47 hH => ?_)
        have hH : Hp E (adr (wL E ad q0_weights q0_size q0_marks q0_came q0_left q0_swaps)) (wL E ad t8 y0_1 q0_marks y0_3 q0_left q0_swaps) s.heap H locs := hH
        refine lv_iinc (v := (a3 + (-1 : Int32))) (lv' := [(3, .int (a3 + (-1 : Int32))), (0, .ref (ad 0)), (1, .int a1), (2, .int a2)]) hx hb dX1_come_50 hl (k := 3) rfl rfl (by decide) rfl (fun ls hl => ?_)
        refine lv_goto (tgt := 33) hx hb dX1_come_53 (by decide) ?_
        exact ih t8 y0_1 y0_3 a1 a2 (a3 + (-1 : Int32)) ls (lv_sub hl [1, 2, 3, 0] rfl) _ _ hH hf
  intro H locs hH
  rw [fL_come] at hf
  refine lv_iload_n hx hb dX1_come_0 rfl (lv_at hl 1 rfl) ?_
  refine lv_if_lt (tgt := 26) hx hb dX1_come_1 (by decide) (fun c1 => ?_) (fun c1 => ?_)
  · have hf := ite_t hf c1
    refine lv_iconst (v := 0) hx hb dX1_come_26 (by decide) ?_
    have hf := Option.some.inj hf
    subst hf
    exact e_Wz hC hH hr hlocks rfl rfl rfl dX1_come_27
  · have hf := ite_f hf c1
    refine lv_iload_n hx hb dX1_come_4 rfl (lv_at hl 1 rfl) ?_
    refine lv_aload_n hx hb dX1_come_5 rfl (lv_at hl 0 rfl) ?_
    refine gX1_15 hC hH.1 0 rfl (v := .int q0_size) rfl dX1_come_6 ?_
    refine lv_icmp_gt (tgt := 26) hx hb dX1_come_9 (by decide) (fun c2 => ?_) (fun c2 => ?_)
    · have hf := ite_t hf c2
      refine lv_iconst (v := 0) hx hb dX1_come_26 (by decide) ?_
      have hf := Option.some.inj hf
      subst hf
      exact e_Wz hC hH hr hlocks rfl rfl rfl dX1_come_27
    · have hf := ite_f hf c2
      refine lv_iload_n hx hb dX1_come_12 rfl (lv_at hl 2 rfl) ?_
      refine k_PSNi hC LX1_46 ⟨Nat.le_of_ble_eq_true rfl, Nat.le_of_ble_eq_true rfl⟩ ⟨Nat.zero_le _, Nat.zero_le _⟩ (cS_isWeight l E a2 _ rfl) rfl rfl (vP_nil) hl.1 rfl (Nat.le_of_ble_eq_true rfl) rfl dX1_come_13 (fun hz13 => ?_)
      refine lv_if_eq (tgt := 26) hx hb dX1_come_16 (by decide) (fun c3 => ?_) (fun c3 => ?_)
      · have hf := ite_t hf c3
        refine lv_iconst (v := 0) hx hb dX1_come_26 (by decide) ?_
        have hf := Option.some.inj hf
        subst hf
        exact e_Wz hC hH hr hlocks rfl rfl rfl dX1_come_27
      · have hf := ite_f hf c3
        refine lv_aload_n hx hb dX1_come_19 rfl (lv_at hl 0 rfl) ?_
        refine k_PVi hC LX1_49 ⟨Nat.le_of_ble_eq_true rfl, Nat.le_of_ble_eq_true rfl⟩ ⟨Nat.zero_le _, Nat.zero_le _⟩ (cL_isFull l E ad q0_weights q0_size q0_marks q0_came q0_left q0_swaps _ rfl) rfl rfl hH.1 rfl rfl hl.1 rfl (Nat.le_of_ble_eq_true rfl) rfl dX1_come_20 (fun hz20 => ?_)
        refine lv_if_eq (tgt := 28) hx hb dX1_come_23 (by decide) (fun c4 => ?_) (fun c4 => ?_)
        · have hf := ite_t hf c4
          refine lv_aload_n hx hb dX1_come_28 rfl (lv_at hl 0 rfl) ?_
          refine gX1_15 hC hH.1 0 rfl (v := .int q0_size) rfl dX1_come_29 ?_
          refine lv_istore_n (lv' := [(3, .int q0_size), (0, .ref (ad 0)), (1, .int a1), (2, .int a2)]) hx hb dX1_come_32 rfl hl (by decide) rfl (fun ls hl => ?_)
          exact L33 FU q0_weights q0_size q0_came a1 a2 q0_size ls (lv_sub hl [1, 2, 3, 0] rfl) _ _ hH hf
        · have hf := ite_f hf c4
          refine lv_iconst (v := 0) hx hb dX1_come_26 (by decide) ?_
          have hf := Option.some.inj hf
          subst hf
          exact e_Wz hC hH hr hlocks rfl rfl rfl dX1_come_27
abbrev rmL_leave : Room := { frames := 1, cells := 0, slots := 0, locals := 22 }
set_option maxHeartbeats 4000000 in
set_option maxRecDepth 100000 in
theorem cL_leave (l : Launch) (E : eE) (ad : Nat → Nat) (q0_weights : (Nat → Int32)) (q0_size : Int32) (q0_marks : Int64) (q0_came : Int32) (q0_left : Int32) (q0_swaps : Int32) (a1 : Int32) (t : Int32 × (Nat → Int32) × Int32 × Int32) (hf : fL_leave q0_weights q0_size q0_left a1 = some t) : cW l E yX1_leave cX1_leave 3 (some .boolean) rmL_leave [.ref (ad 0), .int a1] (wL E ad q0_weights q0_size q0_marks q0_came q0_left q0_swaps) (some (.int t.1)) (wL E ad t.2.1 t.2.2.1 q0_marks q0_came t.2.2.2 q0_swaps) := by
  refine Met.ofW (cc := cX1_leave) (maxL := 3) (ret := (some .boolean)) (by decide) rfl ?_
  intro p e s m args below meth c s₁ B hml hv
  obtain ⟨hargs, hP, hK, hD0⟩ := hv
  have hx := B.exec
  have hb := B.bytes
  have hr := B.returns
  have hts := atoms_spec (ws := ws_ yX1_leave cX1_leave 3 (some .boolean)) B.pre
  have hta : ∀ w ∈ lw_all, w.before args s = true := fun w h => hts w (List.mem_cons_of_mem _ h)
  have hown : s.vm.findClass RX1 = some m.cls := findClass_of_methodNamed B.named
  have hlocks := B.notSynchronized
  have hC : Cx p s m args c cX1_leave 3 RX1 E := ⟨hx, hb, hml, hown, hta, hK⟩
  have hH : Hp E (adr (wL E ad q0_weights q0_size q0_marks q0_came q0_left q0_swaps)) (wL E ad q0_weights q0_size q0_marks q0_came q0_left q0_swaps) s.heap s.heap [] := Hp.start hP hD0
  obtain ⟨ls, he, hl⟩ := entry_ (m := m) (n := 3) hargs (Nat.le_of_ble_eq_true rfl)
  rw [he]
  have hl : lv_has ls 3 [(0, .ref (ad 0)), (1, .int a1)] := hl
  show W p l e rmL_leave s m args below meth c s.heap [] 0 0 (MQ below (qW E (some .boolean) (some (.int t.1)) (wL E ad q0_weights q0_size q0_marks q0_came q0_left q0_swaps) (wL E ad t.2.1 t.2.2.1 q0_marks q0_came t.2.2.2 q0_swaps)) args s 0 0 (adr (wL E ad q0_weights q0_size q0_marks q0_came q0_left q0_swaps))) (F0 m 0 ls [])
  suffices hmain : ∀ (H : Heap) (locs : List Loc), Hp E (adr (wL E ad q0_weights q0_size q0_marks q0_came q0_left q0_swaps)) (wL E ad q0_weights q0_size q0_marks q0_came q0_left q0_swaps) s.heap H locs → W p l e rmL_leave s m args below meth c H locs 0 0 (MQ below (qW E (some .boolean) (some (.int t.1)) (wL E ad q0_weights q0_size q0_marks q0_came q0_left q0_swaps) (wL E ad t.2.1 t.2.2.1 q0_marks q0_came t.2.2.2 q0_swaps)) args s 0 0 (adr (wL E ad q0_weights q0_size q0_marks q0_came q0_left q0_swaps))) (F0 m 0 ls []) from hmain _ _ hH
  clear hH
  have L12 : ∀ (n : Nat) (y0_0 : (Nat → Int32)) (y0_1 : Int32) (y0_4 : Int32) (a2 : Int32) (ls : Array Slot), lv_has ls 3 [(0, .ref (ad 0)), (2, .int a2)] → ∀ (H : Heap) (locs : List Loc), Hp E (adr (wL E ad q0_weights q0_size q0_marks q0_came q0_left q0_swaps)) (wL E ad y0_0 y0_1 q0_marks q0_came y0_4 q0_swaps) s.heap H locs → fL_leave_12 n y0_0 y0_1 y0_4 a2 = some t → W p l e rmL_leave s m args below meth c H locs 0 0 (MQ below (qW E (some .boolean) (some (.int t.1)) (wL E ad q0_weights q0_size q0_marks q0_came q0_left q0_swaps) (wL E ad t.2.1 t.2.2.1 q0_marks q0_came t.2.2.2 q0_swaps)) args s 0 0 (adr (wL E ad q0_weights q0_size q0_marks q0_came q0_left q0_swaps))) (F0 m 12 ls []) := by
    intro n
    induction n with
    | zero => intro y0_0 y0_1 y0_4 a2 ls hl H locs hH hf; cases hf
    | succ n ih =>
      intro y0_0 y0_1 y0_4 a2 ls hl H locs hH hf
      rw [fL_leave_12] at hf
      refine lv_iload_n hx hb dX1_leave_12 rfl (lv_at hl 1 rfl) ?_
      refine lv_aload_n hx hb dX1_leave_13 rfl (lv_at hl 0 rfl) ?_
      refine gX1_15 hC hH.1 0 rfl (v := .int y0_1) rfl dX1_leave_14 ?_
      refine lv_iconst (v := 1) hx hb dX1_leave_17 (by decide) ?_
      refine lv_isub hx hb dX1_leave_18 ?_
      refine lv_icmp_ge (tgt := 40) hx hb dX1_leave_19 (by decide) (fun c2 => ?_) (fun c2 => ?_)
      · have hf := ite_t hf c2
        refine lv_aload_n hx hb dX1_leave_40 rfl (lv_at hl 0 rfl) ?_
        refine lv_dup hx hb dX1_leave_41 rfl ?_
        refine gX1_15 hC hH.1 0 rfl (v := .int y0_1) rfl dX1_leave_42 ?_
        refine lv_iconst (v := 1) hx hb dX1_leave_45 (by decide) ?_
        refine lv_isub hx hb dX1_leave_46 ?_
        refine pX1_15 hC hH 0 rfl (v := .int (y0_1 - (1 : Int32))) rfl rfl (Nat.le_of_ble_eq_true rfl) (W1 := wL E ad y0_0 (y0_1 - (1 : Int32)) q0_marks q0_came y0_4 q0_swaps) rfl dX1_leave_47 (fun H locs hH => ?_)
        refine lv_aload_n hx hb dX1_leave_50 rfl (lv_at hl 0 rfl) ?_
        refine lv_dup hx hb dX1_leave_51 rfl ?_
        refine gX1_22 hC hH.1 0 rfl (v := .int y0_4) rfl dX1_leave_52 ?_
        refine lv_iconst (v := 1) hx hb dX1_leave_55 (by decide) ?_
        refine lv_iadd hx hb dX1_leave_56 ?_
        refine pX1_22 hC hH 0 rfl (v := .int (y0_4 + (1 : Int32))) rfl rfl (Nat.le_of_ble_eq_true rfl) (W1 := wL E ad y0_0 (y0_1 - (1 : Int32)) q0_marks q0_came (y0_4 + (1 : Int32)) q0_swaps) rfl dX1_leave_57 (fun H locs hH => ?_)
        refine lv_iconst (v := 1) hx hb dX1_leave_60 (by decide) ?_
        have hf := Option.some.inj hf
        subst hf
        exact e_Wz hC hH hr hlocks rfl rfl rfl dX1_leave_61
      · have hf := ite_f hf c2
        refine lv_aload_n hx hb dX1_leave_22 rfl (lv_at hl 0 rfl) ?_
        refine lv_iload_n hx hb dX1_leave_23 rfl (lv_at hl 1 rfl) ?_
        refine lv_aload_n hx hb dX1_leave_24 rfl (lv_at hl 0 rfl) ?_
        refine lv_iload_n hx hb dX1_leave_25 rfl (lv_at hl 1 rfl) ?_
        refine lv_iconst (v := 1) hx hb dX1_leave_26 (by decide) ?_
        refine lv_iadd hx hb dX1_leave_27 ?_
        obtain ⟨t3, ht3, hf⟩ := ob hf
        refine k_PVi hC LX1_42 ⟨Nat.le_of_ble_eq_true rfl, Nat.le_of_ble_eq_true rfl⟩ ⟨Nat.zero_le _, Nat.zero_le _⟩ (cL_at l E ad y0_0 y0_1 q0_marks q0_came y0_4 q0_swaps (a2 + (1 : Int32)) t3 ht3) rfl rfl hH.1 rfl rfl hl.1 rfl (Nat.le_of_ble_eq_true rfl) rfl dX1_leave_28 (fun hz28 => ?_)
        obtain ⟨t4, ht4, hf⟩ := ob hf
        refine k_WVsv hC LX1_53 ⟨Nat.le_of_ble_eq_true rfl, Nat.le_of_ble_eq_true rfl⟩ ⟨Nat.zero_le _, Nat.zero_le _⟩ (cL_lay l E ad y0_0 y0_1 q0_marks q0_came y0_4 q0_swaps a2 t3 t4 ht4) rfl rfl hH rfl rfl rfl hl.1 rfl (Nat.le_of_ble_eq_true rfl) rfl dX1_leave_31 (fun H locs hz31 hH => ?_)
        have hH : Hp E (adr (wL E ad q0_weights q0_size q0_marks q0_came q0_left q0_swaps)) (wL E ad t4 y0_1 q0_marks q0_came y0_4 q0_swaps) s.heap H locs := hH
        refine lv_iinc (v := (a2 + (1 : Int32))) (lv' := [(2, .int (a2 + (1 : Int32))), (0, .ref (ad 0))]) hx hb dX1_leave_34 hl (k := 1) rfl rfl (by decide) rfl (fun ls hl => ?_)
        refine lv_goto (tgt := 12) hx hb dX1_leave_37 (by decide) ?_
        exact ih t4 y0_1 y0_4 (a2 + (1 : Int32)) ls (lv_sub hl [1, 0] rfl) _ _ hH hf
  intro H locs hH
  rw [fL_leave] at hf
  refine lv_aload_n hx hb dX1_leave_0 rfl (lv_at hl 0 rfl) ?_
  refine lv_iload_n hx hb dX1_leave_1 rfl (lv_at hl 1 rfl) ?_
  refine k_PVi hC LX1_57 ⟨Nat.le_of_ble_eq_true rfl, Nat.le_of_ble_eq_true rfl⟩ ⟨Nat.zero_le _, Nat.zero_le _⟩ (cL_has l E ad q0_weights q0_size q0_marks q0_came q0_left q0_swaps a1 _ rfl) rfl rfl hH.1 rfl rfl hl.1 rfl (Nat.le_of_ble_eq_true rfl) rfl dX1_leave_2 (fun hz2 => ?_)
  refine lv_if_ne (tgt := 10) hx hb dX1_leave_5 (by decide) (fun c1 => ?_) (fun c1 => ?_)
  · have hf := ite_f hf c1
    refine lv_iload_n hx hb dX1_leave_10 rfl (lv_at hl 1 rfl) ?_
    refine lv_istore_n (lv' := [(2, .int a1), (0, .ref (ad 0)), (1, .int a1)]) hx hb dX1_leave_11 rfl hl (by decide) rfl (fun ls hl => ?_)
    exact L12 FU q0_weights q0_size q0_left a1 ls (lv_sub hl [1, 0] rfl) _ _ hH hf
  · have hf := ite_t hf c1
    refine lv_iconst (v := 0) hx hb dX1_leave_8 (by decide) ?_
    have hf := Option.some.inj hf
    subst hf
    exact e_Wz hC hH hr hlocks rfl rfl rfl dX1_leave_9
abbrev rmL_exchange : Room := { frames := 1, cells := 0, slots := 0, locals := 22 }
set_option maxHeartbeats 4000000 in
set_option maxRecDepth 100000 in
theorem cL_exchange (l : Launch) (E : eE) (ad : Nat → Nat) (q0_weights : (Nat → Int32)) (q0_size : Int32) (q0_marks : Int64) (q0_came : Int32) (q0_left : Int32) (q0_swaps : Int32) (a1 : Int32) (t : Int32 × (Nat → Int32) × Int32) (hf : fL_exchange q0_weights q0_size q0_swaps a1 = some t) : cW l E yX1_exchange cX1_exchange 3 (some .boolean) rmL_exchange [.ref (ad 0), .int a1] (wL E ad q0_weights q0_size q0_marks q0_came q0_left q0_swaps) (some (.int t.1)) (wL E ad t.2.1 q0_size q0_marks q0_came q0_left t.2.2) := by
  refine Met.ofW (cc := cX1_exchange) (maxL := 3) (ret := (some .boolean)) (by decide) rfl ?_
  intro p e s m args below meth c s₁ B hml hv
  obtain ⟨hargs, hP, hK, hD0⟩ := hv
  have hx := B.exec
  have hb := B.bytes
  have hr := B.returns
  have hts := atoms_spec (ws := ws_ yX1_exchange cX1_exchange 3 (some .boolean)) B.pre
  have hta : ∀ w ∈ lw_all, w.before args s = true := fun w h => hts w (List.mem_cons_of_mem _ h)
  have hown : s.vm.findClass RX1 = some m.cls := findClass_of_methodNamed B.named
  have hlocks := B.notSynchronized
  have hC : Cx p s m args c cX1_exchange 3 RX1 E := ⟨hx, hb, hml, hown, hta, hK⟩
  have hH : Hp E (adr (wL E ad q0_weights q0_size q0_marks q0_came q0_left q0_swaps)) (wL E ad q0_weights q0_size q0_marks q0_came q0_left q0_swaps) s.heap s.heap [] := Hp.start hP hD0
  obtain ⟨ls, he, hl⟩ := entry_ (m := m) (n := 3) hargs (Nat.le_of_ble_eq_true rfl)
  rw [he]
  have hl : lv_has ls 3 [(0, .ref (ad 0)), (1, .int a1)] := hl
  show W p l e rmL_exchange s m args below meth c s.heap [] 0 0 (MQ below (qW E (some .boolean) (some (.int t.1)) (wL E ad q0_weights q0_size q0_marks q0_came q0_left q0_swaps) (wL E ad t.2.1 q0_size q0_marks q0_came q0_left t.2.2)) args s 0 0 (adr (wL E ad q0_weights q0_size q0_marks q0_came q0_left q0_swaps))) (F0 m 0 ls [])
  suffices hmain : ∀ (H : Heap) (locs : List Loc), Hp E (adr (wL E ad q0_weights q0_size q0_marks q0_came q0_left q0_swaps)) (wL E ad q0_weights q0_size q0_marks q0_came q0_left q0_swaps) s.heap H locs → W p l e rmL_exchange s m args below meth c H locs 0 0 (MQ below (qW E (some .boolean) (some (.int t.1)) (wL E ad q0_weights q0_size q0_marks q0_came q0_left q0_swaps) (wL E ad t.2.1 q0_size q0_marks q0_came q0_left t.2.2)) args s 0 0 (adr (wL E ad q0_weights q0_size q0_marks q0_came q0_left q0_swaps))) (F0 m 0 ls []) from hmain _ _ hH
  clear hH
  intro H locs hH
  rw [fL_exchange] at hf
  refine lv_aload_n hx hb dX1_exchange_0 rfl (lv_at hl 0 rfl) ?_
  refine lv_iload_n hx hb dX1_exchange_1 rfl (lv_at hl 1 rfl) ?_
  refine k_PVi hC LX1_60 ⟨Nat.le_of_ble_eq_true rfl, Nat.le_of_ble_eq_true rfl⟩ ⟨Nat.zero_le _, Nat.zero_le _⟩ (cL_hasNext l E ad q0_weights q0_size q0_marks q0_came q0_left q0_swaps a1 _ rfl) rfl rfl hH.1 rfl rfl hl.1 rfl (Nat.le_of_ble_eq_true rfl) rfl dX1_exchange_2 (fun hz2 => ?_)
  refine lv_if_eq (tgt := 23) hx hb dX1_exchange_5 (by decide) (fun c1 => ?_) (fun c1 => ?_)
  · have hf := ite_t hf c1
    refine lv_iconst (v := 0) hx hb dX1_exchange_23 (by decide) ?_
    have hf := Option.some.inj hf
    subst hf
    exact e_Wz hC hH hr hlocks rfl rfl rfl dX1_exchange_24
  · have hf := ite_f hf c1
    refine lv_aload_n hx hb dX1_exchange_8 rfl (lv_at hl 0 rfl) ?_
    refine lv_iload_n hx hb dX1_exchange_9 rfl (lv_at hl 1 rfl) ?_
    obtain ⟨t2, ht2, hf⟩ := ob hf
    refine k_PVi hC LX1_42 ⟨Nat.le_of_ble_eq_true rfl, Nat.le_of_ble_eq_true rfl⟩ ⟨Nat.zero_le _, Nat.zero_le _⟩ (cL_at l E ad q0_weights q0_size q0_marks q0_came q0_left q0_swaps a1 t2 ht2) rfl rfl hH.1 rfl rfl hl.1 rfl (Nat.le_of_ble_eq_true rfl) rfl dX1_exchange_10 (fun hz10 => ?_)
    refine lv_aload_n hx hb dX1_exchange_13 rfl (lv_at hl 0 rfl) ?_
    refine lv_iload_n hx hb dX1_exchange_14 rfl (lv_at hl 1 rfl) ?_
    refine lv_iconst (v := 1) hx hb dX1_exchange_15 (by decide) ?_
    refine lv_iadd hx hb dX1_exchange_16 ?_
    obtain ⟨t3, ht3, hf⟩ := ob hf
    refine k_PVi hC LX1_42 ⟨Nat.le_of_ble_eq_true rfl, Nat.le_of_ble_eq_true rfl⟩ ⟨Nat.zero_le _, Nat.zero_le _⟩ (cL_at l E ad q0_weights q0_size q0_marks q0_came q0_left q0_swaps (a1 + (1 : Int32)) t3 ht3) rfl rfl hH.1 rfl rfl hl.1 rfl (Nat.le_of_ble_eq_true rfl) rfl dX1_exchange_17 (fun hz17 => ?_)
    refine lv_icmp_ne (tgt := 25) hx hb dX1_exchange_20 (by decide) (fun c4 => ?_) (fun c4 => ?_)
    · have hf := ite_f hf c4
      refine lv_aload_n hx hb dX1_exchange_25 rfl (lv_at hl 0 rfl) ?_
      refine lv_iload_n hx hb dX1_exchange_26 rfl (lv_at hl 1 rfl) ?_
      obtain ⟨t5, ht5, hf⟩ := ob hf
      refine k_PVi hC LX1_42 ⟨Nat.le_of_ble_eq_true rfl, Nat.le_of_ble_eq_true rfl⟩ ⟨Nat.zero_le _, Nat.zero_le _⟩ (cL_at l E ad q0_weights q0_size q0_marks q0_came q0_left q0_swaps a1 t5 ht5) rfl rfl hH.1 rfl rfl hl.1 rfl (Nat.le_of_ble_eq_true rfl) rfl dX1_exchange_27 (fun hz27 => ?_)
      refine lv_istore_n (lv' := [(2, .int t5), (0, .ref (ad 0)), (1, .int a1)]) hx hb dX1_exchange_30 rfl hl (by decide) rfl (fun ls hl => ?_)
      refine lv_aload_n hx hb dX1_exchange_31 rfl (lv_at hl 1 rfl) ?_
      refine lv_iload_n hx hb dX1_exchange_32 rfl (lv_at hl 2 rfl) ?_
      refine lv_aload_n hx hb dX1_exchange_33 rfl (lv_at hl 1 rfl) ?_
      refine lv_iload_n hx hb dX1_exchange_34 rfl (lv_at hl 2 rfl) ?_
      refine lv_iconst (v := 1) hx hb dX1_exchange_35 (by decide) ?_
      refine lv_iadd hx hb dX1_exchange_36 ?_
      obtain ⟨t6, ht6, hf⟩ := ob hf
      refine k_PVi hC LX1_42 ⟨Nat.le_of_ble_eq_true rfl, Nat.le_of_ble_eq_true rfl⟩ ⟨Nat.zero_le _, Nat.zero_le _⟩ (cL_at l E ad q0_weights q0_size q0_marks q0_came q0_left q0_swaps (a1 + (1 : Int32)) t6 ht6) rfl rfl hH.1 rfl rfl hl.1 rfl (Nat.le_of_ble_eq_true rfl) rfl dX1_exchange_37 (fun hz37 => ?_)
      obtain ⟨t7, ht7, hf⟩ := ob hf
      refine k_WVsv hC LX1_53 ⟨Nat.le_of_ble_eq_true rfl, Nat.le_of_ble_eq_true rfl⟩ ⟨Nat.zero_le _, Nat.zero_le _⟩ (cL_lay l E ad q0_weights q0_size q0_marks q0_came q0_left q0_swaps a1 t6 t7 ht7) rfl rfl hH rfl rfl rfl hl.1 rfl (Nat.le_of_ble_eq_true rfl) rfl dX1_exchange_40 (fun H locs hz40 hH => ?_)
      have hH : Hp E (adr (wL E ad q0_weights q0_size q0_marks q0_came q0_left q0_swaps)) (wL E ad t7 q0_size q0_marks q0_came q0_left q0_swaps) s.heap H locs := hH
      refine lv_aload_n hx hb dX1_exchange_43 rfl (lv_at hl 1 rfl) ?_
      refine lv_iload_n hx hb dX1_exchange_44 rfl (lv_at hl 2 rfl) ?_
      refine lv_iconst (v := 1) hx hb dX1_exchange_45 (by decide) ?_
      refine lv_iadd hx hb dX1_exchange_46 ?_
      refine lv_iload_n hx hb dX1_exchange_47 rfl (lv_at hl 0 rfl) ?_
      obtain ⟨t8, ht8, hf⟩ := ob hf
      refine k_WVsv hC LX1_53 ⟨Nat.le_of_ble_eq_true rfl, Nat.le_of_ble_eq_true rfl⟩ ⟨Nat.zero_le _, Nat.zero_le _⟩ (cL_lay l E ad t7 q0_size q0_marks q0_came q0_left q0_swaps (a1 + (1 : Int32)) t5 t8 ht8) rfl rfl hH rfl rfl rfl hl.1 rfl (Nat.le_of_ble_eq_true rfl) rfl dX1_exchange_48 (fun H locs hz48 hH => ?_)
      have hH : Hp E (adr (wL E ad q0_weights q0_size q0_marks q0_came q0_left q0_swaps)) (wL E ad t8 q0_size q0_marks q0_came q0_left q0_swaps) s.heap H locs := hH
      refine lv_aload_n hx hb dX1_exchange_51 rfl (lv_at hl 1 rfl) ?_
      refine lv_dup hx hb dX1_exchange_52 rfl ?_
      refine gX1_25 hC hH.1 0 rfl (v := .int q0_swaps) rfl dX1_exchange_53 ?_
      refine lv_iconst (v := 1) hx hb dX1_exchange_56 (by decide) ?_
      refine lv_iadd hx hb dX1_exchange_57 ?_
      refine pX1_25 hC hH 0 rfl (v := .int (q0_swaps + (1 : Int32))) rfl rfl (Nat.le_of_ble_eq_true rfl) (W1 := wL E ad t8 q0_size q0_marks q0_came q0_left (q0_swaps + (1 : Int32))) rfl dX1_exchange_58 (fun H locs hH => ?_)
      refine lv_iconst (v := 1) hx hb dX1_exchange_61 (by decide) ?_
      have hf := Option.some.inj hf
      subst hf
      exact e_Wz hC hH hr hlocks rfl rfl rfl dX1_exchange_62
    · have hf := ite_t hf c4
      refine lv_iconst (v := 0) hx hb dX1_exchange_23 (by decide) ?_
      have hf := Option.some.inj hf
      subst hf
      exact e_Wz hC hH hr hlocks rfl rfl rfl dX1_exchange_24
abbrev rmL_setMark : Room := { frames := 2, cells := 0, slots := 0, locals := 41 }
set_option maxHeartbeats 4000000 in
set_option maxRecDepth 100000 in
theorem cL_setMark (l : Launch) (E : eE) (ad : Nat → Nat) (q0_weights : (Nat → Int32)) (q0_size : Int32) (q0_marks : Int64) (q0_came : Int32) (q0_left : Int32) (q0_swaps : Int32) (a1 : Int32) (a2 : Int32) (t : Int32 × Int64) (hf : fL_setMark q0_marks a1 a2 = some t) : cW l E yX1_setMark cX1_setMark 3 (some .boolean) rmL_setMark [.ref (ad 0), .int a1, .int a2] (wL E ad q0_weights q0_size q0_marks q0_came q0_left q0_swaps) (some (.int t.1)) (wL E ad q0_weights q0_size t.2 q0_came q0_left q0_swaps) := by
  refine Met.ofW (cc := cX1_setMark) (maxL := 3) (ret := (some .boolean)) (by decide) rfl ?_
  intro p e s m args below meth c s₁ B hml hv
  obtain ⟨hargs, hP, hK, hD0⟩ := hv
  have hx := B.exec
  have hb := B.bytes
  have hr := B.returns
  have hts := atoms_spec (ws := ws_ yX1_setMark cX1_setMark 3 (some .boolean)) B.pre
  have hta : ∀ w ∈ lw_all, w.before args s = true := fun w h => hts w (List.mem_cons_of_mem _ h)
  have hown : s.vm.findClass RX1 = some m.cls := findClass_of_methodNamed B.named
  have hlocks := B.notSynchronized
  have hC : Cx p s m args c cX1_setMark 3 RX1 E := ⟨hx, hb, hml, hown, hta, hK⟩
  have hH : Hp E (adr (wL E ad q0_weights q0_size q0_marks q0_came q0_left q0_swaps)) (wL E ad q0_weights q0_size q0_marks q0_came q0_left q0_swaps) s.heap s.heap [] := Hp.start hP hD0
  obtain ⟨ls, he, hl⟩ := entry_ (m := m) (n := 3) hargs (Nat.le_of_ble_eq_true rfl)
  rw [he]
  have hl : lv_has ls 3 [(0, .ref (ad 0)), (1, .int a1), (2, .int a2)] := hl
  show W p l e rmL_setMark s m args below meth c s.heap [] 0 0 (MQ below (qW E (some .boolean) (some (.int t.1)) (wL E ad q0_weights q0_size q0_marks q0_came q0_left q0_swaps) (wL E ad q0_weights q0_size t.2 q0_came q0_left q0_swaps)) args s 0 0 (adr (wL E ad q0_weights q0_size q0_marks q0_came q0_left q0_swaps))) (F0 m 0 ls [])
  suffices hmain : ∀ (H : Heap) (locs : List Loc), Hp E (adr (wL E ad q0_weights q0_size q0_marks q0_came q0_left q0_swaps)) (wL E ad q0_weights q0_size q0_marks q0_came q0_left q0_swaps) s.heap H locs → W p l e rmL_setMark s m args below meth c H locs 0 0 (MQ below (qW E (some .boolean) (some (.int t.1)) (wL E ad q0_weights q0_size q0_marks q0_came q0_left q0_swaps) (wL E ad q0_weights q0_size t.2 q0_came q0_left q0_swaps)) args s 0 0 (adr (wL E ad q0_weights q0_size q0_marks q0_came q0_left q0_swaps))) (F0 m 0 ls []) from hmain _ _ hH
  clear hH
  intro H locs hH
  rw [fL_setMark] at hf
  refine lv_iload_n hx hb dX1_setMark_0 rfl (lv_at hl 1 rfl) ?_
  refine k_PSNi hC LX1_38 ⟨Nat.le_of_ble_eq_true rfl, Nat.le_of_ble_eq_true rfl⟩ ⟨Nat.zero_le _, Nat.zero_le _⟩ (cS_isMarkPlace l E a1 _ rfl) rfl rfl (vP_nil) hl.1 rfl (Nat.le_of_ble_eq_true rfl) rfl dX1_setMark_1 (fun hz1 => ?_)
  refine lv_if_eq (tgt := 16) hx hb dX1_setMark_4 (by decide) (fun c1 => ?_) (fun c1 => ?_)
  · have hf := ite_t hf c1
    refine lv_iconst (v := 0) hx hb dX1_setMark_16 (by decide) ?_
    have hf := Option.some.inj hf
    subst hf
    exact e_Wz hC hH hr hlocks rfl rfl rfl dX1_setMark_17
  · have hf := ite_f hf c1
    refine lv_aload_n hx hb dX1_setMark_7 rfl (lv_at hl 0 rfl) ?_
    refine lv_iload_n hx hb dX1_setMark_8 rfl (lv_at hl 1 rfl) ?_
    refine k_PVi hC LX1_63 ⟨Nat.le_of_ble_eq_true rfl, Nat.le_of_ble_eq_true rfl⟩ ⟨Nat.zero_le _, Nat.zero_le _⟩ (cL_isMarkedAt l E ad q0_weights q0_size q0_marks q0_came q0_left q0_swaps a1 _ rfl) rfl rfl hH.1 rfl rfl hl.1 rfl (Nat.le_of_ble_eq_true rfl) rfl dX1_setMark_9 (fun hz9 => ?_)
    refine lv_iload_n hx hb dX1_setMark_12 rfl (lv_at hl 2 rfl) ?_
    refine lv_icmp_ne (tgt := 18) hx hb dX1_setMark_13 (by decide) (fun c2 => ?_) (fun c2 => ?_)
    · have hf := ite_f hf c2
      refine lv_aload_n hx hb dX1_setMark_18 rfl (lv_at hl 0 rfl) ?_
      refine lv_dup hx hb dX1_setMark_19 rfl ?_
      refine gX1_28 hC hH.1 0 rfl (v := .long q0_marks) rfl dX1_setMark_20 ?_
      refine lv_lconst (v := 1) hx hb dX1_setMark_23 (by decide) ?_
      refine lv_iload_n hx hb dX1_setMark_24 rfl (lv_at hl 1 rfl) ?_
      refine lv_lshl hx hb dX1_setMark_25 rfl ?_
      refine lv_lxor hx hb dX1_setMark_26 ?_
      refine pX1_28 hC hH 0 rfl (v := .long (q0_marks ^^^ ((1 : Int64) <<< (a1.toInt64 &&& 63)))) rfl rfl (Nat.le_of_ble_eq_true rfl) (W1 := wL E ad q0_weights q0_size (q0_marks ^^^ ((1 : Int64) <<< (a1.toInt64 &&& 63))) q0_came q0_left q0_swaps) rfl dX1_setMark_27 (fun H locs hH => ?_)
      refine lv_iconst (v := 1) hx hb dX1_setMark_30 (by decide) ?_
      have hf := Option.some.inj hf
      subst hf
      exact e_Wz hC hH hr hlocks rfl rfl rfl dX1_setMark_31
    · have hf := ite_t hf c2
      refine lv_iconst (v := 0) hx hb dX1_setMark_16 (by decide) ?_
      have hf := Option.some.inj hf
      subst hf
      exact e_Wz hC hH hr hlocks rfl rfl rfl dX1_setMark_17
abbrev rmL_obey : Room := { frames := 3, cells := 0, slots := 0, locals := 63 }
set_option maxHeartbeats 4000000 in
set_option maxRecDepth 100000 in
theorem cL_obey (l : Launch) (E : eE) (ad : Nat → Nat) (q0_weights : (Nat → Int32)) (q0_size : Int32) (q0_marks : Int64) (q0_came : Int32) (q0_left : Int32) (q0_swaps : Int32) (a1 : Int32) (a2 : Int32) (a3 : Int32) (t : Int32 × (Nat → Int32) × Int32 × Int64 × Int32 × Int32 × Int32) (hf : fL_obey q0_weights q0_size q0_marks q0_came q0_left q0_swaps a1 a2 a3 = some t) : cW l E yX1_obey cX1_obey 4 (some .boolean) rmL_obey [.ref (ad 0), .int a1, .int a2, .int a3] (wL E ad q0_weights q0_size q0_marks q0_came q0_left q0_swaps) (some (.int t.1)) (wL E ad t.2.1 t.2.2.1 t.2.2.2.1 t.2.2.2.2.1 t.2.2.2.2.2.1 t.2.2.2.2.2.2) := by
  refine Met.ofW (cc := cX1_obey) (maxL := 4) (ret := (some .boolean)) (by decide) rfl ?_
  intro p e s m args below meth c s₁ B hml hv
  obtain ⟨hargs, hP, hK, hD0⟩ := hv
  have hx := B.exec
  have hb := B.bytes
  have hr := B.returns
  have hts := atoms_spec (ws := ws_ yX1_obey cX1_obey 4 (some .boolean)) B.pre
  have hta : ∀ w ∈ lw_all, w.before args s = true := fun w h => hts w (List.mem_cons_of_mem _ h)
  have hown : s.vm.findClass RX1 = some m.cls := findClass_of_methodNamed B.named
  have hlocks := B.notSynchronized
  have hC : Cx p s m args c cX1_obey 4 RX1 E := ⟨hx, hb, hml, hown, hta, hK⟩
  have hH : Hp E (adr (wL E ad q0_weights q0_size q0_marks q0_came q0_left q0_swaps)) (wL E ad q0_weights q0_size q0_marks q0_came q0_left q0_swaps) s.heap s.heap [] := Hp.start hP hD0
  obtain ⟨ls, he, hl⟩ := entry_ (m := m) (n := 4) hargs (Nat.le_of_ble_eq_true rfl)
  rw [he]
  have hl : lv_has ls 4 [(0, .ref (ad 0)), (1, .int a1), (2, .int a2), (3, .int a3)] := hl
  show W p l e rmL_obey s m args below meth c s.heap [] 0 0 (MQ below (qW E (some .boolean) (some (.int t.1)) (wL E ad q0_weights q0_size q0_marks q0_came q0_left q0_swaps) (wL E ad t.2.1 t.2.2.1 t.2.2.2.1 t.2.2.2.2.1 t.2.2.2.2.2.1 t.2.2.2.2.2.2)) args s 0 0 (adr (wL E ad q0_weights q0_size q0_marks q0_came q0_left q0_swaps))) (F0 m 0 ls [])
  suffices hmain : ∀ (H : Heap) (locs : List Loc), Hp E (adr (wL E ad q0_weights q0_size q0_marks q0_came q0_left q0_swaps)) (wL E ad q0_weights q0_size q0_marks q0_came q0_left q0_swaps) s.heap H locs → W p l e rmL_obey s m args below meth c H locs 0 0 (MQ below (qW E (some .boolean) (some (.int t.1)) (wL E ad q0_weights q0_size q0_marks q0_came q0_left q0_swaps) (wL E ad t.2.1 t.2.2.1 t.2.2.2.1 t.2.2.2.2.1 t.2.2.2.2.2.1 t.2.2.2.2.2.2)) args s 0 0 (adr (wL E ad q0_weights q0_size q0_marks q0_came q0_left q0_swaps))) (F0 m 0 ls []) from hmain _ _ hH
  clear hH
  intro H locs hH
  rw [fL_obey] at hf
  refine lv_iload_n hx hb dX1_obey_0 rfl (lv_at hl 1 rfl) ?_
  by_cases c1_99 : a1 = (99 : Int32)
  · have hf := ite_t hf c1_99
    have e9 : (a1).toInt = 99 := by rw [c1_99]; decide
    refine lv_tableIn (tgt := 120) hx hb dX1_obey_1 (by omega) (by omega) (by rw [e9]; rfl) (by decide) ?_
    refine lv_aload_n hx hb dX1_obey_120 rfl (lv_at hl 0 rfl) ?_
    refine lv_iload_n hx hb dX1_obey_121 rfl (lv_at hl 2 rfl) ?_
    refine lv_iconst (v := 0) hx hb dX1_obey_122 (by decide) ?_
    obtain ⟨t1, ht1, hf⟩ := ob hf
    refine k_WVsi hC LX1_76 ⟨Nat.le_of_ble_eq_true rfl, Nat.le_of_ble_eq_true rfl⟩ ⟨Nat.zero_le _, Nat.zero_le _⟩ (cL_setMark l E ad q0_weights q0_size q0_marks q0_came q0_left q0_swaps a2 (0 : Int32) t1 ht1) rfl rfl hH rfl rfl rfl hl.1 rfl (Nat.le_of_ble_eq_true rfl) rfl dX1_obey_123 (fun H locs hz123 hH => ?_)
    have hH : Hp E (adr (wL E ad q0_weights q0_size q0_marks q0_came q0_left q0_swaps)) (wL E ad q0_weights q0_size t1.2 q0_came q0_left q0_swaps) s.heap H locs := hH
    have hf := Option.some.inj hf
    subst hf
    exact e_Wz hC hH hr hlocks rfl rfl (rt_of hz123) dX1_obey_126
  · have hf := ite_f hf c1_99
    by_cases c1_105 : a1 = (105 : Int32)
    · have hf := ite_t hf c1_105
      have e9 : (a1).toInt = 105 := by rw [c1_105]; decide
      refine lv_tableIn (tgt := 94) hx hb dX1_obey_1 (by omega) (by omega) (by rw [e9]; rfl) (by decide) ?_
      refine lv_aload_n hx hb dX1_obey_94 rfl (lv_at hl 0 rfl) ?_
      refine lv_iload_n hx hb dX1_obey_95 rfl (lv_at hl 2 rfl) ?_
      refine lv_iload_n hx hb dX1_obey_96 rfl (lv_at hl 3 rfl) ?_
      obtain ⟨t2, ht2, hf⟩ := ob hf
      refine k_WVsi hC LX1_66 ⟨Nat.le_of_ble_eq_true rfl, Nat.le_of_ble_eq_true rfl⟩ ⟨Nat.zero_le _, Nat.zero_le _⟩ (cL_come l E ad q0_weights q0_size q0_marks q0_came q0_left q0_swaps a2 a3 t2 ht2) rfl rfl hH rfl rfl rfl hl.1 rfl (Nat.le_of_ble_eq_true rfl) rfl dX1_obey_97 (fun H locs hz97 hH => ?_)
      have hH : Hp E (adr (wL E ad q0_weights q0_size q0_marks q0_came q0_left q0_swaps)) (wL E ad t2.2.1 t2.2.2.1 q0_marks t2.2.2.2 q0_left q0_swaps) s.heap H locs := hH
      have hf := Option.some.inj hf
      subst hf
      exact e_Wz hC hH hr hlocks rfl rfl (rt_of hz97) dX1_obey_100
    · have hf := ite_f hf c1_105
      by_cases c1_109 : a1 = (109 : Int32)
      · have hf := ite_t hf c1_109
        have e9 : (a1).toInt = 109 := by rw [c1_109]; decide
        refine lv_tableIn (tgt := 113) hx hb dX1_obey_1 (by omega) (by omega) (by rw [e9]; rfl) (by decide) ?_
        refine lv_aload_n hx hb dX1_obey_113 rfl (lv_at hl 0 rfl) ?_
        refine lv_iload_n hx hb dX1_obey_114 rfl (lv_at hl 2 rfl) ?_
        refine lv_iconst (v := 1) hx hb dX1_obey_115 (by decide) ?_
        obtain ⟨t3, ht3, hf⟩ := ob hf
        refine k_WVsi hC LX1_76 ⟨Nat.le_of_ble_eq_true rfl, Nat.le_of_ble_eq_true rfl⟩ ⟨Nat.zero_le _, Nat.zero_le _⟩ (cL_setMark l E ad q0_weights q0_size q0_marks q0_came q0_left q0_swaps a2 (1 : Int32) t3 ht3) rfl rfl hH rfl rfl rfl hl.1 rfl (Nat.le_of_ble_eq_true rfl) rfl dX1_obey_116 (fun H locs hz116 hH => ?_)
        have hH : Hp E (adr (wL E ad q0_weights q0_size q0_marks q0_came q0_left q0_swaps)) (wL E ad q0_weights q0_size t3.2 q0_came q0_left q0_swaps) s.heap H locs := hH
        have hf := Option.some.inj hf
        subst hf
        exact e_Wz hC hH hr hlocks rfl rfl (rt_of hz116) dX1_obey_119
      · have hf := ite_f hf c1_109
        by_cases c1_111 : a1 = (111 : Int32)
        · have hf := ite_t hf c1_111
          have e9 : (a1).toInt = 111 := by rw [c1_111]; decide
          refine lv_tableIn (tgt := 101) hx hb dX1_obey_1 (by omega) (by omega) (by rw [e9]; rfl) (by decide) ?_
          refine lv_aload_n hx hb dX1_obey_101 rfl (lv_at hl 0 rfl) ?_
          refine lv_iload_n hx hb dX1_obey_102 rfl (lv_at hl 2 rfl) ?_
          obtain ⟨t4, ht4, hf⟩ := ob hf
          refine k_WVsi hC LX1_70 ⟨Nat.le_of_ble_eq_true rfl, Nat.le_of_ble_eq_true rfl⟩ ⟨Nat.zero_le _, Nat.zero_le _⟩ (cL_leave l E ad q0_weights q0_size q0_marks q0_came q0_left q0_swaps a2 t4 ht4) rfl rfl hH rfl rfl rfl hl.1 rfl (Nat.le_of_ble_eq_true rfl) rfl dX1_obey_103 (fun H locs hz103 hH => ?_)
          have hH : Hp E (adr (wL E ad q0_weights q0_size q0_marks q0_came q0_left q0_swaps)) (wL E ad t4.2.1 t4.2.2.1 q0_marks q0_came t4.2.2.2 q0_swaps) s.heap H locs := hH
          have hf := Option.some.inj hf
          subst hf
          exact e_Wz hC hH hr hlocks rfl rfl (rt_of hz103) dX1_obey_106
        · have hf := ite_f hf c1_111
          by_cases c1_112 : a1 = (112 : Int32)
          · have hf := ite_t hf c1_112
            have e9 : (a1).toInt = 112 := by rw [c1_112]; decide
            refine lv_tableIn (tgt := 84) hx hb dX1_obey_1 (by omega) (by omega) (by rw [e9]; rfl) (by decide) ?_
            refine lv_aload_n hx hb dX1_obey_84 rfl (lv_at hl 0 rfl) ?_
            refine lv_aload_n hx hb dX1_obey_85 rfl (lv_at hl 0 rfl) ?_
            refine gX1_15 hC hH.1 0 rfl (v := .int q0_size) rfl dX1_obey_86 ?_
            refine lv_iload_n hx hb dX1_obey_89 rfl (lv_at hl 2 rfl) ?_
            obtain ⟨t5, ht5, hf⟩ := ob hf
            refine k_WVsi hC LX1_66 ⟨Nat.le_of_ble_eq_true rfl, Nat.le_of_ble_eq_true rfl⟩ ⟨Nat.zero_le _, Nat.zero_le _⟩ (cL_come l E ad q0_weights q0_size q0_marks q0_came q0_left q0_swaps q0_size a2 t5 ht5) rfl rfl hH rfl rfl rfl hl.1 rfl (Nat.le_of_ble_eq_true rfl) rfl dX1_obey_90 (fun H locs hz90 hH => ?_)
            have hH : Hp E (adr (wL E ad q0_weights q0_size q0_marks q0_came q0_left q0_swaps)) (wL E ad t5.2.1 t5.2.2.1 q0_marks t5.2.2.2 q0_left q0_swaps) s.heap H locs := hH
            have hf := Option.some.inj hf
            subst hf
            exact e_Wz hC hH hr hlocks rfl rfl (rt_of hz90) dX1_obey_93
          · have hf := ite_f hf c1_112
            by_cases c1_115 : a1 = (115 : Int32)
            · have hf := ite_t hf c1_115
              have e9 : (a1).toInt = 115 := by rw [c1_115]; decide
              refine lv_tableIn (tgt := 107) hx hb dX1_obey_1 (by omega) (by omega) (by rw [e9]; rfl) (by decide) ?_
              refine lv_aload_n hx hb dX1_obey_107 rfl (lv_at hl 0 rfl) ?_
              refine lv_iload_n hx hb dX1_obey_108 rfl (lv_at hl 2 rfl) ?_
              obtain ⟨t6, ht6, hf⟩ := ob hf
              refine k_WVsi hC LX1_73 ⟨Nat.le_of_ble_eq_true rfl, Nat.le_of_ble_eq_true rfl⟩ ⟨Nat.zero_le _, Nat.zero_le _⟩ (cL_exchange l E ad q0_weights q0_size q0_marks q0_came q0_left q0_swaps a2 t6 ht6) rfl rfl hH rfl rfl rfl hl.1 rfl (Nat.le_of_ble_eq_true rfl) rfl dX1_obey_109 (fun H locs hz109 hH => ?_)
              have hH : Hp E (adr (wL E ad q0_weights q0_size q0_marks q0_came q0_left q0_swaps)) (wL E ad t6.2.1 q0_size q0_marks q0_came q0_left t6.2.2) s.heap H locs := hH
              have hf := Option.some.inj hf
              subst hf
              exact e_Wz hC hH hr hlocks rfl rfl (rt_of hz109) dX1_obey_112
            · have hf := ite_f hf c1_115
              have hd : W p l e rmL_obey s m args below meth c H locs 0 0 (MQ below (qW E (some .boolean) (some (.int t.1)) (wL E ad q0_weights q0_size q0_marks q0_came q0_left q0_swaps) (wL E ad t.2.1 t.2.2.1 t.2.2.2.1 t.2.2.2.2.1 t.2.2.2.2.2.1 t.2.2.2.2.2.2)) args s 0 0 (adr (wL E ad q0_weights q0_size q0_marks q0_came q0_left q0_swaps))) (F0 m 127 ls []) := by
                refine lv_iconst (v := 0) hx hb dX1_obey_127 (by decide) ?_
                have hf := Option.some.inj hf
                subst hf
                exact e_Wz hC hH hr hlocks rfl rfl rfl dX1_obey_128
              by_cases c1_100 : a1 = (100 : Int32)
              · have e9 : (a1).toInt = 100 := by rw [c1_100]; decide
                refine lv_tableIn (tgt := 127) hx hb dX1_obey_1 (by omega) (by omega) (by rw [e9]; rfl) (by decide) hd
              by_cases c1_101 : a1 = (101 : Int32)
              · have e9 : (a1).toInt = 101 := by rw [c1_101]; decide
                refine lv_tableIn (tgt := 127) hx hb dX1_obey_1 (by omega) (by omega) (by rw [e9]; rfl) (by decide) hd
              by_cases c1_102 : a1 = (102 : Int32)
              · have e9 : (a1).toInt = 102 := by rw [c1_102]; decide
                refine lv_tableIn (tgt := 127) hx hb dX1_obey_1 (by omega) (by omega) (by rw [e9]; rfl) (by decide) hd
              by_cases c1_103 : a1 = (103 : Int32)
              · have e9 : (a1).toInt = 103 := by rw [c1_103]; decide
                refine lv_tableIn (tgt := 127) hx hb dX1_obey_1 (by omega) (by omega) (by rw [e9]; rfl) (by decide) hd
              by_cases c1_104 : a1 = (104 : Int32)
              · have e9 : (a1).toInt = 104 := by rw [c1_104]; decide
                refine lv_tableIn (tgt := 127) hx hb dX1_obey_1 (by omega) (by omega) (by rw [e9]; rfl) (by decide) hd
              by_cases c1_106 : a1 = (106 : Int32)
              · have e9 : (a1).toInt = 106 := by rw [c1_106]; decide
                refine lv_tableIn (tgt := 127) hx hb dX1_obey_1 (by omega) (by omega) (by rw [e9]; rfl) (by decide) hd
              by_cases c1_107 : a1 = (107 : Int32)
              · have e9 : (a1).toInt = 107 := by rw [c1_107]; decide
                refine lv_tableIn (tgt := 127) hx hb dX1_obey_1 (by omega) (by omega) (by rw [e9]; rfl) (by decide) hd
              by_cases c1_108 : a1 = (108 : Int32)
              · have e9 : (a1).toInt = 108 := by rw [c1_108]; decide
                refine lv_tableIn (tgt := 127) hx hb dX1_obey_1 (by omega) (by omega) (by rw [e9]; rfl) (by decide) hd
              by_cases c1_110 : a1 = (110 : Int32)
              · have e9 : (a1).toInt = 110 := by rw [c1_110]; decide
                refine lv_tableIn (tgt := 127) hx hb dX1_obey_1 (by omega) (by omega) (by rw [e9]; rfl) (by decide) hd
              by_cases c1_113 : a1 = (113 : Int32)
              · have e9 : (a1).toInt = 113 := by rw [c1_113]; decide
                refine lv_tableIn (tgt := 127) hx hb dX1_obey_1 (by omega) (by omega) (by rw [e9]; rfl) (by decide) hd
              by_cases c1_114 : a1 = (114 : Int32)
              · have e9 : (a1).toInt = 114 := by rw [c1_114]; decide
                refine lv_tableIn (tgt := 127) hx hb dX1_obey_1 (by omega) (by omega) (by rw [e9]; rfl) (by decide) hd
              refine lv_tableOut (tgt := 127) hx hb dX1_obey_1 (by have n99 := lv_neT c1_99 (a := 99) (by decide); have n100 := lv_neT c1_100 (a := 100) (by decide); have n101 := lv_neT c1_101 (a := 101) (by decide); have n102 := lv_neT c1_102 (a := 102) (by decide); have n103 := lv_neT c1_103 (a := 103) (by decide); have n104 := lv_neT c1_104 (a := 104) (by decide); have n105 := lv_neT c1_105 (a := 105) (by decide); have n106 := lv_neT c1_106 (a := 106) (by decide); have n107 := lv_neT c1_107 (a := 107) (by decide); have n108 := lv_neT c1_108 (a := 108) (by decide); have n109 := lv_neT c1_109 (a := 109) (by decide); have n110 := lv_neT c1_110 (a := 110) (by decide); have n111 := lv_neT c1_111 (a := 111) (by decide); have n112 := lv_neT c1_112 (a := 112) (by decide); have n113 := lv_neT c1_113 (a := 113) (by decide); have n114 := lv_neT c1_114 (a := 114) (by decide); have n115 := lv_neT c1_115 (a := 115) (by decide); omega) (by decide) hd
abbrev rmL_becomeLike : Room := { frames := 1, cells := 0, slots := 0, locals := 22 }
set_option maxHeartbeats 4000000 in
set_option maxRecDepth 100000 in
theorem cL_becomeLike (l : Launch) (E : eE) (ad : Nat → Nat) (q0_weights : (Nat → Int32)) (q0_size : Int32) (q0_marks : Int64) (q0_came : Int32) (q0_left : Int32) (q0_swaps : Int32) (ad2 : Nat → Nat) (q1_weights : (Nat → Int32)) (q1_size : Int32) (q1_marks : Int64) (q1_came : Int32) (q1_left : Int32) (q1_swaps : Int32) (t : (Nat → Int32) × Int32 × Int64 × Int32 × Int32 × Int32) (hf : fL_becomeLike q0_weights q0_size q0_marks q0_came q0_left q0_swaps q1_weights q1_size q1_marks q1_came q1_left q1_swaps = some t) : cW l E yX1_becomeLike cX1_becomeLike 3 none rmL_becomeLike [.ref (ad 0), .ref (ad2 0)] (wL E ad q0_weights q0_size q0_marks q0_came q0_left q0_swaps ++ wL E ad2 q1_weights q1_size q1_marks q1_came q1_left q1_swaps) none (wL E ad t.1 t.2.1 t.2.2.1 t.2.2.2.1 t.2.2.2.2.1 t.2.2.2.2.2 ++ wL E ad2 q1_weights q1_size q1_marks q1_came q1_left q1_swaps) := by
  refine Met.ofW (cc := cX1_becomeLike) (maxL := 3) (ret := none) (by decide) rfl ?_
  intro p e s m args below meth c s₁ B hml hv
  obtain ⟨hargs, hP, hK, hD0⟩ := hv
  have hx := B.exec
  have hb := B.bytes
  have hr := B.returns
  have hts := atoms_spec (ws := ws_ yX1_becomeLike cX1_becomeLike 3 none) B.pre
  have hta : ∀ w ∈ lw_all, w.before args s = true := fun w h => hts w (List.mem_cons_of_mem _ h)
  have hown : s.vm.findClass RX1 = some m.cls := findClass_of_methodNamed B.named
  have hlocks := B.notSynchronized
  have hC : Cx p s m args c cX1_becomeLike 3 RX1 E := ⟨hx, hb, hml, hown, hta, hK⟩
  have hH : Hp E (adr (wL E ad q0_weights q0_size q0_marks q0_came q0_left q0_swaps ++ wL E ad2 q1_weights q1_size q1_marks q1_came q1_left q1_swaps)) (wL E ad q0_weights q0_size q0_marks q0_came q0_left q0_swaps ++ wL E ad2 q1_weights q1_size q1_marks q1_came q1_left q1_swaps) s.heap s.heap [] := Hp.start hP hD0
  obtain ⟨ls, he, hl⟩ := entry_ (m := m) (n := 3) hargs (Nat.le_of_ble_eq_true rfl)
  rw [he]
  have hl : lv_has ls 3 [(0, .ref (ad 0)), (1, .ref (ad2 0))] := hl
  show W p l e rmL_becomeLike s m args below meth c s.heap [] 0 0 (MQ below (qW E none none (wL E ad q0_weights q0_size q0_marks q0_came q0_left q0_swaps ++ wL E ad2 q1_weights q1_size q1_marks q1_came q1_left q1_swaps) (wL E ad t.1 t.2.1 t.2.2.1 t.2.2.2.1 t.2.2.2.2.1 t.2.2.2.2.2 ++ wL E ad2 q1_weights q1_size q1_marks q1_came q1_left q1_swaps)) args s 0 0 (adr (wL E ad q0_weights q0_size q0_marks q0_came q0_left q0_swaps ++ wL E ad2 q1_weights q1_size q1_marks q1_came q1_left q1_swaps))) (F0 m 0 ls [])
  suffices hmain : ∀ (H : Heap) (locs : List Loc), Hp E (adr (wL E ad q0_weights q0_size q0_marks q0_came q0_left q0_swaps ++ wL E ad2 q1_weights q1_size q1_marks q1_came q1_left q1_swaps)) (wL E ad q0_weights q0_size q0_marks q0_came q0_left q0_swaps ++ wL E ad2 q1_weights q1_size q1_marks q1_came q1_left q1_swaps) s.heap H locs → W p l e rmL_becomeLike s m args below meth c H locs 0 0 (MQ below (qW E none none (wL E ad q0_weights q0_size q0_marks q0_came q0_left q0_swaps ++ wL E ad2 q1_weights q1_size q1_marks q1_came q1_left q1_swaps) (wL E ad t.1 t.2.1 t.2.2.1 t.2.2.2.1 t.2.2.2.2.1 t.2.2.2.2.2 ++ wL E ad2 q1_weights q1_size q1_marks q1_came q1_left q1_swaps)) args s 0 0 (adr (wL E ad q0_weights q0_size q0_marks q0_came q0_left q0_swaps ++ wL E ad2 q1_weights q1_size q1_marks q1_came q1_left q1_swaps))) (F0 m 0 ls []) from hmain _ _ hH
  clear hH
  have L47 : ∀ (n : Nat) (y0_0 : (Nat → Int32)) (y0_1 : Int32) (y0_2 : Int64) (y0_3 : Int32) (y0_4 : Int32) (y0_5 : Int32) (a2 : Int32) (ls : Array Slot), lv_has ls 3 [(0, .ref (ad 0)), (1, .ref (ad2 0)), (2, .int a2)] → ∀ (H : Heap) (locs : List Loc), Hp E (adr (wL E ad q0_weights q0_size q0_marks q0_came q0_left q0_swaps ++ wL E ad2 q1_weights q1_size q1_marks q1_came q1_left q1_swaps)) (wL E ad y0_0 y0_1 y0_2 y0_3 y0_4 y0_5 ++ wL E ad2 q1_weights q1_size q1_marks q1_came q1_left q1_swaps) s.heap H locs → fL_becomeLike_47 n y0_0 y0_1 y0_2 y0_3 y0_4 y0_5 q1_weights q1_size q1_marks q1_came q1_left q1_swaps a2 = some t → W p l e rmL_becomeLike s m args below meth c H locs 0 0 (MQ below (qW E none none (wL E ad q0_weights q0_size q0_marks q0_came q0_left q0_swaps ++ wL E ad2 q1_weights q1_size q1_marks q1_came q1_left q1_swaps) (wL E ad t.1 t.2.1 t.2.2.1 t.2.2.2.1 t.2.2.2.2.1 t.2.2.2.2.2 ++ wL E ad2 q1_weights q1_size q1_marks q1_came q1_left q1_swaps)) args s 0 0 (adr (wL E ad q0_weights q0_size q0_marks q0_came q0_left q0_swaps ++ wL E ad2 q1_weights q1_size q1_marks q1_came q1_left q1_swaps))) (F0 m 47 ls []) := by
    intro n
    induction n with
    | zero => intro y0_0 y0_1 y0_2 y0_3 y0_4 y0_5 a2 ls hl H locs hH hf; cases hf
    | succ n ih =>
      intro y0_0 y0_1 y0_2 y0_3 y0_4 y0_5 a2 ls hl H locs hH hf
      rw [fL_becomeLike_47] at hf
      refine lv_iload_n hx hb dX1_becomeLike_47 rfl (lv_at hl 2 rfl) ?_
      refine lv_aload_n hx hb dX1_becomeLike_48 rfl (lv_at hl 0 rfl) ?_
      refine gX1_15 hC hH.1 0 rfl (v := .int y0_1) rfl dX1_becomeLike_49 ?_
      refine lv_icmp_ge (tgt := 71) hx hb dX1_becomeLike_52 (by decide) (fun c1 => ?_) (fun c1 => ?_)
      · have hf := ite_t hf c1
        have hf := Option.some.inj hf
        subst hf
        exact e_Wv hC hH hr hlocks rfl dX1_becomeLike_71
      · have hf := ite_f hf c1
        refine lv_aload_n hx hb dX1_becomeLike_55 rfl (lv_at hl 0 rfl) ?_
        refine lv_iload_n hx hb dX1_becomeLike_56 rfl (lv_at hl 2 rfl) ?_
        refine lv_aload_n hx hb dX1_becomeLike_57 rfl (lv_at hl 1 rfl) ?_
        refine lv_iload_n hx hb dX1_becomeLike_58 rfl (lv_at hl 2 rfl) ?_
        obtain ⟨t2, ht2, hf⟩ := ob hf
        refine k_PVi hC LX1_42 ⟨Nat.le_of_ble_eq_true rfl, Nat.le_of_ble_eq_true rfl⟩ ⟨Nat.zero_le _, Nat.zero_le _⟩ (cL_at l E ad2 q1_weights q1_size q1_marks q1_came q1_left q1_swaps a2 t2 ht2) rfl rfl (hH.1.sub (ws' := wL E ad2 q1_weights q1_size q1_marks q1_came q1_left q1_swaps) [2, 3] rfl) rfl rfl hl.1 rfl (Nat.le_of_ble_eq_true rfl) rfl dX1_becomeLike_59 (fun hz59 => ?_)
        obtain ⟨t3, ht3, hf⟩ := ob hf
        refine k_WVv hC LX1_53 ⟨Nat.le_of_ble_eq_true rfl, Nat.le_of_ble_eq_true rfl⟩ ⟨Nat.zero_le _, Nat.zero_le _⟩ (cL_lay l E ad y0_0 y0_1 y0_2 y0_3 y0_4 y0_5 a2 t2 t3 ht3) rfl rfl hH [0, 1] rfl rfl rfl (W1 := wL E ad t3 y0_1 y0_2 y0_3 y0_4 y0_5 ++ wL E ad2 q1_weights q1_size q1_marks q1_came q1_left q1_swaps) rfl rfl rfl hl.1 rfl (Nat.le_of_ble_eq_true rfl) rfl dX1_becomeLike_62 (fun H locs hz62 hH => ?_)
        refine lv_iinc (v := (a2 + (1 : Int32))) (lv' := [(2, .int (a2 + (1 : Int32))), (0, .ref (ad 0)), (1, .ref (ad2 0))]) hx hb dX1_becomeLike_65 hl (k := 2) rfl rfl (by decide) rfl (fun ls hl => ?_)
        refine lv_goto (tgt := 47) hx hb dX1_becomeLike_68 (by decide) ?_
        exact ih t3 y0_1 y0_2 y0_3 y0_4 y0_5 (a2 + (1 : Int32)) ls (lv_sub hl [1, 2, 0] rfl) _ _ hH hf
  intro H locs hH
  rw [fL_becomeLike] at hf
  refine lv_aload_n hx hb dX1_becomeLike_0 rfl (lv_at hl 1 rfl) ?_
  refine lv_ifnonnull (tgt := 5) hx hb dX1_becomeLike_1 (by decide) ?_
  refine lv_aload_n hx hb dX1_becomeLike_5 rfl (lv_at hl 0 rfl) ?_
  refine lv_aload_n hx hb dX1_becomeLike_6 rfl (lv_at hl 1 rfl) ?_
  refine gX1_15 hC hH.1 2 rfl (v := .int q1_size) rfl dX1_becomeLike_7 ?_
  refine pX1_15 hC hH 0 rfl (v := .int q1_size) rfl rfl (Nat.le_of_ble_eq_true rfl) (W1 := wL E ad q0_weights q1_size q0_marks q0_came q0_left q0_swaps ++ wL E ad2 q1_weights q1_size q1_marks q1_came q1_left q1_swaps) rfl dX1_becomeLike_10 (fun H locs hH => ?_)
  refine lv_aload_n hx hb dX1_becomeLike_13 rfl (lv_at hl 0 rfl) ?_
  refine lv_aload_n hx hb dX1_becomeLike_14 rfl (lv_at hl 1 rfl) ?_
  refine gX1_28 hC hH.1 2 rfl (v := .long q1_marks) rfl dX1_becomeLike_15 ?_
  refine pX1_28 hC hH 0 rfl (v := .long q1_marks) rfl rfl (Nat.le_of_ble_eq_true rfl) (W1 := wL E ad q0_weights q1_size q1_marks q0_came q0_left q0_swaps ++ wL E ad2 q1_weights q1_size q1_marks q1_came q1_left q1_swaps) rfl dX1_becomeLike_18 (fun H locs hH => ?_)
  refine lv_aload_n hx hb dX1_becomeLike_21 rfl (lv_at hl 0 rfl) ?_
  refine lv_aload_n hx hb dX1_becomeLike_22 rfl (lv_at hl 1 rfl) ?_
  refine gX1_19 hC hH.1 2 rfl (v := .int q1_came) rfl dX1_becomeLike_23 ?_
  refine pX1_19 hC hH 0 rfl (v := .int q1_came) rfl rfl (Nat.le_of_ble_eq_true rfl) (W1 := wL E ad q0_weights q1_size q1_marks q1_came q0_left q0_swaps ++ wL E ad2 q1_weights q1_size q1_marks q1_came q1_left q1_swaps) rfl dX1_becomeLike_26 (fun H locs hH => ?_)
  refine lv_aload_n hx hb dX1_becomeLike_29 rfl (lv_at hl 0 rfl) ?_
  refine lv_aload_n hx hb dX1_becomeLike_30 rfl (lv_at hl 1 rfl) ?_
  refine gX1_22 hC hH.1 2 rfl (v := .int q1_left) rfl dX1_becomeLike_31 ?_
  refine pX1_22 hC hH 0 rfl (v := .int q1_left) rfl rfl (Nat.le_of_ble_eq_true rfl) (W1 := wL E ad q0_weights q1_size q1_marks q1_came q1_left q0_swaps ++ wL E ad2 q1_weights q1_size q1_marks q1_came q1_left q1_swaps) rfl dX1_becomeLike_34 (fun H locs hH => ?_)
  refine lv_aload_n hx hb dX1_becomeLike_37 rfl (lv_at hl 0 rfl) ?_
  refine lv_aload_n hx hb dX1_becomeLike_38 rfl (lv_at hl 1 rfl) ?_
  refine gX1_25 hC hH.1 2 rfl (v := .int q1_swaps) rfl dX1_becomeLike_39 ?_
  refine pX1_25 hC hH 0 rfl (v := .int q1_swaps) rfl rfl (Nat.le_of_ble_eq_true rfl) (W1 := wL E ad q0_weights q1_size q1_marks q1_came q1_left q1_swaps ++ wL E ad2 q1_weights q1_size q1_marks q1_came q1_left q1_swaps) rfl dX1_becomeLike_42 (fun H locs hH => ?_)
  refine lv_iconst (v := 0) hx hb dX1_becomeLike_45 (by decide) ?_
  refine lv_istore_n (lv' := [(2, .int (0 : Int32)), (0, .ref (ad 0)), (1, .ref (ad2 0))]) hx hb dX1_becomeLike_46 rfl hl (by decide) rfl (fun ls hl => ?_)
  exact L47 FU q0_weights q1_size q1_marks q1_came q1_left q1_swaps (0 : Int32) ls (lv_sub hl [1, 2, 0] rfl) _ _ hH hf
