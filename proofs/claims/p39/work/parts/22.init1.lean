abbrev rmL_init : Room := { frames := 1, cells := 1, slots := 64, locals := 20 }
set_option maxHeartbeats 8000000 in
set_option maxRecDepth 100000 in
theorem iL_init (l : Launch) (E : eE) (h0 sz : Nat) : cI l E yX1_init cX1_init 1 rmL_init h0 sz (.inr (1, [.null, .int 0, .long 0, .int 0, .int 0, .int 0])) (fun ad => wL E ad (fun _ => 0) (0 : Int32) (0 : Int64) (0 : Int32) (0 : Int32) (0 : Int32)) 1 64 := by
  refine Met.ofW (cc := cX1_init) (maxL := 1) (ret := none) (by decide) rfl ?_
  intro p e s m args below meth c s₁ B hml hv
  obtain ⟨hargs, hsz, hP, hKI, hD0⟩ := hv
  have hK := hKI.1
  have hx := B.exec
  have hb := B.bytes
  have hr := B.returns
  have hts := atoms_spec (ws := ws_ yX1_init cX1_init 1 none) B.pre
  have hta : ∀ w ∈ lw_all, w.before args s = true := fun w h => hts w (List.mem_cons_of_mem _ h)
  have hown : s.vm.findClass RX1 = some m.cls := findClass_of_methodNamed B.named
  have hlocks := B.notSynchronized
  have hin : meth.name = "<init>" := (name_of_methodNamed B.named B.method).1
  subst hsz
  have hD := hD0.self (sz := s.heap.size)
  generalize hAe : va_A [(h0, .inr (1, [.null, .int 0, .long 0, .int 0, .int 0, .int 0]))] s.heap.size = A at hD ⊢
  have hA : ∀ q : Nat, s.heap.size ≤ q → A q := fun q h => by rw [← hAe]; exact Or.inr h
  have hS : va_S A s.heap s.heap [] := va_S.rf
  obtain ⟨ls, he, hl⟩ := entry_ (m := m) (n := 1) hargs (Nat.le_of_ble_eq_true rfl)
  rw [he]
  have hl : lv_has ls 1 [(0, .ref h0)] := hl
  refine lv_aload_n hx hb dX1_init_0 rfl (lv_at hl 0 rfl) ?_
  refine W.objInit hx hb hown (hta _ q1_29) (hta _ q1_22) (hta _ q1_23) rfl (by rw [hml]; exact hl.1) rfl dX1_init_1 (Nat.le_of_ble_eq_true rfl) (Nat.le_of_ble_eq_true rfl) ?_
  refine W.eq (g2 := F0 m 4 ls []) rfl ?_
  refine lv_aload_n hx hb dX1_init_4 rfl (lv_at hl 0 rfl) ?_
  refine lv_bipush (v := 64) hx hb dX1_init_5 (by decide) ?_
  refine va_newa (atype := .int) (ty := .int) (N' := 64) (a0 := (64, .inl (fun _ => 0))) hx hb (hta _ q1_49) rfl hK.1 hP hD hS hA (fun _ => rfl) (by decide) (by decide) (by decide) (Nat.le_of_ble_eq_true rfl) (Nat.le_of_ble_eq_true rfl) dX1_init_7 (fun q7 c7 H hK2 hP hD hS => ?_)
  obtain rfl := id_int hK hK2
  clear hK2
  have hP : va_P E.1 vwCl ([(h0, .inr (1, [.null, .int 0, .long 0, .int 0, .int 0, .int 0])), (q7, .inl (E.2 0, 64, .inl (fun _ => 0)))]) H := hP
  have hD : va_D A ([(h0, .inr (1, [.null, .int 0, .long 0, .int 0, .int 0, .int 0])), (q7, .inl (E.2 0, 64, .inl (fun _ => 0)))]) := hD
  refine va_putF (D := E.1) (ci := 1) (v := .ref q7) (ty := .array .int) (C := RX1) (T := TX1) (N := 6) hx hb hta inX1 tyX1 tyX1_ok nmX1 hown hK.1 hP hD hS 0 rfl rfl 0 (by decide) (hta _ q1_30) (fun _ h9 => h9) rfl hin rfl (by decide +kernel) rfl rfl (Nat.le_of_ble_eq_true rfl) dX1_init_9 (fun H locs hP hD hS => ?_)
  have hP : va_P E.1 vwCl ([(h0, .inr (1, [.ref q7, .int 0, .long 0, .int 0, .int 0, .int 0])), (q7, .inl (E.2 0, 64, .inl (fun _ => 0)))]) H := hP
  have hD : va_D A ([(h0, .inr (1, [.ref q7, .int 0, .long 0, .int 0, .int 0, .int 0])), (q7, .inl (E.2 0, 64, .inl (fun _ => 0)))]) := hD
  refine W.widen (k := 1) (n := 64) (by omega) (by omega) ?_
  exact W.vret hx hb hr (fun t ht hW => ⟨⟨(), rfl, trivial, fun k => if k = 0 then h0 else if k = 1 then q7 else 0, rfl, by rw [ht]; exact hP, hD⟩, hS.F ht⟩) hS.2.2 dX1_init_12
abbrev rmN_init : Room := { frames := 1, cells := 1, slots := 128, locals := 20 }
set_option maxHeartbeats 8000000 in
set_option maxRecDepth 100000 in
theorem iN_init (l : Launch) (E : eE) (h0 sz : Nat) : cI l E yX2_init cX2_init 1 rmN_init h0 sz (.inr (2, [.null, .int 0])) (fun ad => wN E ad (fun _ => 0) (0 : Int32)) 1 128 := by
  refine Met.ofW (cc := cX2_init) (maxL := 1) (ret := none) (by decide) rfl ?_
  intro p e s m args below meth c s₁ B hml hv
  obtain ⟨hargs, hsz, hP, hKI, hD0⟩ := hv
  have hK := hKI.1
  have hx := B.exec
  have hb := B.bytes
  have hr := B.returns
  have hts := atoms_spec (ws := ws_ yX2_init cX2_init 1 none) B.pre
  have hta : ∀ w ∈ lw_all, w.before args s = true := fun w h => hts w (List.mem_cons_of_mem _ h)
  have hown : s.vm.findClass RX2 = some m.cls := findClass_of_methodNamed B.named
  have hlocks := B.notSynchronized
  have hin : meth.name = "<init>" := (name_of_methodNamed B.named B.method).1
  subst hsz
  have hD := hD0.self (sz := s.heap.size)
  generalize hAe : va_A [(h0, .inr (2, [.null, .int 0]))] s.heap.size = A at hD ⊢
  have hA : ∀ q : Nat, s.heap.size ≤ q → A q := fun q h => by rw [← hAe]; exact Or.inr h
  have hS : va_S A s.heap s.heap [] := va_S.rf
  obtain ⟨ls, he, hl⟩ := entry_ (m := m) (n := 1) hargs (Nat.le_of_ble_eq_true rfl)
  rw [he]
  have hl : lv_has ls 1 [(0, .ref h0)] := hl
  refine lv_aload_n hx hb dX2_init_0 rfl (lv_at hl 0 rfl) ?_
  refine W.objInit hx hb hown (hta _ q1_175) (hta _ q1_22) (hta _ q1_23) rfl (by rw [hml]; exact hl.1) rfl dX2_init_1 (Nat.le_of_ble_eq_true rfl) (Nat.le_of_ble_eq_true rfl) ?_
  refine W.eq (g2 := F0 m 4 ls []) rfl ?_
  refine lv_aload_n hx hb dX2_init_4 rfl (lv_at hl 0 rfl) ?_
  refine lv_sipush (v := 128) hx hb dX2_init_5 (by decide) ?_
  refine va_newa (atype := .int) (ty := .int) (N' := 128) (a0 := (128, .inl (fun _ => 0))) hx hb (hta _ q1_49) rfl hK.1 hP hD hS hA (fun _ => rfl) (by decide) (by decide) (by decide) (Nat.le_of_ble_eq_true rfl) (Nat.le_of_ble_eq_true rfl) dX2_init_8 (fun q8 c8 H hK2 hP hD hS => ?_)
  obtain rfl := id_int hK hK2
  clear hK2
  have hP : va_P E.1 vwCl ([(h0, .inr (2, [.null, .int 0])), (q8, .inl (E.2 0, 128, .inl (fun _ => 0)))]) H := hP
  have hD : va_D A ([(h0, .inr (2, [.null, .int 0])), (q8, .inl (E.2 0, 128, .inl (fun _ => 0)))]) := hD
  refine va_putF (D := E.1) (ci := 2) (v := .ref q8) (ty := .array .int) (C := RX2) (T := TX2) (N := 2) hx hb hta inX2 tyX2 tyX2_ok nmX2 hown hK.1 hP hD hS 0 rfl rfl 0 (by decide) (hta _ q1_176) (fun _ h9 => h9) rfl hin rfl (by decide +kernel) rfl rfl (Nat.le_of_ble_eq_true rfl) dX2_init_10 (fun H locs hP hD hS => ?_)
  have hP : va_P E.1 vwCl ([(h0, .inr (2, [.ref q8, .int 0])), (q8, .inl (E.2 0, 128, .inl (fun _ => 0)))]) H := hP
  have hD : va_D A ([(h0, .inr (2, [.ref q8, .int 0])), (q8, .inl (E.2 0, 128, .inl (fun _ => 0)))]) := hD
  refine W.widen (k := 1) (n := 128) (by omega) (by omega) ?_
  exact W.vret hx hb hr (fun t ht hW => ⟨⟨(), rfl, trivial, fun k => if k = 0 then h0 else if k = 1 then q8 else 0, rfl, by rw [ht]; exact hP, hD⟩, hS.F ht⟩) hS.2.2 dX2_init_13
abbrev rmZ_init : Room := { frames := 1, cells := 1, slots := 64, locals := 20 }
set_option maxHeartbeats 8000000 in
set_option maxRecDepth 100000 in
theorem iZ_init (l : Launch) (E : eE) (h0 sz : Nat) : cI l E yX5_init cX5_init 1 rmZ_init h0 sz (.inr (5, [.null, .int 0])) (fun ad => wZ E ad (fun _ => 0) (0 : Int32)) 1 64 := by
  refine Met.ofW (cc := cX5_init) (maxL := 1) (ret := none) (by decide) rfl ?_
  intro p e s m args below meth c s₁ B hml hv
  obtain ⟨hargs, hsz, hP, hKI, hD0⟩ := hv
  have hK := hKI.1
  have hx := B.exec
  have hb := B.bytes
  have hr := B.returns
  have hts := atoms_spec (ws := ws_ yX5_init cX5_init 1 none) B.pre
  have hta : ∀ w ∈ lw_all, w.before args s = true := fun w h => hts w (List.mem_cons_of_mem _ h)
  have hown : s.vm.findClass RX5 = some m.cls := findClass_of_methodNamed B.named
  have hlocks := B.notSynchronized
  have hin : meth.name = "<init>" := (name_of_methodNamed B.named B.method).1
  subst hsz
  have hD := hD0.self (sz := s.heap.size)
  generalize hAe : va_A [(h0, .inr (5, [.null, .int 0]))] s.heap.size = A at hD ⊢
  have hA : ∀ q : Nat, s.heap.size ≤ q → A q := fun q h => by rw [← hAe]; exact Or.inr h
  have hS : va_S A s.heap s.heap [] := va_S.rf
  obtain ⟨ls, he, hl⟩ := entry_ (m := m) (n := 1) hargs (Nat.le_of_ble_eq_true rfl)
  rw [he]
  have hl : lv_has ls 1 [(0, .ref h0)] := hl
  refine lv_aload_n hx hb dX5_init_0 rfl (lv_at hl 0 rfl) ?_
  refine W.objInit hx hb hown (hta _ q1_131) (hta _ q1_22) (hta _ q1_23) rfl (by rw [hml]; exact hl.1) rfl dX5_init_1 (Nat.le_of_ble_eq_true rfl) (Nat.le_of_ble_eq_true rfl) ?_
  refine W.eq (g2 := F0 m 4 ls []) rfl ?_
  refine lv_aload_n hx hb dX5_init_4 rfl (lv_at hl 0 rfl) ?_
  refine lv_bipush (v := 64) hx hb dX5_init_5 (by decide) ?_
  refine va_newa (atype := .int) (ty := .int) (N' := 64) (a0 := (64, .inl (fun _ => 0))) hx hb (hta _ q1_49) rfl hK.1 hP hD hS hA (fun _ => rfl) (by decide) (by decide) (by decide) (Nat.le_of_ble_eq_true rfl) (Nat.le_of_ble_eq_true rfl) dX5_init_7 (fun q7 c7 H hK2 hP hD hS => ?_)
  obtain rfl := id_int hK hK2
  clear hK2
  have hP : va_P E.1 vwCl ([(h0, .inr (5, [.null, .int 0])), (q7, .inl (E.2 0, 64, .inl (fun _ => 0)))]) H := hP
  have hD : va_D A ([(h0, .inr (5, [.null, .int 0])), (q7, .inl (E.2 0, 64, .inl (fun _ => 0)))]) := hD
  refine va_putF (D := E.1) (ci := 5) (v := .ref q7) (ty := .array .int) (C := RX5) (T := TX5) (N := 2) hx hb hta inX5 tyX5 tyX5_ok nmX5 hown hK.1 hP hD hS 0 rfl rfl 0 (by decide) (hta _ q1_132) (fun _ h9 => h9) rfl hin rfl (by decide +kernel) rfl rfl (Nat.le_of_ble_eq_true rfl) dX5_init_9 (fun H locs hP hD hS => ?_)
  have hP : va_P E.1 vwCl ([(h0, .inr (5, [.ref q7, .int 0])), (q7, .inl (E.2 0, 64, .inl (fun _ => 0)))]) H := hP
  have hD : va_D A ([(h0, .inr (5, [.ref q7, .int 0])), (q7, .inl (E.2 0, 64, .inl (fun _ => 0)))]) := hD
  refine W.widen (k := 1) (n := 64) (by omega) (by omega) ?_
  exact W.vret hx hb hr (fun t ht hW => ⟨⟨(), rfl, trivial, fun k => if k = 0 then h0 else if k = 1 then q7 else 0, rfl, by rw [ht]; exact hP, hD⟩, hS.F ht⟩) hS.2.2 dX5_init_12
abbrev rmY_init : Room := { frames := 1, cells := 1, slots := 32, locals := 20 }
set_option maxHeartbeats 8000000 in
set_option maxRecDepth 100000 in
theorem iY_init (l : Launch) (E : eE) (h0 sz : Nat) : cI l E yX6_init cX6_init 1 rmY_init h0 sz (.inr (6, [.null])) (fun ad => wY E ad (fun _ => 0)) 1 32 := by
  refine Met.ofW (cc := cX6_init) (maxL := 1) (ret := none) (by decide) rfl ?_
  intro p e s m args below meth c s₁ B hml hv
  obtain ⟨hargs, hsz, hP, hKI, hD0⟩ := hv
  have hK := hKI.1
  have hx := B.exec
  have hb := B.bytes
  have hr := B.returns
  have hts := atoms_spec (ws := ws_ yX6_init cX6_init 1 none) B.pre
  have hta : ∀ w ∈ lw_all, w.before args s = true := fun w h => hts w (List.mem_cons_of_mem _ h)
  have hown : s.vm.findClass RX6 = some m.cls := findClass_of_methodNamed B.named
  have hlocks := B.notSynchronized
  have hin : meth.name = "<init>" := (name_of_methodNamed B.named B.method).1
  subst hsz
  have hD := hD0.self (sz := s.heap.size)
  generalize hAe : va_A [(h0, .inr (6, [.null]))] s.heap.size = A at hD ⊢
  have hA : ∀ q : Nat, s.heap.size ≤ q → A q := fun q h => by rw [← hAe]; exact Or.inr h
  have hS : va_S A s.heap s.heap [] := va_S.rf
  obtain ⟨ls, he, hl⟩ := entry_ (m := m) (n := 1) hargs (Nat.le_of_ble_eq_true rfl)
  rw [he]
  have hl : lv_has ls 1 [(0, .ref h0)] := hl
  refine lv_aload_n hx hb dX6_init_0 rfl (lv_at hl 0 rfl) ?_
  refine W.objInit hx hb hown (hta _ q1_121) (hta _ q1_22) (hta _ q1_23) rfl (by rw [hml]; exact hl.1) rfl dX6_init_1 (Nat.le_of_ble_eq_true rfl) (Nat.le_of_ble_eq_true rfl) ?_
  refine W.eq (g2 := F0 m 4 ls []) rfl ?_
  refine lv_aload_n hx hb dX6_init_4 rfl (lv_at hl 0 rfl) ?_
  refine lv_bipush (v := 32) hx hb dX6_init_5 (by decide) ?_
  refine va_newa (atype := .int) (ty := .int) (N' := 32) (a0 := (32, .inl (fun _ => 0))) hx hb (hta _ q1_49) rfl hK.1 hP hD hS hA (fun _ => rfl) (by decide) (by decide) (by decide) (Nat.le_of_ble_eq_true rfl) (Nat.le_of_ble_eq_true rfl) dX6_init_7 (fun q7 c7 H hK2 hP hD hS => ?_)
  obtain rfl := id_int hK hK2
  clear hK2
  have hP : va_P E.1 vwCl ([(h0, .inr (6, [.null])), (q7, .inl (E.2 0, 32, .inl (fun _ => 0)))]) H := hP
  have hD : va_D A ([(h0, .inr (6, [.null])), (q7, .inl (E.2 0, 32, .inl (fun _ => 0)))]) := hD
  refine va_putF (D := E.1) (ci := 6) (v := .ref q7) (ty := .array .int) (C := RX6) (T := TX6) (N := 1) hx hb hta inX6 tyX6 tyX6_ok nmX6 hown hK.1 hP hD hS 0 rfl rfl 0 (by decide) (hta _ q1_122) (fun _ h9 => h9) rfl hin rfl (by decide +kernel) rfl rfl (Nat.le_of_ble_eq_true rfl) dX6_init_9 (fun H locs hP hD hS => ?_)
  have hP : va_P E.1 vwCl ([(h0, .inr (6, [.ref q7])), (q7, .inl (E.2 0, 32, .inl (fun _ => 0)))]) H := hP
  have hD : va_D A ([(h0, .inr (6, [.ref q7])), (q7, .inl (E.2 0, 32, .inl (fun _ => 0)))]) := hD
  refine W.widen (k := 1) (n := 32) (by omega) (by omega) ?_
  exact W.vret hx hb hr (fun t ht hW => ⟨⟨(), rfl, trivial, fun k => if k = 0 then h0 else if k = 1 then q7 else 0, rfl, by rw [ht]; exact hP, hD⟩, hS.F ht⟩) hS.2.2 dX6_init_12
abbrev rmB_init : Room := { frames := 1, cells := 2, slots := 128, locals := 20 }
set_option maxHeartbeats 8000000 in
set_option maxRecDepth 100000 in
theorem iB_init (l : Launch) (E : eE) (h0 sz : Nat) : cI l E yX0_init cX0_init 1 rmB_init h0 sz (.inr (0, [.null, .null, .int 0, .int 0])) (fun ad => wB E ad (fun _ => 0) (fun _ => 0) (0 : Int32) (0 : Int32)) 2 128 := by
  refine Met.ofW (cc := cX0_init) (maxL := 1) (ret := none) (by decide) rfl ?_
  intro p e s m args below meth c s₁ B hml hv
  obtain ⟨hargs, hsz, hP, hKI, hD0⟩ := hv
  have hK := hKI.1
  have hx := B.exec
  have hb := B.bytes
  have hr := B.returns
  have hts := atoms_spec (ws := ws_ yX0_init cX0_init 1 none) B.pre
  have hta : ∀ w ∈ lw_all, w.before args s = true := fun w h => hts w (List.mem_cons_of_mem _ h)
  have hown : s.vm.findClass RX0 = some m.cls := findClass_of_methodNamed B.named
  have hlocks := B.notSynchronized
  have hin : meth.name = "<init>" := (name_of_methodNamed B.named B.method).1
  subst hsz
  have hD := hD0.self (sz := s.heap.size)
  generalize hAe : va_A [(h0, .inr (0, [.null, .null, .int 0, .int 0]))] s.heap.size = A at hD ⊢
  have hA : ∀ q : Nat, s.heap.size ≤ q → A q := fun q h => by rw [← hAe]; exact Or.inr h
  have hS : va_S A s.heap s.heap [] := va_S.rf
  obtain ⟨ls, he, hl⟩ := entry_ (m := m) (n := 1) hargs (Nat.le_of_ble_eq_true rfl)
  rw [he]
  have hl : lv_has ls 1 [(0, .ref h0)] := hl
  refine lv_aload_n hx hb dX0_init_0 rfl (lv_at hl 0 rfl) ?_
  refine W.objInit hx hb hown (hta _ q1_102) (hta _ q1_22) (hta _ q1_23) rfl (by rw [hml]; exact hl.1) rfl dX0_init_1 (Nat.le_of_ble_eq_true rfl) (Nat.le_of_ble_eq_true rfl) ?_
  refine W.eq (g2 := F0 m 4 ls []) rfl ?_
  refine lv_aload_n hx hb dX0_init_4 rfl (lv_at hl 0 rfl) ?_
  refine lv_bipush (v := 64) hx hb dX0_init_5 (by decide) ?_
  refine va_newa (atype := .int) (ty := .int) (N' := 64) (a0 := (64, .inl (fun _ => 0))) hx hb (hta _ q1_49) rfl hK.1 hP hD hS hA (fun _ => rfl) (by decide) (by decide) (by decide) (Nat.le_of_ble_eq_true rfl) (Nat.le_of_ble_eq_true rfl) dX0_init_7 (fun q7 c7 H hK2 hP hD hS => ?_)
  obtain rfl := id_int hK hK2
  clear hK2
  have hP : va_P E.1 vwCl ([(h0, .inr (0, [.null, .null, .int 0, .int 0])), (q7, .inl (E.2 0, 64, .inl (fun _ => 0)))]) H := hP
  have hD : va_D A ([(h0, .inr (0, [.null, .null, .int 0, .int 0])), (q7, .inl (E.2 0, 64, .inl (fun _ => 0)))]) := hD
  refine va_putF (D := E.1) (ci := 0) (v := .ref q7) (ty := .array .int) (C := RX0) (T := TX0) (N := 4) hx hb hta inX0 tyX0 tyX0_ok nmX0 hown hK.1 hP hD hS 0 rfl rfl 0 (by decide) (hta _ q1_103) (fun _ h9 => h9) rfl hin rfl (by decide +kernel) rfl rfl (Nat.le_of_ble_eq_true rfl) dX0_init_9 (fun H locs hP hD hS => ?_)
  have hP : va_P E.1 vwCl ([(h0, .inr (0, [.ref q7, .null, .int 0, .int 0])), (q7, .inl (E.2 0, 64, .inl (fun _ => 0)))]) H := hP
  have hD : va_D A ([(h0, .inr (0, [.ref q7, .null, .int 0, .int 0])), (q7, .inl (E.2 0, 64, .inl (fun _ => 0)))]) := hD
  refine lv_aload_n hx hb dX0_init_12 rfl (lv_at hl 0 rfl) ?_
  refine lv_bipush (v := 64) hx hb dX0_init_13 (by decide) ?_
  refine va_newa (atype := .int) (ty := .int) (N' := 64) (a0 := (64, .inl (fun _ => 0))) hx hb (hta _ q1_49) rfl hK.1 hP hD hS hA (fun _ => rfl) (by decide) (by decide) (by decide) (Nat.le_of_ble_eq_true rfl) (Nat.le_of_ble_eq_true rfl) dX0_init_15 (fun q15 c15 H hK2 hP hD hS => ?_)
  obtain rfl := id_int hK hK2
  clear hK2
  have hP : va_P E.1 vwCl ([(h0, .inr (0, [.ref q7, .null, .int 0, .int 0])), (q7, .inl (E.2 0, 64, .inl (fun _ => 0))), (q15, .inl (E.2 0, 64, .inl (fun _ => 0)))]) H := hP
  have hD : va_D A ([(h0, .inr (0, [.ref q7, .null, .int 0, .int 0])), (q7, .inl (E.2 0, 64, .inl (fun _ => 0))), (q15, .inl (E.2 0, 64, .inl (fun _ => 0)))]) := hD
  refine va_putF (D := E.1) (ci := 0) (v := .ref q15) (ty := .array .int) (C := RX0) (T := TX0) (N := 4) hx hb hta inX0 tyX0 tyX0_ok nmX0 hown hK.1 hP hD hS 0 rfl rfl 1 (by decide) (hta _ q1_104) (fun _ h9 => h9) rfl hin rfl (by decide +kernel) rfl rfl (Nat.le_of_ble_eq_true rfl) dX0_init_17 (fun H locs hP hD hS => ?_)
  have hP : va_P E.1 vwCl ([(h0, .inr (0, [.ref q7, .ref q15, .int 0, .int 0])), (q7, .inl (E.2 0, 64, .inl (fun _ => 0))), (q15, .inl (E.2 0, 64, .inl (fun _ => 0)))]) H := hP
  have hD : va_D A ([(h0, .inr (0, [.ref q7, .ref q15, .int 0, .int 0])), (q7, .inl (E.2 0, 64, .inl (fun _ => 0))), (q15, .inl (E.2 0, 64, .inl (fun _ => 0)))]) := hD
  refine W.widen (k := 2) (n := 128) (by omega) (by omega) ?_
  exact W.vret hx hb hr (fun t ht hW => ⟨⟨(), rfl, trivial, fun k => if k = 0 then h0 else if k = 1 then q7 else if k = 2 then q15 else 0, rfl, by rw [ht]; exact hP, hD⟩, hS.F ht⟩) hS.2.2 dX0_init_20
abbrev rmT_init : Room := { frames := 1, cells := 4, slots := 90, locals := 20 }
set_option maxHeartbeats 8000000 in
set_option maxRecDepth 100000 in
theorem iT_init (l : Launch) (E : eE) (h0 sz : Nat) : cI l E yX7_init cX7_init 1 rmT_init h0 sz (.inr (7, [.null, .int 0, .null, .null, .null, .int 0, .int 0, .int 0])) (fun ad => wT E ad (fun _ => 0) (0 : Int32) (fun _ => 0) (fun _ => 0) (fun _ => 0) (0 : Int32) (0 : Int32) (0 : Int32)) 4 90 := by
  refine Met.ofW (cc := cX7_init) (maxL := 1) (ret := none) (by decide) rfl ?_
  intro p e s m args below meth c s₁ B hml hv
  obtain ⟨hargs, hsz, hP, hKI, hD0⟩ := hv
  have hK := hKI.1
  have hx := B.exec
  have hb := B.bytes
  have hr := B.returns
  have hts := atoms_spec (ws := ws_ yX7_init cX7_init 1 none) B.pre
  have hta : ∀ w ∈ lw_all, w.before args s = true := fun w h => hts w (List.mem_cons_of_mem _ h)
  have hown : s.vm.findClass RX7 = some m.cls := findClass_of_methodNamed B.named
  have hlocks := B.notSynchronized
  have hin : meth.name = "<init>" := (name_of_methodNamed B.named B.method).1
  subst hsz
  have hD := hD0.self (sz := s.heap.size)
  generalize hAe : va_A [(h0, .inr (7, [.null, .int 0, .null, .null, .null, .int 0, .int 0, .int 0]))] s.heap.size = A at hD ⊢
  have hA : ∀ q : Nat, s.heap.size ≤ q → A q := fun q h => by rw [← hAe]; exact Or.inr h
  have hS : va_S A s.heap s.heap [] := va_S.rf
  obtain ⟨ls, he, hl⟩ := entry_ (m := m) (n := 1) hargs (Nat.le_of_ble_eq_true rfl)
  rw [he]
  have hl : lv_has ls 1 [(0, .ref h0)] := hl
  refine lv_aload_n hx hb dX7_init_0 rfl (lv_at hl 0 rfl) ?_
  refine W.objInit hx hb hown (hta _ q1_144) (hta _ q1_22) (hta _ q1_23) rfl (by rw [hml]; exact hl.1) rfl dX7_init_1 (Nat.le_of_ble_eq_true rfl) (Nat.le_of_ble_eq_true rfl) ?_
  refine W.eq (g2 := F0 m 4 ls []) rfl ?_
  refine lv_aload_n hx hb dX7_init_4 rfl (lv_at hl 0 rfl) ?_
  refine lv_bipush (v := 60) hx hb dX7_init_5 (by decide) ?_
  refine va_newa (atype := .int) (ty := .int) (N' := 60) (a0 := (60, .inl (fun _ => 0))) hx hb (hta _ q1_49) rfl hK.1 hP hD hS hA (fun _ => rfl) (by decide) (by decide) (by decide) (Nat.le_of_ble_eq_true rfl) (Nat.le_of_ble_eq_true rfl) dX7_init_7 (fun q7 c7 H hK2 hP hD hS => ?_)
  obtain rfl := id_int hK hK2
  clear hK2
  have hP : va_P E.1 vwCl ([(h0, .inr (7, [.null, .int 0, .null, .null, .null, .int 0, .int 0, .int 0])), (q7, .inl (E.2 0, 60, .inl (fun _ => 0)))]) H := hP
  have hD : va_D A ([(h0, .inr (7, [.null, .int 0, .null, .null, .null, .int 0, .int 0, .int 0])), (q7, .inl (E.2 0, 60, .inl (fun _ => 0)))]) := hD
  refine va_putF (D := E.1) (ci := 7) (v := .ref q7) (ty := .array .int) (C := RX7) (T := TX7) (N := 8) hx hb hta inX7 tyX7 tyX7_ok nmX7 hown hK.1 hP hD hS 0 rfl rfl 0 (by decide) (hta _ q1_145) (fun _ h9 => h9) rfl hin rfl (by decide +kernel) rfl rfl (Nat.le_of_ble_eq_true rfl) dX7_init_9 (fun H locs hP hD hS => ?_)
  have hP : va_P E.1 vwCl ([(h0, .inr (7, [.ref q7, .int 0, .null, .null, .null, .int 0, .int 0, .int 0])), (q7, .inl (E.2 0, 60, .inl (fun _ => 0)))]) H := hP
  have hD : va_D A ([(h0, .inr (7, [.ref q7, .int 0, .null, .null, .null, .int 0, .int 0, .int 0])), (q7, .inl (E.2 0, 60, .inl (fun _ => 0)))]) := hD
  refine lv_aload_n hx hb dX7_init_12 rfl (lv_at hl 0 rfl) ?_
  refine lv_bipush (v := 10) hx hb dX7_init_13 (by decide) ?_
  refine va_newa (atype := .int) (ty := .int) (N' := 10) (a0 := (10, .inl (fun _ => 0))) hx hb (hta _ q1_49) rfl hK.1 hP hD hS hA (fun _ => rfl) (by decide) (by decide) (by decide) (Nat.le_of_ble_eq_true rfl) (Nat.le_of_ble_eq_true rfl) dX7_init_15 (fun q15 c15 H hK2 hP hD hS => ?_)
  obtain rfl := id_int hK hK2
  clear hK2
  have hP : va_P E.1 vwCl ([(h0, .inr (7, [.ref q7, .int 0, .null, .null, .null, .int 0, .int 0, .int 0])), (q7, .inl (E.2 0, 60, .inl (fun _ => 0))), (q15, .inl (E.2 0, 10, .inl (fun _ => 0)))]) H := hP
  have hD : va_D A ([(h0, .inr (7, [.ref q7, .int 0, .null, .null, .null, .int 0, .int 0, .int 0])), (q7, .inl (E.2 0, 60, .inl (fun _ => 0))), (q15, .inl (E.2 0, 10, .inl (fun _ => 0)))]) := hD
  refine va_putF (D := E.1) (ci := 7) (v := .ref q15) (ty := .array .int) (C := RX7) (T := TX7) (N := 8) hx hb hta inX7 tyX7 tyX7_ok nmX7 hown hK.1 hP hD hS 0 rfl rfl 2 (by decide) (hta _ q1_147) (fun _ h9 => h9) rfl hin rfl (by decide +kernel) rfl rfl (Nat.le_of_ble_eq_true rfl) dX7_init_17 (fun H locs hP hD hS => ?_)
  have hP : va_P E.1 vwCl ([(h0, .inr (7, [.ref q7, .int 0, .ref q15, .null, .null, .int 0, .int 0, .int 0])), (q7, .inl (E.2 0, 60, .inl (fun _ => 0))), (q15, .inl (E.2 0, 10, .inl (fun _ => 0)))]) H := hP
  have hD : va_D A ([(h0, .inr (7, [.ref q7, .int 0, .ref q15, .null, .null, .int 0, .int 0, .int 0])), (q7, .inl (E.2 0, 60, .inl (fun _ => 0))), (q15, .inl (E.2 0, 10, .inl (fun _ => 0)))]) := hD
  refine lv_aload_n hx hb dX7_init_20 rfl (lv_at hl 0 rfl) ?_
  refine lv_bipush (v := 10) hx hb dX7_init_21 (by decide) ?_
  refine va_newa (atype := .int) (ty := .int) (N' := 10) (a0 := (10, .inl (fun _ => 0))) hx hb (hta _ q1_49) rfl hK.1 hP hD hS hA (fun _ => rfl) (by decide) (by decide) (by decide) (Nat.le_of_ble_eq_true rfl) (Nat.le_of_ble_eq_true rfl) dX7_init_23 (fun q23 c23 H hK2 hP hD hS => ?_)
  obtain rfl := id_int hK hK2
  clear hK2
  have hP : va_P E.1 vwCl ([(h0, .inr (7, [.ref q7, .int 0, .ref q15, .null, .null, .int 0, .int 0, .int 0])), (q7, .inl (E.2 0, 60, .inl (fun _ => 0))), (q15, .inl (E.2 0, 10, .inl (fun _ => 0))), (q23, .inl (E.2 0, 10, .inl (fun _ => 0)))]) H := hP
  have hD : va_D A ([(h0, .inr (7, [.ref q7, .int 0, .ref q15, .null, .null, .int 0, .int 0, .int 0])), (q7, .inl (E.2 0, 60, .inl (fun _ => 0))), (q15, .inl (E.2 0, 10, .inl (fun _ => 0))), (q23, .inl (E.2 0, 10, .inl (fun _ => 0)))]) := hD
  refine va_putF (D := E.1) (ci := 7) (v := .ref q23) (ty := .array .int) (C := RX7) (T := TX7) (N := 8) hx hb hta inX7 tyX7 tyX7_ok nmX7 hown hK.1 hP hD hS 0 rfl rfl 3 (by decide) (hta _ q1_148) (fun _ h9 => h9) rfl hin rfl (by decide +kernel) rfl rfl (Nat.le_of_ble_eq_true rfl) dX7_init_25 (fun H locs hP hD hS => ?_)
  have hP : va_P E.1 vwCl ([(h0, .inr (7, [.ref q7, .int 0, .ref q15, .ref q23, .null, .int 0, .int 0, .int 0])), (q7, .inl (E.2 0, 60, .inl (fun _ => 0))), (q15, .inl (E.2 0, 10, .inl (fun _ => 0))), (q23, .inl (E.2 0, 10, .inl (fun _ => 0)))]) H := hP
  have hD : va_D A ([(h0, .inr (7, [.ref q7, .int 0, .ref q15, .ref q23, .null, .int 0, .int 0, .int 0])), (q7, .inl (E.2 0, 60, .inl (fun _ => 0))), (q15, .inl (E.2 0, 10, .inl (fun _ => 0))), (q23, .inl (E.2 0, 10, .inl (fun _ => 0)))]) := hD
  refine lv_aload_n hx hb dX7_init_28 rfl (lv_at hl 0 rfl) ?_
  refine lv_bipush (v := 10) hx hb dX7_init_29 (by decide) ?_
  refine va_newa (atype := .int) (ty := .int) (N' := 10) (a0 := (10, .inl (fun _ => 0))) hx hb (hta _ q1_49) rfl hK.1 hP hD hS hA (fun _ => rfl) (by decide) (by decide) (by decide) (Nat.le_of_ble_eq_true rfl) (Nat.le_of_ble_eq_true rfl) dX7_init_31 (fun q31 c31 H hK2 hP hD hS => ?_)
  obtain rfl := id_int hK hK2
  clear hK2
  have hP : va_P E.1 vwCl ([(h0, .inr (7, [.ref q7, .int 0, .ref q15, .ref q23, .null, .int 0, .int 0, .int 0])), (q7, .inl (E.2 0, 60, .inl (fun _ => 0))), (q15, .inl (E.2 0, 10, .inl (fun _ => 0))), (q23, .inl (E.2 0, 10, .inl (fun _ => 0))), (q31, .inl (E.2 0, 10, .inl (fun _ => 0)))]) H := hP
  have hD : va_D A ([(h0, .inr (7, [.ref q7, .int 0, .ref q15, .ref q23, .null, .int 0, .int 0, .int 0])), (q7, .inl (E.2 0, 60, .inl (fun _ => 0))), (q15, .inl (E.2 0, 10, .inl (fun _ => 0))), (q23, .inl (E.2 0, 10, .inl (fun _ => 0))), (q31, .inl (E.2 0, 10, .inl (fun _ => 0)))]) := hD
  refine va_putF (D := E.1) (ci := 7) (v := .ref q31) (ty := .array .int) (C := RX7) (T := TX7) (N := 8) hx hb hta inX7 tyX7 tyX7_ok nmX7 hown hK.1 hP hD hS 0 rfl rfl 4 (by decide) (hta _ q1_149) (fun _ h9 => h9) rfl hin rfl (by decide +kernel) rfl rfl (Nat.le_of_ble_eq_true rfl) dX7_init_33 (fun H locs hP hD hS => ?_)
  have hP : va_P E.1 vwCl ([(h0, .inr (7, [.ref q7, .int 0, .ref q15, .ref q23, .ref q31, .int 0, .int 0, .int 0])), (q7, .inl (E.2 0, 60, .inl (fun _ => 0))), (q15, .inl (E.2 0, 10, .inl (fun _ => 0))), (q23, .inl (E.2 0, 10, .inl (fun _ => 0))), (q31, .inl (E.2 0, 10, .inl (fun _ => 0)))]) H := hP
  have hD : va_D A ([(h0, .inr (7, [.ref q7, .int 0, .ref q15, .ref q23, .ref q31, .int 0, .int 0, .int 0])), (q7, .inl (E.2 0, 60, .inl (fun _ => 0))), (q15, .inl (E.2 0, 10, .inl (fun _ => 0))), (q23, .inl (E.2 0, 10, .inl (fun _ => 0))), (q31, .inl (E.2 0, 10, .inl (fun _ => 0)))]) := hD
  refine W.widen (k := 4) (n := 90) (by omega) (by omega) ?_
  exact W.vret hx hb hr (fun t ht hW => ⟨⟨(), rfl, trivial, fun k => if k = 0 then h0 else if k = 1 then q7 else if k = 2 then q15 else if k = 3 then q23 else if k = 4 then q31 else 0, rfl, by rw [ht]; exact hP, hD⟩, hS.F ht⟩) hS.2.2 dX7_init_36
abbrev rmR_init : Room := { frames := 1, cells := 10, slots := 188, locals := 20 }
set_option maxHeartbeats 8000000 in
set_option maxRecDepth 100000 in
theorem iR_init (l : Launch) (E : eE) (h0 sz : Nat) : cI l E yX4_init cX4_init 1 rmR_init h0 sz (.inr (4, [.null, .null, .null, .null, .null, .int 0])) (fun ad => wR E ad (fun _ => 0) (fun _ _ => 0) (fun _ => 0) (fun _ => 0) (fun _ => 0) (0 : Int32)) 10 188 := by
  refine Met.ofW (cc := cX4_init) (maxL := 1) (ret := none) (by decide) rfl ?_
  intro p e s m args below meth c s₁ B hml hv
  obtain ⟨hargs, hsz, hP, hKI, hD0⟩ := hv
  have hK := hKI.1
  have hx := B.exec
  have hb := B.bytes
  have hr := B.returns
  have hts := atoms_spec (ws := ws_ yX4_init cX4_init 1 none) B.pre
  have hta : ∀ w ∈ lw_all, w.before args s = true := fun w h => hts w (List.mem_cons_of_mem _ h)
  have hown : s.vm.findClass RX4 = some m.cls := findClass_of_methodNamed B.named
  have hlocks := B.notSynchronized
  have hin : meth.name = "<init>" := (name_of_methodNamed B.named B.method).1
  subst hsz
  have hD := hD0.self (sz := s.heap.size)
  generalize hAe : va_A [(h0, .inr (4, [.null, .null, .null, .null, .null, .int 0]))] s.heap.size = A at hD ⊢
  have hA : ∀ q : Nat, s.heap.size ≤ q → A q := fun q h => by rw [← hAe]; exact Or.inr h
  have hS : va_S A s.heap s.heap [] := va_S.rf
  obtain ⟨ls, he, hl⟩ := entry_ (m := m) (n := 1) hargs (Nat.le_of_ble_eq_true rfl)
  rw [he]
  have hl : lv_has ls 1 [(0, .ref h0)] := hl
  refine lv_aload_n hx hb dX4_init_0 rfl (lv_at hl 0 rfl) ?_
  refine W.objInit hx hb hown (hta _ q1_74) (hta _ q1_22) (hta _ q1_23) rfl (by rw [hml]; exact hl.1) rfl dX4_init_1 (Nat.le_of_ble_eq_true rfl) (Nat.le_of_ble_eq_true rfl) ?_
  refine W.eq (g2 := F0 m 4 ls []) rfl ?_
  refine lv_aload_n hx hb dX4_init_4 rfl (lv_at hl 0 rfl) ?_
  refine lv_iconst (v := 5) hx hb dX4_init_5 (by decide) ?_
  refine va_newa (atype := .long) (ty := .long) (N' := 5) (a0 := (5, .inr (.inl (fun _ => 0)))) hx hb (hta _ q1_96) rfl hK.1 hP hD hS hA (fun _ => rfl) (by decide) (by decide) (by decide) (Nat.le_of_ble_eq_true rfl) (Nat.le_of_ble_eq_true rfl) dX4_init_6 (fun q6 c6 H hK2 hP hD hS => ?_)
  obtain rfl := id_long hK hK2
  clear hK2
  have hP : va_P E.1 vwCl ([(h0, .inr (4, [.null, .null, .null, .null, .null, .int 0])), (q6, .inl (E.2 1, 5, .inr (.inl (fun _ => 0))))]) H := hP
  have hD : va_D A ([(h0, .inr (4, [.null, .null, .null, .null, .null, .int 0])), (q6, .inl (E.2 1, 5, .inr (.inl (fun _ => 0))))]) := hD
  refine va_putF (D := E.1) (ci := 4) (v := .ref q6) (ty := .array .long) (C := RX4) (T := TX4) (N := 6) hx hb hta inX4 tyX4 tyX4_ok nmX4 hown hK.1 hP hD hS 0 rfl rfl 0 (by decide) (hta _ q1_77) (fun _ h9 => h9) rfl hin rfl (by decide +kernel) rfl rfl (Nat.le_of_ble_eq_true rfl) dX4_init_8 (fun H locs hP hD hS => ?_)
  have hP : va_P E.1 vwCl ([(h0, .inr (4, [.ref q6, .null, .null, .null, .null, .int 0])), (q6, .inl (E.2 1, 5, .inr (.inl (fun _ => 0))))]) H := hP
  have hD : va_D A ([(h0, .inr (4, [.ref q6, .null, .null, .null, .null, .int 0])), (q6, .inl (E.2 1, 5, .inr (.inl (fun _ => 0))))]) := hD
  refine lv_aload_n hx hb dX4_init_11 rfl (lv_at hl 0 rfl) ?_
  refine lv_iconst (v := 5) hx hb dX4_init_12 (by decide) ?_
  refine lv_bipush (v := 9) hx hb dX4_init_13 (by decide) ?_
  refine va_mna (X := [(h0, .inr (4, [.ref q6, .null, .null, .null, .null, .int 0])), (q6, .inl (E.2 1, 5, .inr (.inl (fun _ => 0))))]) (L := []) (f := fun _ => .inr (0, [])) (ty := .int) (cy := E.2 0) (N' := 5) (K' := 9) (z := (9, .inl (fun _ => 0))) hx hb hown (hta _ q1_75) hKI.2.2 (hta _ q1_49) (hK.1.2 0 _ rfl).2 hK.1 (by simpa [va_pl] using hP) (by simpa [va_pl] using hD) hS hA (by decide) (by decide) (by decide) (by decide) (by decide) (by decide) (by decide) rfl rfl (Nat.le_of_ble_eq_true rfl) (Nat.le_of_ble_eq_true rfl) (fun _ => rfl) dX4_init_15 (fun q15 r15 c15 H hinj hnot hK2 hP hD hS => ?_)
  obtain rfl := id_arr hK hK2
  clear hK2 hnot
  have hP : va_P E.1 vwCl (([(h0, .inr (4, [.ref q6, .null, .null, .null, .null, .int 0])), (q6, .inl (E.2 1, 5, .inr (.inl (fun _ => 0))))] ++ [(q15, .inl (E.2 4, 5, .inr (.inr (.inr (.inr (fun i => if i < 5 then some (r15 i) else none))))))]) ++ [(r15 0, .inl (E.2 0, 9, .inl (fun _ => 0))), (r15 1, .inl (E.2 0, 9, .inl (fun _ => 0))), (r15 2, .inl (E.2 0, 9, .inl (fun _ => 0))), (r15 3, .inl (E.2 0, 9, .inl (fun _ => 0))), (r15 4, .inl (E.2 0, 9, .inl (fun _ => 0)))]) H := by rw [vr_5] at hP; exact hP
  have hD : va_D A (([(h0, .inr (4, [.ref q6, .null, .null, .null, .null, .int 0])), (q6, .inl (E.2 1, 5, .inr (.inl (fun _ => 0))))] ++ [(q15, .inl (E.2 4, 5, .inr (.inr (.inr (.inr (fun i => if i < 5 then some (r15 i) else none))))))]) ++ [(r15 0, .inl (E.2 0, 9, .inl (fun _ => 0))), (r15 1, .inl (E.2 0, 9, .inl (fun _ => 0))), (r15 2, .inl (E.2 0, 9, .inl (fun _ => 0))), (r15 3, .inl (E.2 0, 9, .inl (fun _ => 0))), (r15 4, .inl (E.2 0, 9, .inl (fun _ => 0)))]) := by rw [vr_5] at hD; exact hD
  have hP : va_P E.1 vwCl ([(h0, .inr (4, [.ref q6, .null, .null, .null, .null, .int 0])), (q6, .inl (E.2 1, 5, .inr (.inl (fun _ => 0)))), (q15, .inl (E.2 4, 5, .inr (.inr (.inr (.inr (fun i => if i < 5 then some (r15 i) else none)))))), ((r15 0), .inl (E.2 0, 9, .inl (fun _ => 0))), ((r15 1), .inl (E.2 0, 9, .inl (fun _ => 0))), ((r15 2), .inl (E.2 0, 9, .inl (fun _ => 0))), ((r15 3), .inl (E.2 0, 9, .inl (fun _ => 0))), ((r15 4), .inl (E.2 0, 9, .inl (fun _ => 0)))]) H := hP
  have hD : va_D A ([(h0, .inr (4, [.ref q6, .null, .null, .null, .null, .int 0])), (q6, .inl (E.2 1, 5, .inr (.inl (fun _ => 0)))), (q15, .inl (E.2 4, 5, .inr (.inr (.inr (.inr (fun i => if i < 5 then some (r15 i) else none)))))), ((r15 0), .inl (E.2 0, 9, .inl (fun _ => 0))), ((r15 1), .inl (E.2 0, 9, .inl (fun _ => 0))), ((r15 2), .inl (E.2 0, 9, .inl (fun _ => 0))), ((r15 3), .inl (E.2 0, 9, .inl (fun _ => 0))), ((r15 4), .inl (E.2 0, 9, .inl (fun _ => 0)))]) := hD
  refine va_putF (D := E.1) (ci := 4) (v := .ref q15) (ty := .array (.array .int)) (C := RX4) (T := TX4) (N := 6) hx hb hta inX4 tyX4 tyX4_ok nmX4 hown hK.1 hP hD hS 0 rfl rfl 1 (by decide) (hta _ q1_78) (fun _ h9 => h9) rfl hin rfl (by decide +kernel) rfl rfl (Nat.le_of_ble_eq_true rfl) dX4_init_19 (fun H locs hP hD hS => ?_)
  have hP : va_P E.1 vwCl ([(h0, .inr (4, [.ref q6, .ref q15, .null, .null, .null, .int 0])), (q6, .inl (E.2 1, 5, .inr (.inl (fun _ => 0)))), (q15, .inl (E.2 4, 5, .inr (.inr (.inr (.inr (fun i => if i < 5 then some (r15 i) else none)))))), ((r15 0), .inl (E.2 0, 9, .inl (fun _ => 0))), ((r15 1), .inl (E.2 0, 9, .inl (fun _ => 0))), ((r15 2), .inl (E.2 0, 9, .inl (fun _ => 0))), ((r15 3), .inl (E.2 0, 9, .inl (fun _ => 0))), ((r15 4), .inl (E.2 0, 9, .inl (fun _ => 0)))]) H := hP
  have hD : va_D A ([(h0, .inr (4, [.ref q6, .ref q15, .null, .null, .null, .int 0])), (q6, .inl (E.2 1, 5, .inr (.inl (fun _ => 0)))), (q15, .inl (E.2 4, 5, .inr (.inr (.inr (.inr (fun i => if i < 5 then some (r15 i) else none)))))), ((r15 0), .inl (E.2 0, 9, .inl (fun _ => 0))), ((r15 1), .inl (E.2 0, 9, .inl (fun _ => 0))), ((r15 2), .inl (E.2 0, 9, .inl (fun _ => 0))), ((r15 3), .inl (E.2 0, 9, .inl (fun _ => 0))), ((r15 4), .inl (E.2 0, 9, .inl (fun _ => 0)))]) := hD
  refine lv_aload_n hx hb dX4_init_22 rfl (lv_at hl 0 rfl) ?_
  refine lv_iconst (v := 5) hx hb dX4_init_23 (by decide) ?_
  refine va_newa (atype := .int) (ty := .int) (N' := 5) (a0 := (5, .inl (fun _ => 0))) hx hb (hta _ q1_49) rfl hK.1 hP hD hS hA (fun _ => rfl) (by decide) (by decide) (by decide) (Nat.le_of_ble_eq_true rfl) (Nat.le_of_ble_eq_true rfl) dX4_init_24 (fun q24 c24 H hK2 hP hD hS => ?_)
  obtain rfl := id_int hK hK2
  clear hK2
  have hP : va_P E.1 vwCl ([(h0, .inr (4, [.ref q6, .ref q15, .null, .null, .null, .int 0])), (q6, .inl (E.2 1, 5, .inr (.inl (fun _ => 0)))), (q15, .inl (E.2 4, 5, .inr (.inr (.inr (.inr (fun i => if i < 5 then some (r15 i) else none)))))), ((r15 0), .inl (E.2 0, 9, .inl (fun _ => 0))), ((r15 1), .inl (E.2 0, 9, .inl (fun _ => 0))), ((r15 2), .inl (E.2 0, 9, .inl (fun _ => 0))), ((r15 3), .inl (E.2 0, 9, .inl (fun _ => 0))), ((r15 4), .inl (E.2 0, 9, .inl (fun _ => 0))), (q24, .inl (E.2 0, 5, .inl (fun _ => 0)))]) H := hP
  have hD : va_D A ([(h0, .inr (4, [.ref q6, .ref q15, .null, .null, .null, .int 0])), (q6, .inl (E.2 1, 5, .inr (.inl (fun _ => 0)))), (q15, .inl (E.2 4, 5, .inr (.inr (.inr (.inr (fun i => if i < 5 then some (r15 i) else none)))))), ((r15 0), .inl (E.2 0, 9, .inl (fun _ => 0))), ((r15 1), .inl (E.2 0, 9, .inl (fun _ => 0))), ((r15 2), .inl (E.2 0, 9, .inl (fun _ => 0))), ((r15 3), .inl (E.2 0, 9, .inl (fun _ => 0))), ((r15 4), .inl (E.2 0, 9, .inl (fun _ => 0))), (q24, .inl (E.2 0, 5, .inl (fun _ => 0)))]) := hD
  refine va_putF (D := E.1) (ci := 4) (v := .ref q24) (ty := .array .int) (C := RX4) (T := TX4) (N := 6) hx hb hta inX4 tyX4 tyX4_ok nmX4 hown hK.1 hP hD hS 0 rfl rfl 2 (by decide) (hta _ q1_79) (fun _ h9 => h9) rfl hin rfl (by decide +kernel) rfl rfl (Nat.le_of_ble_eq_true rfl) dX4_init_26 (fun H locs hP hD hS => ?_)
  have hP : va_P E.1 vwCl ([(h0, .inr (4, [.ref q6, .ref q15, .ref q24, .null, .null, .int 0])), (q6, .inl (E.2 1, 5, .inr (.inl (fun _ => 0)))), (q15, .inl (E.2 4, 5, .inr (.inr (.inr (.inr (fun i => if i < 5 then some (r15 i) else none)))))), ((r15 0), .inl (E.2 0, 9, .inl (fun _ => 0))), ((r15 1), .inl (E.2 0, 9, .inl (fun _ => 0))), ((r15 2), .inl (E.2 0, 9, .inl (fun _ => 0))), ((r15 3), .inl (E.2 0, 9, .inl (fun _ => 0))), ((r15 4), .inl (E.2 0, 9, .inl (fun _ => 0))), (q24, .inl (E.2 0, 5, .inl (fun _ => 0)))]) H := hP
  have hD : va_D A ([(h0, .inr (4, [.ref q6, .ref q15, .ref q24, .null, .null, .int 0])), (q6, .inl (E.2 1, 5, .inr (.inl (fun _ => 0)))), (q15, .inl (E.2 4, 5, .inr (.inr (.inr (.inr (fun i => if i < 5 then some (r15 i) else none)))))), ((r15 0), .inl (E.2 0, 9, .inl (fun _ => 0))), ((r15 1), .inl (E.2 0, 9, .inl (fun _ => 0))), ((r15 2), .inl (E.2 0, 9, .inl (fun _ => 0))), ((r15 3), .inl (E.2 0, 9, .inl (fun _ => 0))), ((r15 4), .inl (E.2 0, 9, .inl (fun _ => 0))), (q24, .inl (E.2 0, 5, .inl (fun _ => 0)))]) := hD
  refine lv_aload_n hx hb dX4_init_29 rfl (lv_at hl 0 rfl) ?_
  refine lv_bipush (v := 64) hx hb dX4_init_30 (by decide) ?_
  refine va_newa (atype := .int) (ty := .int) (N' := 64) (a0 := (64, .inl (fun _ => 0))) hx hb (hta _ q1_49) rfl hK.1 hP hD hS hA (fun _ => rfl) (by decide) (by decide) (by decide) (Nat.le_of_ble_eq_true rfl) (Nat.le_of_ble_eq_true rfl) dX4_init_32 (fun q32 c32 H hK2 hP hD hS => ?_)
  obtain rfl := id_int hK hK2
  clear hK2
  have hP : va_P E.1 vwCl ([(h0, .inr (4, [.ref q6, .ref q15, .ref q24, .null, .null, .int 0])), (q6, .inl (E.2 1, 5, .inr (.inl (fun _ => 0)))), (q15, .inl (E.2 4, 5, .inr (.inr (.inr (.inr (fun i => if i < 5 then some (r15 i) else none)))))), ((r15 0), .inl (E.2 0, 9, .inl (fun _ => 0))), ((r15 1), .inl (E.2 0, 9, .inl (fun _ => 0))), ((r15 2), .inl (E.2 0, 9, .inl (fun _ => 0))), ((r15 3), .inl (E.2 0, 9, .inl (fun _ => 0))), ((r15 4), .inl (E.2 0, 9, .inl (fun _ => 0))), (q24, .inl (E.2 0, 5, .inl (fun _ => 0))), (q32, .inl (E.2 0, 64, .inl (fun _ => 0)))]) H := hP
  have hD : va_D A ([(h0, .inr (4, [.ref q6, .ref q15, .ref q24, .null, .null, .int 0])), (q6, .inl (E.2 1, 5, .inr (.inl (fun _ => 0)))), (q15, .inl (E.2 4, 5, .inr (.inr (.inr (.inr (fun i => if i < 5 then some (r15 i) else none)))))), ((r15 0), .inl (E.2 0, 9, .inl (fun _ => 0))), ((r15 1), .inl (E.2 0, 9, .inl (fun _ => 0))), ((r15 2), .inl (E.2 0, 9, .inl (fun _ => 0))), ((r15 3), .inl (E.2 0, 9, .inl (fun _ => 0))), ((r15 4), .inl (E.2 0, 9, .inl (fun _ => 0))), (q24, .inl (E.2 0, 5, .inl (fun _ => 0))), (q32, .inl (E.2 0, 64, .inl (fun _ => 0)))]) := hD
  refine va_putF (D := E.1) (ci := 4) (v := .ref q32) (ty := .array .int) (C := RX4) (T := TX4) (N := 6) hx hb hta inX4 tyX4 tyX4_ok nmX4 hown hK.1 hP hD hS 0 rfl rfl 3 (by decide) (hta _ q1_80) (fun _ h9 => h9) rfl hin rfl (by decide +kernel) rfl rfl (Nat.le_of_ble_eq_true rfl) dX4_init_34 (fun H locs hP hD hS => ?_)
  have hP : va_P E.1 vwCl ([(h0, .inr (4, [.ref q6, .ref q15, .ref q24, .ref q32, .null, .int 0])), (q6, .inl (E.2 1, 5, .inr (.inl (fun _ => 0)))), (q15, .inl (E.2 4, 5, .inr (.inr (.inr (.inr (fun i => if i < 5 then some (r15 i) else none)))))), ((r15 0), .inl (E.2 0, 9, .inl (fun _ => 0))), ((r15 1), .inl (E.2 0, 9, .inl (fun _ => 0))), ((r15 2), .inl (E.2 0, 9, .inl (fun _ => 0))), ((r15 3), .inl (E.2 0, 9, .inl (fun _ => 0))), ((r15 4), .inl (E.2 0, 9, .inl (fun _ => 0))), (q24, .inl (E.2 0, 5, .inl (fun _ => 0))), (q32, .inl (E.2 0, 64, .inl (fun _ => 0)))]) H := hP
  have hD : va_D A ([(h0, .inr (4, [.ref q6, .ref q15, .ref q24, .ref q32, .null, .int 0])), (q6, .inl (E.2 1, 5, .inr (.inl (fun _ => 0)))), (q15, .inl (E.2 4, 5, .inr (.inr (.inr (.inr (fun i => if i < 5 then some (r15 i) else none)))))), ((r15 0), .inl (E.2 0, 9, .inl (fun _ => 0))), ((r15 1), .inl (E.2 0, 9, .inl (fun _ => 0))), ((r15 2), .inl (E.2 0, 9, .inl (fun _ => 0))), ((r15 3), .inl (E.2 0, 9, .inl (fun _ => 0))), ((r15 4), .inl (E.2 0, 9, .inl (fun _ => 0))), (q24, .inl (E.2 0, 5, .inl (fun _ => 0))), (q32, .inl (E.2 0, 64, .inl (fun _ => 0)))]) := hD
  refine lv_aload_n hx hb dX4_init_37 rfl (lv_at hl 0 rfl) ?_
  refine lv_bipush (v := 64) hx hb dX4_init_38 (by decide) ?_
  refine va_newa (atype := .int) (ty := .int) (N' := 64) (a0 := (64, .inl (fun _ => 0))) hx hb (hta _ q1_49) rfl hK.1 hP hD hS hA (fun _ => rfl) (by decide) (by decide) (by decide) (Nat.le_of_ble_eq_true rfl) (Nat.le_of_ble_eq_true rfl) dX4_init_40 (fun q40 c40 H hK2 hP hD hS => ?_)
  obtain rfl := id_int hK hK2
  clear hK2
  have hP : va_P E.1 vwCl ([(h0, .inr (4, [.ref q6, .ref q15, .ref q24, .ref q32, .null, .int 0])), (q6, .inl (E.2 1, 5, .inr (.inl (fun _ => 0)))), (q15, .inl (E.2 4, 5, .inr (.inr (.inr (.inr (fun i => if i < 5 then some (r15 i) else none)))))), ((r15 0), .inl (E.2 0, 9, .inl (fun _ => 0))), ((r15 1), .inl (E.2 0, 9, .inl (fun _ => 0))), ((r15 2), .inl (E.2 0, 9, .inl (fun _ => 0))), ((r15 3), .inl (E.2 0, 9, .inl (fun _ => 0))), ((r15 4), .inl (E.2 0, 9, .inl (fun _ => 0))), (q24, .inl (E.2 0, 5, .inl (fun _ => 0))), (q32, .inl (E.2 0, 64, .inl (fun _ => 0))), (q40, .inl (E.2 0, 64, .inl (fun _ => 0)))]) H := hP
  have hD : va_D A ([(h0, .inr (4, [.ref q6, .ref q15, .ref q24, .ref q32, .null, .int 0])), (q6, .inl (E.2 1, 5, .inr (.inl (fun _ => 0)))), (q15, .inl (E.2 4, 5, .inr (.inr (.inr (.inr (fun i => if i < 5 then some (r15 i) else none)))))), ((r15 0), .inl (E.2 0, 9, .inl (fun _ => 0))), ((r15 1), .inl (E.2 0, 9, .inl (fun _ => 0))), ((r15 2), .inl (E.2 0, 9, .inl (fun _ => 0))), ((r15 3), .inl (E.2 0, 9, .inl (fun _ => 0))), ((r15 4), .inl (E.2 0, 9, .inl (fun _ => 0))), (q24, .inl (E.2 0, 5, .inl (fun _ => 0))), (q32, .inl (E.2 0, 64, .inl (fun _ => 0))), (q40, .inl (E.2 0, 64, .inl (fun _ => 0)))]) := hD
  refine va_putF (D := E.1) (ci := 4) (v := .ref q40) (ty := .array .int) (C := RX4) (T := TX4) (N := 6) hx hb hta inX4 tyX4 tyX4_ok nmX4 hown hK.1 hP hD hS 0 rfl rfl 4 (by decide) (hta _ q1_81) (fun _ h9 => h9) rfl hin rfl (by decide +kernel) rfl rfl (Nat.le_of_ble_eq_true rfl) dX4_init_42 (fun H locs hP hD hS => ?_)
  have hP : va_P E.1 vwCl ([(h0, .inr (4, [.ref q6, .ref q15, .ref q24, .ref q32, .ref q40, .int 0])), (q6, .inl (E.2 1, 5, .inr (.inl (fun _ => 0)))), (q15, .inl (E.2 4, 5, .inr (.inr (.inr (.inr (fun i => if i < 5 then some (r15 i) else none)))))), ((r15 0), .inl (E.2 0, 9, .inl (fun _ => 0))), ((r15 1), .inl (E.2 0, 9, .inl (fun _ => 0))), ((r15 2), .inl (E.2 0, 9, .inl (fun _ => 0))), ((r15 3), .inl (E.2 0, 9, .inl (fun _ => 0))), ((r15 4), .inl (E.2 0, 9, .inl (fun _ => 0))), (q24, .inl (E.2 0, 5, .inl (fun _ => 0))), (q32, .inl (E.2 0, 64, .inl (fun _ => 0))), (q40, .inl (E.2 0, 64, .inl (fun _ => 0)))]) H := hP
  have hD : va_D A ([(h0, .inr (4, [.ref q6, .ref q15, .ref q24, .ref q32, .ref q40, .int 0])), (q6, .inl (E.2 1, 5, .inr (.inl (fun _ => 0)))), (q15, .inl (E.2 4, 5, .inr (.inr (.inr (.inr (fun i => if i < 5 then some (r15 i) else none)))))), ((r15 0), .inl (E.2 0, 9, .inl (fun _ => 0))), ((r15 1), .inl (E.2 0, 9, .inl (fun _ => 0))), ((r15 2), .inl (E.2 0, 9, .inl (fun _ => 0))), ((r15 3), .inl (E.2 0, 9, .inl (fun _ => 0))), ((r15 4), .inl (E.2 0, 9, .inl (fun _ => 0))), (q24, .inl (E.2 0, 5, .inl (fun _ => 0))), (q32, .inl (E.2 0, 64, .inl (fun _ => 0))), (q40, .inl (E.2 0, 64, .inl (fun _ => 0)))]) := hD
  have hP := vP_q hP 2 (g := fun j => some ((fun k => if k = 0 then h0 else if k = 1 then q6 else if k = 2 then q15 else if k = 3 then q24 else if k = 4 then q32 else if k = 5 then q40 else r15 (k - 6)) (6 + j))) rfl (fun j hj => all5 (P := fun j => (if j < 5 then some (r15 j) else none) = some ((fun k => if k = 0 then h0 else if k = 1 then q6 else if k = 2 then q15 else if k = 3 then q24 else if k = 4 then q32 else if k = 5 then q40 else r15 (k - 6)) (6 + j))) hj rfl rfl rfl rfl rfl)
  have hD := vD_q hD 2 (e := .inl (E.2 4, 5, .inr (.inr (.inr (.inr (fun j => some ((fun k => if k = 0 then h0 else if k = 1 then q6 else if k = 2 then q15 else if k = 3 then q24 else if k = 4 then q32 else if k = 5 then q40 else r15 (k - 6)) (6 + j)))))))) (rfl)
  have hP := hP.sub (ws' := wR E (fun k => if k = 0 then h0 else if k = 1 then q6 else if k = 2 then q15 else if k = 3 then q24 else if k = 4 then q32 else if k = 5 then q40 else r15 (k - 6)) (fun _ => 0) (fun _ _ => 0) (fun _ => 0) (fun _ => 0) (fun _ => 0) (0 : Int32)) [0, 1, 2, 8, 9, 10, 3, 4, 5, 6, 7] rfl
  have hD := hD.sub (ws' := wR E (fun k => if k = 0 then h0 else if k = 1 then q6 else if k = 2 then q15 else if k = 3 then q24 else if k = 4 then q32 else if k = 5 then q40 else r15 (k - 6)) (fun _ => 0) (fun _ _ => 0) (fun _ => 0) (fun _ => 0) (fun _ => 0) (0 : Int32)) [0, 1, 2, 8, 9, 10, 3, 4, 5, 6, 7] (by decide) rfl
  refine W.widen (k := 10) (n := 188) (by omega) (by omega) ?_
  exact W.vret hx hb hr (fun t ht hW => ⟨⟨(), rfl, trivial, fun k => if k = 0 then h0 else if k = 1 then q6 else if k = 2 then q15 else if k = 3 then q24 else if k = 4 then q32 else if k = 5 then q40 else r15 (k - 6), rfl, by rw [ht]; exact hP, hD⟩, hS.F ht⟩) hS.2.2 dX4_init_45
