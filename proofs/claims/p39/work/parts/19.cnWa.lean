abbrev rmW_put : Room := { frames := 6, cells := 0, slots := 0, locals := 132 }
set_option maxHeartbeats 4000000 in
set_option maxRecDepth 100000 in
theorem cW_put (l : Launch) (E : eE) (ad2 : Nat → Nat) (q0_letters : TL) (q0_trial : TL) (q0_snapshot : TL) (q0_isSaved : Int32) (q0_past : TP) (q0_rows : TR) (q0_bags : TB) (q0_tally : TY) (q0_sizes : TZ) (q0_text : TT) (q0_line : TN) (q0_latestReason : Int32) (q0_latestDetail : Int32) (a1 : Int32) (t : Int64 × TL × TP × TR × TB × Int32 × Int32) (hf : fW_put q0_letters q0_past q0_rows q0_bags q0_latestReason q0_latestDetail a1 = some t) : cW l E yL_put cL_put 2 (some .long) rmW_put [.ref (ad2 0), .int a1] (wS E ad2 q0_letters q0_trial q0_snapshot q0_isSaved q0_past q0_rows q0_bags q0_tally q0_sizes q0_text q0_line q0_latestReason q0_latestDetail) (some (.long t.1)) (wS E ad2 t.2.1 q0_trial q0_snapshot q0_isSaved t.2.2.1 t.2.2.2.1 t.2.2.2.2.1 q0_tally q0_sizes q0_text q0_line t.2.2.2.2.2.1 t.2.2.2.2.2.2) := by
  refine Met.ofW (cc := cL_put) (maxL := 2) (ret := (some .long)) (by decide) rfl ?_
  intro p e s m args below meth c s₁ B hml hv
  obtain ⟨hargs, hP, hK, hD0⟩ := hv
  have hx := B.exec
  have hb := B.bytes
  have hr := B.returns
  have hts := atoms_spec (ws := ws_ yL_put cL_put 2 (some .long)) B.pre
  have hta : ∀ w ∈ lw_all, w.before args s = true := fun w h => hts w (List.mem_cons_of_mem _ h)
  have hown : s.vm.findClass RL = some m.cls := findClass_of_methodNamed B.named
  have hlocks := B.notSynchronized
  have hC : Cx p s m args c cL_put 2 RL E := ⟨hx, hb, hml, hown, hta, hK⟩
  have hH : Hp E (adr (wS E ad2 q0_letters q0_trial q0_snapshot q0_isSaved q0_past q0_rows q0_bags q0_tally q0_sizes q0_text q0_line q0_latestReason q0_latestDetail)) (wS E ad2 q0_letters q0_trial q0_snapshot q0_isSaved q0_past q0_rows q0_bags q0_tally q0_sizes q0_text q0_line q0_latestReason q0_latestDetail) s.heap s.heap [] := Hp.start hP hD0
  obtain ⟨ls, he, hl⟩ := entry_ (m := m) (n := 2) hargs (Nat.le_of_ble_eq_true rfl)
  rw [he]
  have hl : lv_has ls 2 [(0, .ref (ad2 0)), (1, .int a1)] := hl
  show W p l e rmW_put s m args below meth c s.heap [] 0 0 (MQ below (qW E (some .long) (some (.long t.1)) (wS E ad2 q0_letters q0_trial q0_snapshot q0_isSaved q0_past q0_rows q0_bags q0_tally q0_sizes q0_text q0_line q0_latestReason q0_latestDetail) (wS E ad2 t.2.1 q0_trial q0_snapshot q0_isSaved t.2.2.1 t.2.2.2.1 t.2.2.2.2.1 q0_tally q0_sizes q0_text q0_line t.2.2.2.2.2.1 t.2.2.2.2.2.2)) args s 0 0 (adr (wS E ad2 q0_letters q0_trial q0_snapshot q0_isSaved q0_past q0_rows q0_bags q0_tally q0_sizes q0_text q0_line q0_latestReason q0_latestDetail))) (F0 m 0 ls [])
  suffices hmain : ∀ (H : Heap) (locs : List Loc), Hp E (adr (wS E ad2 q0_letters q0_trial q0_snapshot q0_isSaved q0_past q0_rows q0_bags q0_tally q0_sizes q0_text q0_line q0_latestReason q0_latestDetail)) (wS E ad2 q0_letters q0_trial q0_snapshot q0_isSaved q0_past q0_rows q0_bags q0_tally q0_sizes q0_text q0_line q0_latestReason q0_latestDetail) s.heap H locs → W p l e rmW_put s m args below meth c H locs 0 0 (MQ below (qW E (some .long) (some (.long t.1)) (wS E ad2 q0_letters q0_trial q0_snapshot q0_isSaved q0_past q0_rows q0_bags q0_tally q0_sizes q0_text q0_line q0_latestReason q0_latestDetail) (wS E ad2 t.2.1 q0_trial q0_snapshot q0_isSaved t.2.2.1 t.2.2.2.1 t.2.2.2.2.1 q0_tally q0_sizes q0_text q0_line t.2.2.2.2.2.1 t.2.2.2.2.2.2)) args s 0 0 (adr (wS E ad2 q0_letters q0_trial q0_snapshot q0_isSaved q0_past q0_rows q0_bags q0_tally q0_sizes q0_text q0_line q0_latestReason q0_latestDetail))) (F0 m 0 ls []) from hmain _ _ hH
  clear hH
  intro H locs hH
  rw [fW_put] at hf
  refine lv_aload_n hx hb dL_put_0 rfl (lv_at hl 0 rfl) ?_
  refine lv_iload_n hx hb dL_put_1 rfl (lv_at hl 1 rfl) ?_
  obtain ⟨t1, ht1, hf⟩ := ob hf
  refine k_WVsi hC LL_7 ⟨Nat.le_of_ble_eq_true rfl, Nat.le_of_ble_eq_true rfl⟩ ⟨Nat.zero_le _, Nat.zero_le _⟩ (cS_put l E ad2 q0_letters q0_trial q0_snapshot q0_isSaved q0_past q0_rows q0_bags q0_tally q0_sizes q0_text q0_line q0_latestReason q0_latestDetail a1 t1 ht1) rfl rfl hH rfl rfl rfl hl.1 rfl (Nat.le_of_ble_eq_true rfl) rfl dL_put_2 (fun H locs hz2 hH => ?_)
  have hH : Hp E (adr (wS E ad2 q0_letters q0_trial q0_snapshot q0_isSaved q0_past q0_rows q0_bags q0_tally q0_sizes q0_text q0_line q0_latestReason q0_latestDetail)) (wS E ad2 t1.2.1 q0_trial q0_snapshot q0_isSaved t1.2.2.1 t1.2.2.2.1 t1.2.2.2.2.1 q0_tally q0_sizes q0_text q0_line t1.2.2.2.2.2.1 t1.2.2.2.2.2.2) s.heap H locs := hH
  refine lv_i2l hx hb dL_put_5 rfl ?_
  have hf := Option.some.inj hf
  subst hf
  exact e_Wl hC hH hr hlocks rfl rfl dL_put_6
abbrev rmW_insert : Room := { frames := 6, cells := 0, slots := 0, locals := 133 }
set_option maxHeartbeats 4000000 in
set_option maxRecDepth 100000 in
theorem cW_insert (l : Launch) (E : eE) (ad2 : Nat → Nat) (q0_letters : TL) (q0_trial : TL) (q0_snapshot : TL) (q0_isSaved : Int32) (q0_past : TP) (q0_rows : TR) (q0_bags : TB) (q0_tally : TY) (q0_sizes : TZ) (q0_text : TT) (q0_line : TN) (q0_latestReason : Int32) (q0_latestDetail : Int32) (a1 : Int32) (a2 : Int32) (t : Int64 × TL × TP × TR × TB × Int32 × Int32) (hf : fW_insert q0_letters q0_past q0_rows q0_bags q0_latestReason q0_latestDetail a1 a2 = some t) : cW l E yL_insert cL_insert 3 (some .long) rmW_insert [.ref (ad2 0), .int a1, .int a2] (wS E ad2 q0_letters q0_trial q0_snapshot q0_isSaved q0_past q0_rows q0_bags q0_tally q0_sizes q0_text q0_line q0_latestReason q0_latestDetail) (some (.long t.1)) (wS E ad2 t.2.1 q0_trial q0_snapshot q0_isSaved t.2.2.1 t.2.2.2.1 t.2.2.2.2.1 q0_tally q0_sizes q0_text q0_line t.2.2.2.2.2.1 t.2.2.2.2.2.2) := by
  refine Met.ofW (cc := cL_insert) (maxL := 3) (ret := (some .long)) (by decide) rfl ?_
  intro p e s m args below meth c s₁ B hml hv
  obtain ⟨hargs, hP, hK, hD0⟩ := hv
  have hx := B.exec
  have hb := B.bytes
  have hr := B.returns
  have hts := atoms_spec (ws := ws_ yL_insert cL_insert 3 (some .long)) B.pre
  have hta : ∀ w ∈ lw_all, w.before args s = true := fun w h => hts w (List.mem_cons_of_mem _ h)
  have hown : s.vm.findClass RL = some m.cls := findClass_of_methodNamed B.named
  have hlocks := B.notSynchronized
  have hC : Cx p s m args c cL_insert 3 RL E := ⟨hx, hb, hml, hown, hta, hK⟩
  have hH : Hp E (adr (wS E ad2 q0_letters q0_trial q0_snapshot q0_isSaved q0_past q0_rows q0_bags q0_tally q0_sizes q0_text q0_line q0_latestReason q0_latestDetail)) (wS E ad2 q0_letters q0_trial q0_snapshot q0_isSaved q0_past q0_rows q0_bags q0_tally q0_sizes q0_text q0_line q0_latestReason q0_latestDetail) s.heap s.heap [] := Hp.start hP hD0
  obtain ⟨ls, he, hl⟩ := entry_ (m := m) (n := 3) hargs (Nat.le_of_ble_eq_true rfl)
  rw [he]
  have hl : lv_has ls 3 [(0, .ref (ad2 0)), (1, .int a1), (2, .int a2)] := hl
  show W p l e rmW_insert s m args below meth c s.heap [] 0 0 (MQ below (qW E (some .long) (some (.long t.1)) (wS E ad2 q0_letters q0_trial q0_snapshot q0_isSaved q0_past q0_rows q0_bags q0_tally q0_sizes q0_text q0_line q0_latestReason q0_latestDetail) (wS E ad2 t.2.1 q0_trial q0_snapshot q0_isSaved t.2.2.1 t.2.2.2.1 t.2.2.2.2.1 q0_tally q0_sizes q0_text q0_line t.2.2.2.2.2.1 t.2.2.2.2.2.2)) args s 0 0 (adr (wS E ad2 q0_letters q0_trial q0_snapshot q0_isSaved q0_past q0_rows q0_bags q0_tally q0_sizes q0_text q0_line q0_latestReason q0_latestDetail))) (F0 m 0 ls [])
  suffices hmain : ∀ (H : Heap) (locs : List Loc), Hp E (adr (wS E ad2 q0_letters q0_trial q0_snapshot q0_isSaved q0_past q0_rows q0_bags q0_tally q0_sizes q0_text q0_line q0_latestReason q0_latestDetail)) (wS E ad2 q0_letters q0_trial q0_snapshot q0_isSaved q0_past q0_rows q0_bags q0_tally q0_sizes q0_text q0_line q0_latestReason q0_latestDetail) s.heap H locs → W p l e rmW_insert s m args below meth c H locs 0 0 (MQ below (qW E (some .long) (some (.long t.1)) (wS E ad2 q0_letters q0_trial q0_snapshot q0_isSaved q0_past q0_rows q0_bags q0_tally q0_sizes q0_text q0_line q0_latestReason q0_latestDetail) (wS E ad2 t.2.1 q0_trial q0_snapshot q0_isSaved t.2.2.1 t.2.2.2.1 t.2.2.2.2.1 q0_tally q0_sizes q0_text q0_line t.2.2.2.2.2.1 t.2.2.2.2.2.2)) args s 0 0 (adr (wS E ad2 q0_letters q0_trial q0_snapshot q0_isSaved q0_past q0_rows q0_bags q0_tally q0_sizes q0_text q0_line q0_latestReason q0_latestDetail))) (F0 m 0 ls []) from hmain _ _ hH
  clear hH
  intro H locs hH
  rw [fW_insert] at hf
  refine lv_aload_n hx hb dL_insert_0 rfl (lv_at hl 0 rfl) ?_
  refine lv_iload_n hx hb dL_insert_1 rfl (lv_at hl 1 rfl) ?_
  refine lv_iload_n hx hb dL_insert_2 rfl (lv_at hl 2 rfl) ?_
  obtain ⟨t1, ht1, hf⟩ := ob hf
  refine k_WVsi hC LL_13 ⟨Nat.le_of_ble_eq_true rfl, Nat.le_of_ble_eq_true rfl⟩ ⟨Nat.zero_le _, Nat.zero_le _⟩ (cS_insert l E ad2 q0_letters q0_trial q0_snapshot q0_isSaved q0_past q0_rows q0_bags q0_tally q0_sizes q0_text q0_line q0_latestReason q0_latestDetail a1 a2 t1 ht1) rfl rfl hH rfl rfl rfl hl.1 rfl (Nat.le_of_ble_eq_true rfl) rfl dL_insert_3 (fun H locs hz3 hH => ?_)
  have hH : Hp E (adr (wS E ad2 q0_letters q0_trial q0_snapshot q0_isSaved q0_past q0_rows q0_bags q0_tally q0_sizes q0_text q0_line q0_latestReason q0_latestDetail)) (wS E ad2 t1.2.1 q0_trial q0_snapshot q0_isSaved t1.2.2.1 t1.2.2.2.1 t1.2.2.2.2.1 q0_tally q0_sizes q0_text q0_line t1.2.2.2.2.2.1 t1.2.2.2.2.2.2) s.heap H locs := hH
  refine lv_i2l hx hb dL_insert_6 rfl ?_
  have hf := Option.some.inj hf
  subst hf
  exact e_Wl hC hH hr hlocks rfl rfl dL_insert_7
abbrev rmW_take : Room := { frames := 6, cells := 0, slots := 0, locals := 133 }
set_option maxHeartbeats 4000000 in
set_option maxRecDepth 100000 in
theorem cW_take (l : Launch) (E : eE) (ad2 : Nat → Nat) (q0_letters : TL) (q0_trial : TL) (q0_snapshot : TL) (q0_isSaved : Int32) (q0_past : TP) (q0_rows : TR) (q0_bags : TB) (q0_tally : TY) (q0_sizes : TZ) (q0_text : TT) (q0_line : TN) (q0_latestReason : Int32) (q0_latestDetail : Int32) (a1 : Int32) (t : Int64 × TL × TP × TR × TB) (hf : fW_take q0_letters q0_past q0_rows q0_bags a1 = some t) : cW l E yL_take cL_take 2 (some .long) rmW_take [.ref (ad2 0), .int a1] (wS E ad2 q0_letters q0_trial q0_snapshot q0_isSaved q0_past q0_rows q0_bags q0_tally q0_sizes q0_text q0_line q0_latestReason q0_latestDetail) (some (.long t.1)) (wS E ad2 t.2.1 q0_trial q0_snapshot q0_isSaved t.2.2.1 t.2.2.2.1 t.2.2.2.2 q0_tally q0_sizes q0_text q0_line q0_latestReason q0_latestDetail) := by
  refine Met.ofW (cc := cL_take) (maxL := 2) (ret := (some .long)) (by decide) rfl ?_
  intro p e s m args below meth c s₁ B hml hv
  obtain ⟨hargs, hP, hK, hD0⟩ := hv
  have hx := B.exec
  have hb := B.bytes
  have hr := B.returns
  have hts := atoms_spec (ws := ws_ yL_take cL_take 2 (some .long)) B.pre
  have hta : ∀ w ∈ lw_all, w.before args s = true := fun w h => hts w (List.mem_cons_of_mem _ h)
  have hown : s.vm.findClass RL = some m.cls := findClass_of_methodNamed B.named
  have hlocks := B.notSynchronized
  have hC : Cx p s m args c cL_take 2 RL E := ⟨hx, hb, hml, hown, hta, hK⟩
  have hH : Hp E (adr (wS E ad2 q0_letters q0_trial q0_snapshot q0_isSaved q0_past q0_rows q0_bags q0_tally q0_sizes q0_text q0_line q0_latestReason q0_latestDetail)) (wS E ad2 q0_letters q0_trial q0_snapshot q0_isSaved q0_past q0_rows q0_bags q0_tally q0_sizes q0_text q0_line q0_latestReason q0_latestDetail) s.heap s.heap [] := Hp.start hP hD0
  obtain ⟨ls, he, hl⟩ := entry_ (m := m) (n := 2) hargs (Nat.le_of_ble_eq_true rfl)
  rw [he]
  have hl : lv_has ls 2 [(0, .ref (ad2 0)), (1, .int a1)] := hl
  show W p l e rmW_take s m args below meth c s.heap [] 0 0 (MQ below (qW E (some .long) (some (.long t.1)) (wS E ad2 q0_letters q0_trial q0_snapshot q0_isSaved q0_past q0_rows q0_bags q0_tally q0_sizes q0_text q0_line q0_latestReason q0_latestDetail) (wS E ad2 t.2.1 q0_trial q0_snapshot q0_isSaved t.2.2.1 t.2.2.2.1 t.2.2.2.2 q0_tally q0_sizes q0_text q0_line q0_latestReason q0_latestDetail)) args s 0 0 (adr (wS E ad2 q0_letters q0_trial q0_snapshot q0_isSaved q0_past q0_rows q0_bags q0_tally q0_sizes q0_text q0_line q0_latestReason q0_latestDetail))) (F0 m 0 ls [])
  suffices hmain : ∀ (H : Heap) (locs : List Loc), Hp E (adr (wS E ad2 q0_letters q0_trial q0_snapshot q0_isSaved q0_past q0_rows q0_bags q0_tally q0_sizes q0_text q0_line q0_latestReason q0_latestDetail)) (wS E ad2 q0_letters q0_trial q0_snapshot q0_isSaved q0_past q0_rows q0_bags q0_tally q0_sizes q0_text q0_line q0_latestReason q0_latestDetail) s.heap H locs → W p l e rmW_take s m args below meth c H locs 0 0 (MQ below (qW E (some .long) (some (.long t.1)) (wS E ad2 q0_letters q0_trial q0_snapshot q0_isSaved q0_past q0_rows q0_bags q0_tally q0_sizes q0_text q0_line q0_latestReason q0_latestDetail) (wS E ad2 t.2.1 q0_trial q0_snapshot q0_isSaved t.2.2.1 t.2.2.2.1 t.2.2.2.2 q0_tally q0_sizes q0_text q0_line q0_latestReason q0_latestDetail)) args s 0 0 (adr (wS E ad2 q0_letters q0_trial q0_snapshot q0_isSaved q0_past q0_rows q0_bags q0_tally q0_sizes q0_text q0_line q0_latestReason q0_latestDetail))) (F0 m 0 ls []) from hmain _ _ hH
  clear hH
  intro H locs hH
  rw [fW_take] at hf
  refine lv_aload_n hx hb dL_take_0 rfl (lv_at hl 0 rfl) ?_
  refine lv_iload_n hx hb dL_take_1 rfl (lv_at hl 1 rfl) ?_
  obtain ⟨t1, ht1, hf⟩ := ob hf
  refine k_WVsi hC LL_17 ⟨Nat.le_of_ble_eq_true rfl, Nat.le_of_ble_eq_true rfl⟩ ⟨Nat.zero_le _, Nat.zero_le _⟩ (cS_take l E ad2 q0_letters q0_trial q0_snapshot q0_isSaved q0_past q0_rows q0_bags q0_tally q0_sizes q0_text q0_line q0_latestReason q0_latestDetail a1 t1 ht1) rfl rfl hH rfl rfl rfl hl.1 rfl (Nat.le_of_ble_eq_true rfl) rfl dL_take_2 (fun H locs hz2 hH => ?_)
  have hH : Hp E (adr (wS E ad2 q0_letters q0_trial q0_snapshot q0_isSaved q0_past q0_rows q0_bags q0_tally q0_sizes q0_text q0_line q0_latestReason q0_latestDetail)) (wS E ad2 t1.2.1 q0_trial q0_snapshot q0_isSaved t1.2.2.1 t1.2.2.2.1 t1.2.2.2.2 q0_tally q0_sizes q0_text q0_line q0_latestReason q0_latestDetail) s.heap H locs := hH
  refine lv_i2l hx hb dL_take_5 rfl ?_
  have hf := Option.some.inj hf
  subst hf
  exact e_Wl hC hH hr hlocks rfl rfl dL_take_6
abbrev rmW_swap : Room := { frames := 6, cells := 0, slots := 0, locals := 132 }
set_option maxHeartbeats 4000000 in
set_option maxRecDepth 100000 in
theorem cW_swap (l : Launch) (E : eE) (ad2 : Nat → Nat) (q0_letters : TL) (q0_trial : TL) (q0_snapshot : TL) (q0_isSaved : Int32) (q0_past : TP) (q0_rows : TR) (q0_bags : TB) (q0_tally : TY) (q0_sizes : TZ) (q0_text : TT) (q0_line : TN) (q0_latestReason : Int32) (q0_latestDetail : Int32) (a1 : Int32) (t : Int64 × TL × TP × TR × TB × Int32 × Int32) (hf : fW_swap q0_letters q0_past q0_rows q0_bags q0_latestReason q0_latestDetail a1 = some t) : cW l E yL_swap cL_swap 2 (some .long) rmW_swap [.ref (ad2 0), .int a1] (wS E ad2 q0_letters q0_trial q0_snapshot q0_isSaved q0_past q0_rows q0_bags q0_tally q0_sizes q0_text q0_line q0_latestReason q0_latestDetail) (some (.long t.1)) (wS E ad2 t.2.1 q0_trial q0_snapshot q0_isSaved t.2.2.1 t.2.2.2.1 t.2.2.2.2.1 q0_tally q0_sizes q0_text q0_line t.2.2.2.2.2.1 t.2.2.2.2.2.2) := by
  refine Met.ofW (cc := cL_swap) (maxL := 2) (ret := (some .long)) (by decide) rfl ?_
  intro p e s m args below meth c s₁ B hml hv
  obtain ⟨hargs, hP, hK, hD0⟩ := hv
  have hx := B.exec
  have hb := B.bytes
  have hr := B.returns
  have hts := atoms_spec (ws := ws_ yL_swap cL_swap 2 (some .long)) B.pre
  have hta : ∀ w ∈ lw_all, w.before args s = true := fun w h => hts w (List.mem_cons_of_mem _ h)
  have hown : s.vm.findClass RL = some m.cls := findClass_of_methodNamed B.named
  have hlocks := B.notSynchronized
  have hC : Cx p s m args c cL_swap 2 RL E := ⟨hx, hb, hml, hown, hta, hK⟩
  have hH : Hp E (adr (wS E ad2 q0_letters q0_trial q0_snapshot q0_isSaved q0_past q0_rows q0_bags q0_tally q0_sizes q0_text q0_line q0_latestReason q0_latestDetail)) (wS E ad2 q0_letters q0_trial q0_snapshot q0_isSaved q0_past q0_rows q0_bags q0_tally q0_sizes q0_text q0_line q0_latestReason q0_latestDetail) s.heap s.heap [] := Hp.start hP hD0
  obtain ⟨ls, he, hl⟩ := entry_ (m := m) (n := 2) hargs (Nat.le_of_ble_eq_true rfl)
  rw [he]
  have hl : lv_has ls 2 [(0, .ref (ad2 0)), (1, .int a1)] := hl
  show W p l e rmW_swap s m args below meth c s.heap [] 0 0 (MQ below (qW E (some .long) (some (.long t.1)) (wS E ad2 q0_letters q0_trial q0_snapshot q0_isSaved q0_past q0_rows q0_bags q0_tally q0_sizes q0_text q0_line q0_latestReason q0_latestDetail) (wS E ad2 t.2.1 q0_trial q0_snapshot q0_isSaved t.2.2.1 t.2.2.2.1 t.2.2.2.2.1 q0_tally q0_sizes q0_text q0_line t.2.2.2.2.2.1 t.2.2.2.2.2.2)) args s 0 0 (adr (wS E ad2 q0_letters q0_trial q0_snapshot q0_isSaved q0_past q0_rows q0_bags q0_tally q0_sizes q0_text q0_line q0_latestReason q0_latestDetail))) (F0 m 0 ls [])
  suffices hmain : ∀ (H : Heap) (locs : List Loc), Hp E (adr (wS E ad2 q0_letters q0_trial q0_snapshot q0_isSaved q0_past q0_rows q0_bags q0_tally q0_sizes q0_text q0_line q0_latestReason q0_latestDetail)) (wS E ad2 q0_letters q0_trial q0_snapshot q0_isSaved q0_past q0_rows q0_bags q0_tally q0_sizes q0_text q0_line q0_latestReason q0_latestDetail) s.heap H locs → W p l e rmW_swap s m args below meth c H locs 0 0 (MQ below (qW E (some .long) (some (.long t.1)) (wS E ad2 q0_letters q0_trial q0_snapshot q0_isSaved q0_past q0_rows q0_bags q0_tally q0_sizes q0_text q0_line q0_latestReason q0_latestDetail) (wS E ad2 t.2.1 q0_trial q0_snapshot q0_isSaved t.2.2.1 t.2.2.2.1 t.2.2.2.2.1 q0_tally q0_sizes q0_text q0_line t.2.2.2.2.2.1 t.2.2.2.2.2.2)) args s 0 0 (adr (wS E ad2 q0_letters q0_trial q0_snapshot q0_isSaved q0_past q0_rows q0_bags q0_tally q0_sizes q0_text q0_line q0_latestReason q0_latestDetail))) (F0 m 0 ls []) from hmain _ _ hH
  clear hH
  intro H locs hH
  rw [fW_swap] at hf
  refine lv_aload_n hx hb dL_swap_0 rfl (lv_at hl 0 rfl) ?_
  refine lv_iload_n hx hb dL_swap_1 rfl (lv_at hl 1 rfl) ?_
  obtain ⟨t1, ht1, hf⟩ := ob hf
  refine k_WVsi hC LL_20 ⟨Nat.le_of_ble_eq_true rfl, Nat.le_of_ble_eq_true rfl⟩ ⟨Nat.zero_le _, Nat.zero_le _⟩ (cS_swap l E ad2 q0_letters q0_trial q0_snapshot q0_isSaved q0_past q0_rows q0_bags q0_tally q0_sizes q0_text q0_line q0_latestReason q0_latestDetail a1 t1 ht1) rfl rfl hH rfl rfl rfl hl.1 rfl (Nat.le_of_ble_eq_true rfl) rfl dL_swap_2 (fun H locs hz2 hH => ?_)
  have hH : Hp E (adr (wS E ad2 q0_letters q0_trial q0_snapshot q0_isSaved q0_past q0_rows q0_bags q0_tally q0_sizes q0_text q0_line q0_latestReason q0_latestDetail)) (wS E ad2 t1.2.1 q0_trial q0_snapshot q0_isSaved t1.2.2.1 t1.2.2.2.1 t1.2.2.2.2.1 q0_tally q0_sizes q0_text q0_line t1.2.2.2.2.2.1 t1.2.2.2.2.2.2) s.heap H locs := hH
  refine lv_i2l hx hb dL_swap_5 rfl ?_
  have hf := Option.some.inj hf
  subst hf
  exact e_Wl hC hH hr hlocks rfl rfl dL_swap_6
abbrev rmW_mark : Room := { frames := 6, cells := 0, slots := 0, locals := 133 }
set_option maxHeartbeats 4000000 in
set_option maxRecDepth 100000 in
theorem cW_mark (l : Launch) (E : eE) (ad2 : Nat → Nat) (q0_letters : TL) (q0_trial : TL) (q0_snapshot : TL) (q0_isSaved : Int32) (q0_past : TP) (q0_rows : TR) (q0_bags : TB) (q0_tally : TY) (q0_sizes : TZ) (q0_text : TT) (q0_line : TN) (q0_latestReason : Int32) (q0_latestDetail : Int32) (a1 : Int32) (a2 : Int32) (t : Int64 × TL × TP × TR × TB × Int32 × Int32) (hf : fW_mark q0_letters q0_past q0_rows q0_bags q0_latestReason q0_latestDetail a1 a2 = some t) : cW l E yL_mark cL_mark 3 (some .long) rmW_mark [.ref (ad2 0), .int a1, .int a2] (wS E ad2 q0_letters q0_trial q0_snapshot q0_isSaved q0_past q0_rows q0_bags q0_tally q0_sizes q0_text q0_line q0_latestReason q0_latestDetail) (some (.long t.1)) (wS E ad2 t.2.1 q0_trial q0_snapshot q0_isSaved t.2.2.1 t.2.2.2.1 t.2.2.2.2.1 q0_tally q0_sizes q0_text q0_line t.2.2.2.2.2.1 t.2.2.2.2.2.2) := by
  refine Met.ofW (cc := cL_mark) (maxL := 3) (ret := (some .long)) (by decide) rfl ?_
  intro p e s m args below meth c s₁ B hml hv
  obtain ⟨hargs, hP, hK, hD0⟩ := hv
  have hx := B.exec
  have hb := B.bytes
  have hr := B.returns
  have hts := atoms_spec (ws := ws_ yL_mark cL_mark 3 (some .long)) B.pre
  have hta : ∀ w ∈ lw_all, w.before args s = true := fun w h => hts w (List.mem_cons_of_mem _ h)
  have hown : s.vm.findClass RL = some m.cls := findClass_of_methodNamed B.named
  have hlocks := B.notSynchronized
  have hC : Cx p s m args c cL_mark 3 RL E := ⟨hx, hb, hml, hown, hta, hK⟩
  have hH : Hp E (adr (wS E ad2 q0_letters q0_trial q0_snapshot q0_isSaved q0_past q0_rows q0_bags q0_tally q0_sizes q0_text q0_line q0_latestReason q0_latestDetail)) (wS E ad2 q0_letters q0_trial q0_snapshot q0_isSaved q0_past q0_rows q0_bags q0_tally q0_sizes q0_text q0_line q0_latestReason q0_latestDetail) s.heap s.heap [] := Hp.start hP hD0
  obtain ⟨ls, he, hl⟩ := entry_ (m := m) (n := 3) hargs (Nat.le_of_ble_eq_true rfl)
  rw [he]
  have hl : lv_has ls 3 [(0, .ref (ad2 0)), (1, .int a1), (2, .int a2)] := hl
  show W p l e rmW_mark s m args below meth c s.heap [] 0 0 (MQ below (qW E (some .long) (some (.long t.1)) (wS E ad2 q0_letters q0_trial q0_snapshot q0_isSaved q0_past q0_rows q0_bags q0_tally q0_sizes q0_text q0_line q0_latestReason q0_latestDetail) (wS E ad2 t.2.1 q0_trial q0_snapshot q0_isSaved t.2.2.1 t.2.2.2.1 t.2.2.2.2.1 q0_tally q0_sizes q0_text q0_line t.2.2.2.2.2.1 t.2.2.2.2.2.2)) args s 0 0 (adr (wS E ad2 q0_letters q0_trial q0_snapshot q0_isSaved q0_past q0_rows q0_bags q0_tally q0_sizes q0_text q0_line q0_latestReason q0_latestDetail))) (F0 m 0 ls [])
  suffices hmain : ∀ (H : Heap) (locs : List Loc), Hp E (adr (wS E ad2 q0_letters q0_trial q0_snapshot q0_isSaved q0_past q0_rows q0_bags q0_tally q0_sizes q0_text q0_line q0_latestReason q0_latestDetail)) (wS E ad2 q0_letters q0_trial q0_snapshot q0_isSaved q0_past q0_rows q0_bags q0_tally q0_sizes q0_text q0_line q0_latestReason q0_latestDetail) s.heap H locs → W p l e rmW_mark s m args below meth c H locs 0 0 (MQ below (qW E (some .long) (some (.long t.1)) (wS E ad2 q0_letters q0_trial q0_snapshot q0_isSaved q0_past q0_rows q0_bags q0_tally q0_sizes q0_text q0_line q0_latestReason q0_latestDetail) (wS E ad2 t.2.1 q0_trial q0_snapshot q0_isSaved t.2.2.1 t.2.2.2.1 t.2.2.2.2.1 q0_tally q0_sizes q0_text q0_line t.2.2.2.2.2.1 t.2.2.2.2.2.2)) args s 0 0 (adr (wS E ad2 q0_letters q0_trial q0_snapshot q0_isSaved q0_past q0_rows q0_bags q0_tally q0_sizes q0_text q0_line q0_latestReason q0_latestDetail))) (F0 m 0 ls []) from hmain _ _ hH
  clear hH
  intro H locs hH
  rw [fW_mark] at hf
  refine lv_aload_n hx hb dL_mark_0 rfl (lv_at hl 0 rfl) ?_
  refine lv_iload_n hx hb dL_mark_1 rfl (lv_at hl 1 rfl) ?_
  refine lv_iload_n hx hb dL_mark_2 rfl (lv_at hl 2 rfl) ?_
  obtain ⟨t1, ht1, hf⟩ := ob hf
  refine k_WVsi hC LL_23 ⟨Nat.le_of_ble_eq_true rfl, Nat.le_of_ble_eq_true rfl⟩ ⟨Nat.zero_le _, Nat.zero_le _⟩ (cS_mark l E ad2 q0_letters q0_trial q0_snapshot q0_isSaved q0_past q0_rows q0_bags q0_tally q0_sizes q0_text q0_line q0_latestReason q0_latestDetail a1 a2 t1 ht1) rfl rfl hH rfl rfl rfl hl.1 rfl (Nat.le_of_ble_eq_true rfl) rfl dL_mark_3 (fun H locs hz3 hH => ?_)
  have hH : Hp E (adr (wS E ad2 q0_letters q0_trial q0_snapshot q0_isSaved q0_past q0_rows q0_bags q0_tally q0_sizes q0_text q0_line q0_latestReason q0_latestDetail)) (wS E ad2 t1.2.1 q0_trial q0_snapshot q0_isSaved t1.2.2.1 t1.2.2.2.1 t1.2.2.2.2.1 q0_tally q0_sizes q0_text q0_line t1.2.2.2.2.2.1 t1.2.2.2.2.2.2) s.heap H locs := hH
  refine lv_i2l hx hb dL_mark_6 rfl ?_
  have hf := Option.some.inj hf
  subst hf
  exact e_Wl hC hH hr hlocks rfl rfl dL_mark_7
abbrev rmW_weight : Room := { frames := 2, cells := 0, slots := 0, locals := 42 }
set_option maxHeartbeats 4000000 in
set_option maxRecDepth 100000 in
theorem cW_weight (l : Launch) (E : eE) (ad2 : Nat → Nat) (q0_letters : TL) (q0_trial : TL) (q0_snapshot : TL) (q0_isSaved : Int32) (q0_past : TP) (q0_rows : TR) (q0_bags : TB) (q0_tally : TY) (q0_sizes : TZ) (q0_text : TT) (q0_line : TN) (q0_latestReason : Int32) (q0_latestDetail : Int32) (a1 : Int32) (r : Int64) (hf : fW_weight q0_letters a1 = some r) : cP l E yL_weight cL_weight 2 (some .long) rmW_weight [.ref (ad2 0), .int a1] (wS E ad2 q0_letters q0_trial q0_snapshot q0_isSaved q0_past q0_rows q0_bags q0_tally q0_sizes q0_text q0_line q0_latestReason q0_latestDetail) (some (.long r)) := by
  refine Met.ofW (cc := cL_weight) (maxL := 2) (ret := (some .long)) (by decide) rfl ?_
  intro p e s m args below meth c s₁ B hml hv
  obtain ⟨hargs, hP, hK⟩ := hv
  have hx := B.exec
  have hb := B.bytes
  have hr := B.returns
  have hts := atoms_spec (ws := ws_ yL_weight cL_weight 2 (some .long)) B.pre
  have hta : ∀ w ∈ lw_all, w.before args s = true := fun w h => hts w (List.mem_cons_of_mem _ h)
  have hown : s.vm.findClass RL = some m.cls := findClass_of_methodNamed B.named
  have hlocks := B.notSynchronized
  have hC : Cx p s m args c cL_weight 2 RL E := ⟨hx, hb, hml, hown, hta, hK⟩
  obtain ⟨ls, he, hl⟩ := entry_ (m := m) (n := 2) hargs (Nat.le_of_ble_eq_true rfl)
  rw [he]
  have hl : lv_has ls 2 [(0, .ref (ad2 0)), (1, .int a1)] := hl
  show W p l e rmW_weight s m args below meth c s.heap [] 0 0 (MQ below (qP (some .long) (some (.long r))) args s 0 0 (fun _ => False)) (F0 m 0 ls [])
  rw [fW_weight] at hf
  refine lv_aload_n hx hb dL_weight_0 rfl (lv_at hl 0 rfl) ?_
  refine lv_iload_n hx hb dL_weight_1 rfl (lv_at hl 1 rfl) ?_
  obtain ⟨t1, ht1, hf⟩ := ob hf
  refine k_PVi hC LL_27 ⟨Nat.le_of_ble_eq_true rfl, Nat.le_of_ble_eq_true rfl⟩ ⟨Nat.zero_le _, Nat.zero_le _⟩ (cS_weight l E ad2 q0_letters q0_trial q0_snapshot q0_isSaved q0_past q0_rows q0_bags q0_tally q0_sizes q0_text q0_line q0_latestReason q0_latestDetail a1 t1 ht1) rfl rfl hP rfl rfl hl.1 rfl (Nat.le_of_ble_eq_true rfl) rfl dL_weight_2 (fun hz2 => ?_)
  refine lv_i2l hx hb dL_weight_5 rfl ?_
  have hf := Option.some.inj hf
  exact e_Pl hC hr hlocks hf dL_weight_6
abbrev rmW_weightAgain : Room := { frames := 5, cells := 0, slots := 0, locals := 118 }
set_option maxHeartbeats 4000000 in
set_option maxRecDepth 100000 in
theorem cW_weightAgain (l : Launch) (E : eE) (ad2 : Nat → Nat) (q0_letters : TL) (q0_trial : TL) (q0_snapshot : TL) (q0_isSaved : Int32) (q0_past : TP) (q0_rows : TR) (q0_bags : TB) (q0_tally : TY) (q0_sizes : TZ) (q0_text : TT) (q0_line : TN) (q0_latestReason : Int32) (q0_latestDetail : Int32) (a1 : Int32) (r : Int64) (hf : fW_weightAgain q0_letters q0_rows a1 = some r) : cP l E yL_weightAgain cL_weightAgain 2 (some .long) rmW_weightAgain [.ref (ad2 0), .int a1] (wS E ad2 q0_letters q0_trial q0_snapshot q0_isSaved q0_past q0_rows q0_bags q0_tally q0_sizes q0_text q0_line q0_latestReason q0_latestDetail) (some (.long r)) := by
  refine Met.ofW (cc := cL_weightAgain) (maxL := 2) (ret := (some .long)) (by decide) rfl ?_
  intro p e s m args below meth c s₁ B hml hv
  obtain ⟨hargs, hP, hK⟩ := hv
  have hx := B.exec
  have hb := B.bytes
  have hr := B.returns
  have hts := atoms_spec (ws := ws_ yL_weightAgain cL_weightAgain 2 (some .long)) B.pre
  have hta : ∀ w ∈ lw_all, w.before args s = true := fun w h => hts w (List.mem_cons_of_mem _ h)
  have hown : s.vm.findClass RL = some m.cls := findClass_of_methodNamed B.named
  have hlocks := B.notSynchronized
  have hC : Cx p s m args c cL_weightAgain 2 RL E := ⟨hx, hb, hml, hown, hta, hK⟩
  obtain ⟨ls, he, hl⟩ := entry_ (m := m) (n := 2) hargs (Nat.le_of_ble_eq_true rfl)
  rw [he]
  have hl : lv_has ls 2 [(0, .ref (ad2 0)), (1, .int a1)] := hl
  show W p l e rmW_weightAgain s m args below meth c s.heap [] 0 0 (MQ below (qP (some .long) (some (.long r))) args s 0 0 (fun _ => False)) (F0 m 0 ls [])
  rw [fW_weightAgain] at hf
  refine lv_aload_n hx hb dL_weightAgain_0 rfl (lv_at hl 0 rfl) ?_
  refine lv_iload_n hx hb dL_weightAgain_1 rfl (lv_at hl 1 rfl) ?_
  obtain ⟨t1, ht1, hf⟩ := ob hf
  refine k_PVi hC LL_30 ⟨Nat.le_of_ble_eq_true rfl, Nat.le_of_ble_eq_true rfl⟩ ⟨Nat.zero_le _, Nat.zero_le _⟩ (cS_weightAgain l E ad2 q0_letters q0_trial q0_snapshot q0_isSaved q0_past q0_rows q0_bags q0_tally q0_sizes q0_text q0_line q0_latestReason q0_latestDetail a1 t1 ht1) rfl rfl hP rfl rfl hl.1 rfl (Nat.le_of_ble_eq_true rfl) rfl dL_weightAgain_2 (fun hz2 => ?_)
  refine lv_i2l hx hb dL_weightAgain_5 rfl ?_
  have hf := Option.some.inj hf
  exact e_Pl hC hr hlocks hf dL_weightAgain_6
abbrev rmW_bit : Room := { frames := 3, cells := 0, slots := 0, locals := 64 }
set_option maxHeartbeats 4000000 in
set_option maxRecDepth 100000 in
theorem cW_bit (l : Launch) (E : eE) (ad2 : Nat → Nat) (q0_letters : TL) (q0_trial : TL) (q0_snapshot : TL) (q0_isSaved : Int32) (q0_past : TP) (q0_rows : TR) (q0_bags : TB) (q0_tally : TY) (q0_sizes : TZ) (q0_text : TT) (q0_line : TN) (q0_latestReason : Int32) (q0_latestDetail : Int32) (a1 : Int32) (a2 : Int32) (r : Int64) (hf : fW_bit q0_letters q0_rows a1 a2 = some r) : cP l E yL_bit cL_bit 3 (some .long) rmW_bit [.ref (ad2 0), .int a1, .int a2] (wS E ad2 q0_letters q0_trial q0_snapshot q0_isSaved q0_past q0_rows q0_bags q0_tally q0_sizes q0_text q0_line q0_latestReason q0_latestDetail) (some (.long r)) := by
  refine Met.ofW (cc := cL_bit) (maxL := 3) (ret := (some .long)) (by decide) rfl ?_
  intro p e s m args below meth c s₁ B hml hv
  obtain ⟨hargs, hP, hK⟩ := hv
  have hx := B.exec
  have hb := B.bytes
  have hr := B.returns
  have hts := atoms_spec (ws := ws_ yL_bit cL_bit 3 (some .long)) B.pre
  have hta : ∀ w ∈ lw_all, w.before args s = true := fun w h => hts w (List.mem_cons_of_mem _ h)
  have hown : s.vm.findClass RL = some m.cls := findClass_of_methodNamed B.named
  have hlocks := B.notSynchronized
  have hC : Cx p s m args c cL_bit 3 RL E := ⟨hx, hb, hml, hown, hta, hK⟩
  obtain ⟨ls, he, hl⟩ := entry_ (m := m) (n := 3) hargs (Nat.le_of_ble_eq_true rfl)
  rw [he]
  have hl : lv_has ls 3 [(0, .ref (ad2 0)), (1, .int a1), (2, .int a2)] := hl
  show W p l e rmW_bit s m args below meth c s.heap [] 0 0 (MQ below (qP (some .long) (some (.long r))) args s 0 0 (fun _ => False)) (F0 m 0 ls [])
  rw [fW_bit] at hf
  refine lv_aload_n hx hb dL_bit_0 rfl (lv_at hl 0 rfl) ?_
  refine lv_iload_n hx hb dL_bit_1 rfl (lv_at hl 1 rfl) ?_
  refine lv_iload_n hx hb dL_bit_2 rfl (lv_at hl 2 rfl) ?_
  obtain ⟨t1, ht1, hf⟩ := ob hf
  refine k_PVi hC LL_33 ⟨Nat.le_of_ble_eq_true rfl, Nat.le_of_ble_eq_true rfl⟩ ⟨Nat.zero_le _, Nat.zero_le _⟩ (cS_bit l E ad2 q0_letters q0_trial q0_snapshot q0_isSaved q0_past q0_rows q0_bags q0_tally q0_sizes q0_text q0_line q0_latestReason q0_latestDetail a1 a2 t1 ht1) rfl rfl hP rfl rfl hl.1 rfl (Nat.le_of_ble_eq_true rfl) rfl dL_bit_3 (fun hz3 => ?_)
  refine lv_i2l hx hb dL_bit_6 rfl ?_
  have hf := Option.some.inj hf
  exact e_Pl hC hr hlocks hf dL_bit_7
abbrev rmW_bits : Room := { frames := 3, cells := 0, slots := 0, locals := 62 }
set_option maxHeartbeats 4000000 in
set_option maxRecDepth 100000 in
theorem cW_bits (l : Launch) (E : eE) (ad2 : Nat → Nat) (q0_letters : TL) (q0_trial : TL) (q0_snapshot : TL) (q0_isSaved : Int32) (q0_past : TP) (q0_rows : TR) (q0_bags : TB) (q0_tally : TY) (q0_sizes : TZ) (q0_text : TT) (q0_line : TN) (q0_latestReason : Int32) (q0_latestDetail : Int32) (a1 : Int32) (r : Int64) (hf : fW_bits q0_rows a1 = some r) : cP l E yL_bits cL_bits 2 (some .long) rmW_bits [.ref (ad2 0), .int a1] (wS E ad2 q0_letters q0_trial q0_snapshot q0_isSaved q0_past q0_rows q0_bags q0_tally q0_sizes q0_text q0_line q0_latestReason q0_latestDetail) (some (.long r)) := by
  refine Met.ofW (cc := cL_bits) (maxL := 2) (ret := (some .long)) (by decide) rfl ?_
  intro p e s m args below meth c s₁ B hml hv
  obtain ⟨hargs, hP, hK⟩ := hv
  have hx := B.exec
  have hb := B.bytes
  have hr := B.returns
  have hts := atoms_spec (ws := ws_ yL_bits cL_bits 2 (some .long)) B.pre
  have hta : ∀ w ∈ lw_all, w.before args s = true := fun w h => hts w (List.mem_cons_of_mem _ h)
  have hown : s.vm.findClass RL = some m.cls := findClass_of_methodNamed B.named
  have hlocks := B.notSynchronized
  have hC : Cx p s m args c cL_bits 2 RL E := ⟨hx, hb, hml, hown, hta, hK⟩
  obtain ⟨ls, he, hl⟩ := entry_ (m := m) (n := 2) hargs (Nat.le_of_ble_eq_true rfl)
  rw [he]
  have hl : lv_has ls 2 [(0, .ref (ad2 0)), (1, .int a1)] := hl
  show W p l e rmW_bits s m args below meth c s.heap [] 0 0 (MQ below (qP (some .long) (some (.long r))) args s 0 0 (fun _ => False)) (F0 m 0 ls [])
  rw [fW_bits] at hf
  refine lv_aload_n hx hb dL_bits_0 rfl (lv_at hl 0 rfl) ?_
  refine lv_iload_n hx hb dL_bits_1 rfl (lv_at hl 1 rfl) ?_
  obtain ⟨t1, ht1, hf⟩ := ob hf
  refine k_PVl hC LL_36 ⟨Nat.le_of_ble_eq_true rfl, Nat.le_of_ble_eq_true rfl⟩ ⟨Nat.zero_le _, Nat.zero_le _⟩ (cS_bits l E ad2 q0_letters q0_trial q0_snapshot q0_isSaved q0_past q0_rows q0_bags q0_tally q0_sizes q0_text q0_line q0_latestReason q0_latestDetail a1 t1 ht1) rfl rfl hP rfl rfl hl.1 rfl (Nat.le_of_ble_eq_true rfl) rfl dL_bits_2 (fun hz2 => ?_)
  have hf := Option.some.inj hf
  exact e_Pl hC hr hlocks hf dL_bits_5
abbrev rmW_rank : Room := { frames := 3, cells := 0, slots := 0, locals := 71 }
set_option maxHeartbeats 4000000 in
set_option maxRecDepth 100000 in
theorem cW_rank (l : Launch) (E : eE) (ad2 : Nat → Nat) (q0_letters : TL) (q0_trial : TL) (q0_snapshot : TL) (q0_isSaved : Int32) (q0_past : TP) (q0_rows : TR) (q0_bags : TB) (q0_tally : TY) (q0_sizes : TZ) (q0_text : TT) (q0_line : TN) (q0_latestReason : Int32) (q0_latestDetail : Int32) (a1 : Int32) (a2 : Int32) (a3 : Int32) (r : Int64) (hf : fW_rank q0_letters q0_rows a1 a2 a3 = some r) : cP l E yL_rank cL_rank 4 (some .long) rmW_rank [.ref (ad2 0), .int a1, .int a2, .int a3] (wS E ad2 q0_letters q0_trial q0_snapshot q0_isSaved q0_past q0_rows q0_bags q0_tally q0_sizes q0_text q0_line q0_latestReason q0_latestDetail) (some (.long r)) := by
  refine Met.ofW (cc := cL_rank) (maxL := 4) (ret := (some .long)) (by decide) rfl ?_
  intro p e s m args below meth c s₁ B hml hv
  obtain ⟨hargs, hP, hK⟩ := hv
  have hx := B.exec
  have hb := B.bytes
  have hr := B.returns
  have hts := atoms_spec (ws := ws_ yL_rank cL_rank 4 (some .long)) B.pre
  have hta : ∀ w ∈ lw_all, w.before args s = true := fun w h => hts w (List.mem_cons_of_mem _ h)
  have hown : s.vm.findClass RL = some m.cls := findClass_of_methodNamed B.named
  have hlocks := B.notSynchronized
  have hC : Cx p s m args c cL_rank 4 RL E := ⟨hx, hb, hml, hown, hta, hK⟩
  obtain ⟨ls, he, hl⟩ := entry_ (m := m) (n := 4) hargs (Nat.le_of_ble_eq_true rfl)
  rw [he]
  have hl : lv_has ls 4 [(0, .ref (ad2 0)), (1, .int a1), (2, .int a2), (3, .int a3)] := hl
  show W p l e rmW_rank s m args below meth c s.heap [] 0 0 (MQ below (qP (some .long) (some (.long r))) args s 0 0 (fun _ => False)) (F0 m 0 ls [])
  rw [fW_rank] at hf
  refine lv_aload_n hx hb dL_rank_0 rfl (lv_at hl 0 rfl) ?_
  refine lv_iload_n hx hb dL_rank_1 rfl (lv_at hl 1 rfl) ?_
  refine lv_iload_n hx hb dL_rank_2 rfl (lv_at hl 2 rfl) ?_
  refine lv_iload_n hx hb dL_rank_3 rfl (lv_at hl 3 rfl) ?_
  obtain ⟨t1, ht1, hf⟩ := ob hf
  refine k_PVi hC LL_40 ⟨Nat.le_of_ble_eq_true rfl, Nat.le_of_ble_eq_true rfl⟩ ⟨Nat.zero_le _, Nat.zero_le _⟩ (cS_rank l E ad2 q0_letters q0_trial q0_snapshot q0_isSaved q0_past q0_rows q0_bags q0_tally q0_sizes q0_text q0_line q0_latestReason q0_latestDetail a1 a2 a3 t1 ht1) rfl rfl hP rfl rfl hl.1 rfl (Nat.le_of_ble_eq_true rfl) rfl dL_rank_4 (fun hz4 => ?_)
  refine lv_i2l hx hb dL_rank_7 rfl ?_
  have hf := Option.some.inj hf
  exact e_Pl hC hr hlocks hf dL_rank_8
abbrev rmW_rankAgain : Room := { frames := 5, cells := 0, slots := 0, locals := 113 }
set_option maxHeartbeats 4000000 in
set_option maxRecDepth 100000 in
theorem cW_rankAgain (l : Launch) (E : eE) (ad2 : Nat → Nat) (q0_letters : TL) (q0_trial : TL) (q0_snapshot : TL) (q0_isSaved : Int32) (q0_past : TP) (q0_rows : TR) (q0_bags : TB) (q0_tally : TY) (q0_sizes : TZ) (q0_text : TT) (q0_line : TN) (q0_latestReason : Int32) (q0_latestDetail : Int32) (a1 : Int32) (a2 : Int32) (a3 : Int32) (r : Int64) (hf : fW_rankAgain q0_letters q0_rows a1 a2 a3 = some r) : cP l E yL_rankAgain cL_rankAgain 4 (some .long) rmW_rankAgain [.ref (ad2 0), .int a1, .int a2, .int a3] (wS E ad2 q0_letters q0_trial q0_snapshot q0_isSaved q0_past q0_rows q0_bags q0_tally q0_sizes q0_text q0_line q0_latestReason q0_latestDetail) (some (.long r)) := by
  refine Met.ofW (cc := cL_rankAgain) (maxL := 4) (ret := (some .long)) (by decide) rfl ?_
  intro p e s m args below meth c s₁ B hml hv
  obtain ⟨hargs, hP, hK⟩ := hv
  have hx := B.exec
  have hb := B.bytes
  have hr := B.returns
  have hts := atoms_spec (ws := ws_ yL_rankAgain cL_rankAgain 4 (some .long)) B.pre
  have hta : ∀ w ∈ lw_all, w.before args s = true := fun w h => hts w (List.mem_cons_of_mem _ h)
  have hown : s.vm.findClass RL = some m.cls := findClass_of_methodNamed B.named
  have hlocks := B.notSynchronized
  have hC : Cx p s m args c cL_rankAgain 4 RL E := ⟨hx, hb, hml, hown, hta, hK⟩
  obtain ⟨ls, he, hl⟩ := entry_ (m := m) (n := 4) hargs (Nat.le_of_ble_eq_true rfl)
  rw [he]
  have hl : lv_has ls 4 [(0, .ref (ad2 0)), (1, .int a1), (2, .int a2), (3, .int a3)] := hl
  show W p l e rmW_rankAgain s m args below meth c s.heap [] 0 0 (MQ below (qP (some .long) (some (.long r))) args s 0 0 (fun _ => False)) (F0 m 0 ls [])
  rw [fW_rankAgain] at hf
  refine lv_aload_n hx hb dL_rankAgain_0 rfl (lv_at hl 0 rfl) ?_
  refine lv_iload_n hx hb dL_rankAgain_1 rfl (lv_at hl 1 rfl) ?_
  refine lv_iload_n hx hb dL_rankAgain_2 rfl (lv_at hl 2 rfl) ?_
  refine lv_iload_n hx hb dL_rankAgain_3 rfl (lv_at hl 3 rfl) ?_
  obtain ⟨t1, ht1, hf⟩ := ob hf
  refine k_PVi hC LL_44 ⟨Nat.le_of_ble_eq_true rfl, Nat.le_of_ble_eq_true rfl⟩ ⟨Nat.zero_le _, Nat.zero_le _⟩ (cS_rankAgain l E ad2 q0_letters q0_trial q0_snapshot q0_isSaved q0_past q0_rows q0_bags q0_tally q0_sizes q0_text q0_line q0_latestReason q0_latestDetail a1 a2 a3 t1 ht1) rfl rfl hP rfl rfl hl.1 rfl (Nat.le_of_ble_eq_true rfl) rfl dL_rankAgain_4 (fun hz4 => ?_)
  refine lv_i2l hx hb dL_rankAgain_7 rfl ?_
  have hf := Option.some.inj hf
  exact e_Pl hC hr hlocks hf dL_rankAgain_8
abbrev rmW_select : Room := { frames := 5, cells := 0, slots := 0, locals := 115 }
set_option maxHeartbeats 4000000 in
set_option maxRecDepth 100000 in
theorem cW_select (l : Launch) (E : eE) (ad2 : Nat → Nat) (q0_letters : TL) (q0_trial : TL) (q0_snapshot : TL) (q0_isSaved : Int32) (q0_past : TP) (q0_rows : TR) (q0_bags : TB) (q0_tally : TY) (q0_sizes : TZ) (q0_text : TT) (q0_line : TN) (q0_latestReason : Int32) (q0_latestDetail : Int32) (a1 : Int32) (a2 : Int32) (a3 : Int32) (r : Int64) (hf : fW_select q0_rows a1 a2 a3 = some r) : cP l E yL_select cL_select 4 (some .long) rmW_select [.ref (ad2 0), .int a1, .int a2, .int a3] (wS E ad2 q0_letters q0_trial q0_snapshot q0_isSaved q0_past q0_rows q0_bags q0_tally q0_sizes q0_text q0_line q0_latestReason q0_latestDetail) (some (.long r)) := by
  refine Met.ofW (cc := cL_select) (maxL := 4) (ret := (some .long)) (by decide) rfl ?_
  intro p e s m args below meth c s₁ B hml hv
  obtain ⟨hargs, hP, hK⟩ := hv
  have hx := B.exec
  have hb := B.bytes
  have hr := B.returns
  have hts := atoms_spec (ws := ws_ yL_select cL_select 4 (some .long)) B.pre
  have hta : ∀ w ∈ lw_all, w.before args s = true := fun w h => hts w (List.mem_cons_of_mem _ h)
  have hown : s.vm.findClass RL = some m.cls := findClass_of_methodNamed B.named
  have hlocks := B.notSynchronized
  have hC : Cx p s m args c cL_select 4 RL E := ⟨hx, hb, hml, hown, hta, hK⟩
  obtain ⟨ls, he, hl⟩ := entry_ (m := m) (n := 4) hargs (Nat.le_of_ble_eq_true rfl)
  rw [he]
  have hl : lv_has ls 4 [(0, .ref (ad2 0)), (1, .int a1), (2, .int a2), (3, .int a3)] := hl
  show W p l e rmW_select s m args below meth c s.heap [] 0 0 (MQ below (qP (some .long) (some (.long r))) args s 0 0 (fun _ => False)) (F0 m 0 ls [])
  rw [fW_select] at hf
  refine lv_aload_n hx hb dL_select_0 rfl (lv_at hl 0 rfl) ?_
  refine lv_iload_n hx hb dL_select_1 rfl (lv_at hl 1 rfl) ?_
  refine lv_iload_n hx hb dL_select_2 rfl (lv_at hl 2 rfl) ?_
  refine lv_iload_n hx hb dL_select_3 rfl (lv_at hl 3 rfl) ?_
  obtain ⟨t1, ht1, hf⟩ := ob hf
  refine k_PVi hC LL_47 ⟨Nat.le_of_ble_eq_true rfl, Nat.le_of_ble_eq_true rfl⟩ ⟨Nat.zero_le _, Nat.zero_le _⟩ (cS_select l E ad2 q0_letters q0_trial q0_snapshot q0_isSaved q0_past q0_rows q0_bags q0_tally q0_sizes q0_text q0_line q0_latestReason q0_latestDetail a1 a2 a3 t1 ht1) rfl rfl hP rfl rfl hl.1 rfl (Nat.le_of_ble_eq_true rfl) rfl dL_select_4 (fun hz4 => ?_)
  refine lv_i2l hx hb dL_select_7 rfl ?_
  have hf := Option.some.inj hf
  exact e_Pl hC hr hlocks hf dL_select_8
abbrev rmW_placeIn : Room := { frames := 5, cells := 0, slots := 0, locals := 118 }
set_option maxHeartbeats 4000000 in
set_option maxRecDepth 100000 in
theorem cW_placeIn (l : Launch) (E : eE) (ad2 : Nat → Nat) (q0_letters : TL) (q0_trial : TL) (q0_snapshot : TL) (q0_isSaved : Int32) (q0_past : TP) (q0_rows : TR) (q0_bags : TB) (q0_tally : TY) (q0_sizes : TZ) (q0_text : TT) (q0_line : TN) (q0_latestReason : Int32) (q0_latestDetail : Int32) (a1 : Int32) (a2 : Int32) (r : Int64) (hf : fW_placeIn q0_letters q0_rows a1 a2 = some r) : cP l E yL_placeIn cL_placeIn 3 (some .long) rmW_placeIn [.ref (ad2 0), .int a1, .int a2] (wS E ad2 q0_letters q0_trial q0_snapshot q0_isSaved q0_past q0_rows q0_bags q0_tally q0_sizes q0_text q0_line q0_latestReason q0_latestDetail) (some (.long r)) := by
  refine Met.ofW (cc := cL_placeIn) (maxL := 3) (ret := (some .long)) (by decide) rfl ?_
  intro p e s m args below meth c s₁ B hml hv
  obtain ⟨hargs, hP, hK⟩ := hv
  have hx := B.exec
  have hb := B.bytes
  have hr := B.returns
  have hts := atoms_spec (ws := ws_ yL_placeIn cL_placeIn 3 (some .long)) B.pre
  have hta : ∀ w ∈ lw_all, w.before args s = true := fun w h => hts w (List.mem_cons_of_mem _ h)
  have hown : s.vm.findClass RL = some m.cls := findClass_of_methodNamed B.named
  have hlocks := B.notSynchronized
  have hC : Cx p s m args c cL_placeIn 3 RL E := ⟨hx, hb, hml, hown, hta, hK⟩
  obtain ⟨ls, he, hl⟩ := entry_ (m := m) (n := 3) hargs (Nat.le_of_ble_eq_true rfl)
  rw [he]
  have hl : lv_has ls 3 [(0, .ref (ad2 0)), (1, .int a1), (2, .int a2)] := hl
  show W p l e rmW_placeIn s m args below meth c s.heap [] 0 0 (MQ below (qP (some .long) (some (.long r))) args s 0 0 (fun _ => False)) (F0 m 0 ls [])
  rw [fW_placeIn] at hf
  refine lv_aload_n hx hb dL_placeIn_0 rfl (lv_at hl 0 rfl) ?_
  refine lv_iload_n hx hb dL_placeIn_1 rfl (lv_at hl 1 rfl) ?_
  refine lv_iload_n hx hb dL_placeIn_2 rfl (lv_at hl 2 rfl) ?_
  obtain ⟨t1, ht1, hf⟩ := ob hf
  refine k_PVi hC LL_50 ⟨Nat.le_of_ble_eq_true rfl, Nat.le_of_ble_eq_true rfl⟩ ⟨Nat.zero_le _, Nat.zero_le _⟩ (cS_placeIn l E ad2 q0_letters q0_trial q0_snapshot q0_isSaved q0_past q0_rows q0_bags q0_tally q0_sizes q0_text q0_line q0_latestReason q0_latestDetail a1 a2 t1 ht1) rfl rfl hP rfl rfl hl.1 rfl (Nat.le_of_ble_eq_true rfl) rfl dL_placeIn_3 (fun hz3 => ?_)
  refine lv_i2l hx hb dL_placeIn_6 rfl ?_
  have hf := Option.some.inj hf
  exact e_Pl hC hr hlocks hf dL_placeIn_7
abbrev rmW_quantile : Room := { frames := 5, cells := 0, slots := 0, locals := 125 }
set_option maxHeartbeats 4000000 in
set_option maxRecDepth 100000 in
theorem cW_quantile (l : Launch) (E : eE) (ad2 : Nat → Nat) (q0_letters : TL) (q0_trial : TL) (q0_snapshot : TL) (q0_isSaved : Int32) (q0_past : TP) (q0_rows : TR) (q0_bags : TB) (q0_tally : TY) (q0_sizes : TZ) (q0_text : TT) (q0_line : TN) (q0_latestReason : Int32) (q0_latestDetail : Int32) (a1 : Int32) (a2 : Int32) (a3 : Int32) (r : Int64) (hf : fW_quantile q0_letters q0_rows a1 a2 a3 = some r) : cP l E yL_quantile cL_quantile 4 (some .long) rmW_quantile [.ref (ad2 0), .int a1, .int a2, .int a3] (wS E ad2 q0_letters q0_trial q0_snapshot q0_isSaved q0_past q0_rows q0_bags q0_tally q0_sizes q0_text q0_line q0_latestReason q0_latestDetail) (some (.long r)) := by
  refine Met.ofW (cc := cL_quantile) (maxL := 4) (ret := (some .long)) (by decide) rfl ?_
  intro p e s m args below meth c s₁ B hml hv
  obtain ⟨hargs, hP, hK⟩ := hv
  have hx := B.exec
  have hb := B.bytes
  have hr := B.returns
  have hts := atoms_spec (ws := ws_ yL_quantile cL_quantile 4 (some .long)) B.pre
  have hta : ∀ w ∈ lw_all, w.before args s = true := fun w h => hts w (List.mem_cons_of_mem _ h)
  have hown : s.vm.findClass RL = some m.cls := findClass_of_methodNamed B.named
  have hlocks := B.notSynchronized
  have hC : Cx p s m args c cL_quantile 4 RL E := ⟨hx, hb, hml, hown, hta, hK⟩
  obtain ⟨ls, he, hl⟩ := entry_ (m := m) (n := 4) hargs (Nat.le_of_ble_eq_true rfl)
  rw [he]
  have hl : lv_has ls 4 [(0, .ref (ad2 0)), (1, .int a1), (2, .int a2), (3, .int a3)] := hl
  show W p l e rmW_quantile s m args below meth c s.heap [] 0 0 (MQ below (qP (some .long) (some (.long r))) args s 0 0 (fun _ => False)) (F0 m 0 ls [])
  rw [fW_quantile] at hf
  refine lv_aload_n hx hb dL_quantile_0 rfl (lv_at hl 0 rfl) ?_
  refine lv_iload_n hx hb dL_quantile_1 rfl (lv_at hl 1 rfl) ?_
  refine lv_iload_n hx hb dL_quantile_2 rfl (lv_at hl 2 rfl) ?_
  refine lv_iload_n hx hb dL_quantile_3 rfl (lv_at hl 3 rfl) ?_
  obtain ⟨t1, ht1, hf⟩ := ob hf
  refine k_PVi hC LL_53 ⟨Nat.le_of_ble_eq_true rfl, Nat.le_of_ble_eq_true rfl⟩ ⟨Nat.zero_le _, Nat.zero_le _⟩ (cS_quantile l E ad2 q0_letters q0_trial q0_snapshot q0_isSaved q0_past q0_rows q0_bags q0_tally q0_sizes q0_text q0_line q0_latestReason q0_latestDetail a1 a2 a3 t1 ht1) rfl rfl hP rfl rfl hl.1 rfl (Nat.le_of_ble_eq_true rfl) rfl dL_quantile_4 (fun hz4 => ?_)
  refine lv_i2l hx hb dL_quantile_7 rfl ?_
  have hf := Option.some.inj hf
  exact e_Pl hC hr hlocks hf dL_quantile_8
abbrev rmW_quantileAgain : Room := { frames := 4, cells := 0, slots := 0, locals := 88 }
set_option maxHeartbeats 4000000 in
set_option maxRecDepth 100000 in
theorem cW_quantileAgain (l : Launch) (E : eE) (ad2 : Nat → Nat) (q0_letters : TL) (q0_trial : TL) (q0_snapshot : TL) (q0_isSaved : Int32) (q0_past : TP) (q0_rows : TR) (q0_bags : TB) (q0_tally : TY) (q0_sizes : TZ) (q0_text : TT) (q0_line : TN) (q0_latestReason : Int32) (q0_latestDetail : Int32) (a1 : Int32) (a2 : Int32) (a3 : Int32) (t : Int64 × TZ) (hf : fW_quantileAgain q0_letters q0_sizes a1 a2 a3 = some t) : cW l E yL_quantileAgain cL_quantileAgain 4 (some .long) rmW_quantileAgain [.ref (ad2 0), .int a1, .int a2, .int a3] (wS E ad2 q0_letters q0_trial q0_snapshot q0_isSaved q0_past q0_rows q0_bags q0_tally q0_sizes q0_text q0_line q0_latestReason q0_latestDetail) (some (.long t.1)) (wS E ad2 q0_letters q0_trial q0_snapshot q0_isSaved q0_past q0_rows q0_bags q0_tally t.2 q0_text q0_line q0_latestReason q0_latestDetail) := by
  refine Met.ofW (cc := cL_quantileAgain) (maxL := 4) (ret := (some .long)) (by decide) rfl ?_
  intro p e s m args below meth c s₁ B hml hv
  obtain ⟨hargs, hP, hK, hD0⟩ := hv
  have hx := B.exec
  have hb := B.bytes
  have hr := B.returns
  have hts := atoms_spec (ws := ws_ yL_quantileAgain cL_quantileAgain 4 (some .long)) B.pre
  have hta : ∀ w ∈ lw_all, w.before args s = true := fun w h => hts w (List.mem_cons_of_mem _ h)
  have hown : s.vm.findClass RL = some m.cls := findClass_of_methodNamed B.named
  have hlocks := B.notSynchronized
  have hC : Cx p s m args c cL_quantileAgain 4 RL E := ⟨hx, hb, hml, hown, hta, hK⟩
  have hH : Hp E (adr (wS E ad2 q0_letters q0_trial q0_snapshot q0_isSaved q0_past q0_rows q0_bags q0_tally q0_sizes q0_text q0_line q0_latestReason q0_latestDetail)) (wS E ad2 q0_letters q0_trial q0_snapshot q0_isSaved q0_past q0_rows q0_bags q0_tally q0_sizes q0_text q0_line q0_latestReason q0_latestDetail) s.heap s.heap [] := Hp.start hP hD0
  obtain ⟨ls, he, hl⟩ := entry_ (m := m) (n := 4) hargs (Nat.le_of_ble_eq_true rfl)
  rw [he]
  have hl : lv_has ls 4 [(0, .ref (ad2 0)), (1, .int a1), (2, .int a2), (3, .int a3)] := hl
  show W p l e rmW_quantileAgain s m args below meth c s.heap [] 0 0 (MQ below (qW E (some .long) (some (.long t.1)) (wS E ad2 q0_letters q0_trial q0_snapshot q0_isSaved q0_past q0_rows q0_bags q0_tally q0_sizes q0_text q0_line q0_latestReason q0_latestDetail) (wS E ad2 q0_letters q0_trial q0_snapshot q0_isSaved q0_past q0_rows q0_bags q0_tally t.2 q0_text q0_line q0_latestReason q0_latestDetail)) args s 0 0 (adr (wS E ad2 q0_letters q0_trial q0_snapshot q0_isSaved q0_past q0_rows q0_bags q0_tally q0_sizes q0_text q0_line q0_latestReason q0_latestDetail))) (F0 m 0 ls [])
  suffices hmain : ∀ (H : Heap) (locs : List Loc), Hp E (adr (wS E ad2 q0_letters q0_trial q0_snapshot q0_isSaved q0_past q0_rows q0_bags q0_tally q0_sizes q0_text q0_line q0_latestReason q0_latestDetail)) (wS E ad2 q0_letters q0_trial q0_snapshot q0_isSaved q0_past q0_rows q0_bags q0_tally q0_sizes q0_text q0_line q0_latestReason q0_latestDetail) s.heap H locs → W p l e rmW_quantileAgain s m args below meth c H locs 0 0 (MQ below (qW E (some .long) (some (.long t.1)) (wS E ad2 q0_letters q0_trial q0_snapshot q0_isSaved q0_past q0_rows q0_bags q0_tally q0_sizes q0_text q0_line q0_latestReason q0_latestDetail) (wS E ad2 q0_letters q0_trial q0_snapshot q0_isSaved q0_past q0_rows q0_bags q0_tally t.2 q0_text q0_line q0_latestReason q0_latestDetail)) args s 0 0 (adr (wS E ad2 q0_letters q0_trial q0_snapshot q0_isSaved q0_past q0_rows q0_bags q0_tally q0_sizes q0_text q0_line q0_latestReason q0_latestDetail))) (F0 m 0 ls []) from hmain _ _ hH
  clear hH
  intro H locs hH
  rw [fW_quantileAgain] at hf
  refine lv_aload_n hx hb dL_quantileAgain_0 rfl (lv_at hl 0 rfl) ?_
  refine lv_iload_n hx hb dL_quantileAgain_1 rfl (lv_at hl 1 rfl) ?_
  refine lv_iload_n hx hb dL_quantileAgain_2 rfl (lv_at hl 2 rfl) ?_
  refine lv_iload_n hx hb dL_quantileAgain_3 rfl (lv_at hl 3 rfl) ?_
  obtain ⟨t1, ht1, hf⟩ := ob hf
  refine k_WVsi hC LL_57 ⟨Nat.le_of_ble_eq_true rfl, Nat.le_of_ble_eq_true rfl⟩ ⟨Nat.zero_le _, Nat.zero_le _⟩ (cS_quantileAgain l E ad2 q0_letters q0_trial q0_snapshot q0_isSaved q0_past q0_rows q0_bags q0_tally q0_sizes q0_text q0_line q0_latestReason q0_latestDetail a1 a2 a3 t1 ht1) rfl rfl hH rfl rfl rfl hl.1 rfl (Nat.le_of_ble_eq_true rfl) rfl dL_quantileAgain_4 (fun H locs hz4 hH => ?_)
  have hH : Hp E (adr (wS E ad2 q0_letters q0_trial q0_snapshot q0_isSaved q0_past q0_rows q0_bags q0_tally q0_sizes q0_text q0_line q0_latestReason q0_latestDetail)) (wS E ad2 q0_letters q0_trial q0_snapshot q0_isSaved q0_past q0_rows q0_bags q0_tally t1.2 q0_text q0_line q0_latestReason q0_latestDetail) s.heap H locs := hH
  refine lv_i2l hx hb dL_quantileAgain_7 rfl ?_
  have hf := Option.some.inj hf
  subst hf
  exact e_Wl hC hH hr hlocks rfl rfl dL_quantileAgain_8
abbrev rmW_count : Room := { frames := 6, cells := 0, slots := 0, locals := 142 }
set_option maxHeartbeats 4000000 in
set_option maxRecDepth 100000 in
theorem cW_count (l : Launch) (E : eE) (ad2 : Nat → Nat) (q0_letters : TL) (q0_trial : TL) (q0_snapshot : TL) (q0_isSaved : Int32) (q0_past : TP) (q0_rows : TR) (q0_bags : TB) (q0_tally : TY) (q0_sizes : TZ) (q0_text : TT) (q0_line : TN) (q0_latestReason : Int32) (q0_latestDetail : Int32) (a1 : Int32) (a2 : Int32) (a3 : Int32) (r : Int64) (hf : fW_count q0_letters q0_rows a1 a2 a3 = some r) : cP l E yL_count cL_count 4 (some .long) rmW_count [.ref (ad2 0), .int a1, .int a2, .int a3] (wS E ad2 q0_letters q0_trial q0_snapshot q0_isSaved q0_past q0_rows q0_bags q0_tally q0_sizes q0_text q0_line q0_latestReason q0_latestDetail) (some (.long r)) := by
  refine Met.ofW (cc := cL_count) (maxL := 4) (ret := (some .long)) (by decide) rfl ?_
  intro p e s m args below meth c s₁ B hml hv
  obtain ⟨hargs, hP, hK⟩ := hv
  have hx := B.exec
  have hb := B.bytes
  have hr := B.returns
  have hts := atoms_spec (ws := ws_ yL_count cL_count 4 (some .long)) B.pre
  have hta : ∀ w ∈ lw_all, w.before args s = true := fun w h => hts w (List.mem_cons_of_mem _ h)
  have hown : s.vm.findClass RL = some m.cls := findClass_of_methodNamed B.named
  have hlocks := B.notSynchronized
  have hC : Cx p s m args c cL_count 4 RL E := ⟨hx, hb, hml, hown, hta, hK⟩
  obtain ⟨ls, he, hl⟩ := entry_ (m := m) (n := 4) hargs (Nat.le_of_ble_eq_true rfl)
  rw [he]
  have hl : lv_has ls 4 [(0, .ref (ad2 0)), (1, .int a1), (2, .int a2), (3, .int a3)] := hl
  show W p l e rmW_count s m args below meth c s.heap [] 0 0 (MQ below (qP (some .long) (some (.long r))) args s 0 0 (fun _ => False)) (F0 m 0 ls [])
  rw [fW_count] at hf
  refine lv_aload_n hx hb dL_count_0 rfl (lv_at hl 0 rfl) ?_
  refine lv_iload_n hx hb dL_count_1 rfl (lv_at hl 1 rfl) ?_
  refine lv_iload_n hx hb dL_count_2 rfl (lv_at hl 2 rfl) ?_
  refine lv_iload_n hx hb dL_count_3 rfl (lv_at hl 3 rfl) ?_
  obtain ⟨t1, ht1, hf⟩ := ob hf
  refine k_PVi hC LL_60 ⟨Nat.le_of_ble_eq_true rfl, Nat.le_of_ble_eq_true rfl⟩ ⟨Nat.zero_le _, Nat.zero_le _⟩ (cS_count l E ad2 q0_letters q0_trial q0_snapshot q0_isSaved q0_past q0_rows q0_bags q0_tally q0_sizes q0_text q0_line q0_latestReason q0_latestDetail a1 a2 a3 t1 ht1) rfl rfl hP rfl rfl hl.1 rfl (Nat.le_of_ble_eq_true rfl) rfl dL_count_4 (fun hz4 => ?_)
  refine lv_i2l hx hb dL_count_7 rfl ?_
  have hf := Option.some.inj hf
  exact e_Pl hC hr hlocks hf dL_count_8
