abbrev rmW_lighter : Room := { frames := 5, cells := 0, slots := 0, locals := 123 }
set_option maxHeartbeats 4000000 in
set_option maxRecDepth 100000 in
theorem cW_lighter (l : Launch) (E : eE) (ad2 : Nat → Nat) (q0_letters : TL) (q0_trial : TL) (q0_snapshot : TL) (q0_isSaved : Int32) (q0_past : TP) (q0_rows : TR) (q0_bags : TB) (q0_tally : TY) (q0_sizes : TZ) (q0_text : TT) (q0_line : TN) (q0_latestReason : Int32) (q0_latestDetail : Int32) (a1 : Int32) (a2 : Int32) (a3 : Int32) (r : Int64) (hf : fW_lighter q0_letters q0_rows a1 a2 a3 = some r) : cP l E yL_lighter cL_lighter 4 (some .long) rmW_lighter [.ref (ad2 0), .int a1, .int a2, .int a3] (wS E ad2 q0_letters q0_trial q0_snapshot q0_isSaved q0_past q0_rows q0_bags q0_tally q0_sizes q0_text q0_line q0_latestReason q0_latestDetail) (some (.long r)) := by
  refine Met.ofW (cc := cL_lighter) (maxL := 4) (ret := (some .long)) (by decide) rfl ?_
  intro p e s m args below meth c s₁ B hml hv
  obtain ⟨hargs, hP, hK⟩ := hv
  have hx := B.exec
  have hb := B.bytes
  have hr := B.returns
  have hts := atoms_spec (ws := ws_ yL_lighter cL_lighter 4 (some .long)) B.pre
  have hta : ∀ w ∈ lw_all, w.before args s = true := fun w h => hts w (List.mem_cons_of_mem _ h)
  have hown : s.vm.findClass RL = some m.cls := findClass_of_methodNamed B.named
  have hlocks := B.notSynchronized
  have hC : Cx p s m args c cL_lighter 4 RL E := ⟨hx, hb, hml, hown, hta, hK⟩
  obtain ⟨ls, he, hl⟩ := entry_ (m := m) (n := 4) hargs (Nat.le_of_ble_eq_true rfl)
  rw [he]
  have hl : lv_has ls 4 [(0, .ref (ad2 0)), (1, .int a1), (2, .int a2), (3, .int a3)] := hl
  show W p l e rmW_lighter s m args below meth c s.heap [] 0 0 (MQ below (qP (some .long) (some (.long r))) args s 0 0 (fun _ => False)) (F0 m 0 ls [])
  rw [fW_lighter] at hf
  refine lv_aload_n hx hb dL_lighter_0 rfl (lv_at hl 0 rfl) ?_
  refine lv_iload_n hx hb dL_lighter_1 rfl (lv_at hl 1 rfl) ?_
  refine lv_iload_n hx hb dL_lighter_2 rfl (lv_at hl 2 rfl) ?_
  refine lv_iload_n hx hb dL_lighter_3 rfl (lv_at hl 3 rfl) ?_
  obtain ⟨t1, ht1, hf⟩ := ob hf
  refine k_PVi hC LL_63 ⟨Nat.le_of_ble_eq_true rfl, Nat.le_of_ble_eq_true rfl⟩ ⟨Nat.zero_le _, Nat.zero_le _⟩ (cS_lighter l E ad2 q0_letters q0_trial q0_snapshot q0_isSaved q0_past q0_rows q0_bags q0_tally q0_sizes q0_text q0_line q0_latestReason q0_latestDetail a1 a2 a3 t1 ht1) rfl rfl hP rfl rfl hl.1 rfl (Nat.le_of_ble_eq_true rfl) rfl dL_lighter_4 (fun hz4 => ?_)
  refine lv_i2l hx hb dL_lighter_7 rfl ?_
  have hf := Option.some.inj hf
  exact e_Pl hC hr hlocks hf dL_lighter_8
abbrev rmW_atLeast : Room := { frames := 5, cells := 0, slots := 0, locals := 126 }
set_option maxHeartbeats 4000000 in
set_option maxRecDepth 100000 in
theorem cW_atLeast (l : Launch) (E : eE) (ad2 : Nat → Nat) (q0_letters : TL) (q0_trial : TL) (q0_snapshot : TL) (q0_isSaved : Int32) (q0_past : TP) (q0_rows : TR) (q0_bags : TB) (q0_tally : TY) (q0_sizes : TZ) (q0_text : TT) (q0_line : TN) (q0_latestReason : Int32) (q0_latestDetail : Int32) (a1 : Int32) (a2 : Int32) (a3 : Int32) (r : Int64) (hf : fW_atLeast q0_letters q0_rows a1 a2 a3 = some r) : cP l E yL_atLeast cL_atLeast 4 (some .long) rmW_atLeast [.ref (ad2 0), .int a1, .int a2, .int a3] (wS E ad2 q0_letters q0_trial q0_snapshot q0_isSaved q0_past q0_rows q0_bags q0_tally q0_sizes q0_text q0_line q0_latestReason q0_latestDetail) (some (.long r)) := by
  refine Met.ofW (cc := cL_atLeast) (maxL := 4) (ret := (some .long)) (by decide) rfl ?_
  intro p e s m args below meth c s₁ B hml hv
  obtain ⟨hargs, hP, hK⟩ := hv
  have hx := B.exec
  have hb := B.bytes
  have hr := B.returns
  have hts := atoms_spec (ws := ws_ yL_atLeast cL_atLeast 4 (some .long)) B.pre
  have hta : ∀ w ∈ lw_all, w.before args s = true := fun w h => hts w (List.mem_cons_of_mem _ h)
  have hown : s.vm.findClass RL = some m.cls := findClass_of_methodNamed B.named
  have hlocks := B.notSynchronized
  have hC : Cx p s m args c cL_atLeast 4 RL E := ⟨hx, hb, hml, hown, hta, hK⟩
  obtain ⟨ls, he, hl⟩ := entry_ (m := m) (n := 4) hargs (Nat.le_of_ble_eq_true rfl)
  rw [he]
  have hl : lv_has ls 4 [(0, .ref (ad2 0)), (1, .int a1), (2, .int a2), (3, .int a3)] := hl
  show W p l e rmW_atLeast s m args below meth c s.heap [] 0 0 (MQ below (qP (some .long) (some (.long r))) args s 0 0 (fun _ => False)) (F0 m 0 ls [])
  rw [fW_atLeast] at hf
  refine lv_aload_n hx hb dL_atLeast_0 rfl (lv_at hl 0 rfl) ?_
  refine lv_iload_n hx hb dL_atLeast_1 rfl (lv_at hl 1 rfl) ?_
  refine lv_iload_n hx hb dL_atLeast_2 rfl (lv_at hl 2 rfl) ?_
  refine lv_iload_n hx hb dL_atLeast_3 rfl (lv_at hl 3 rfl) ?_
  obtain ⟨t1, ht1, hf⟩ := ob hf
  refine k_PVi hC LL_66 ⟨Nat.le_of_ble_eq_true rfl, Nat.le_of_ble_eq_true rfl⟩ ⟨Nat.zero_le _, Nat.zero_le _⟩ (cS_atLeast l E ad2 q0_letters q0_trial q0_snapshot q0_isSaved q0_past q0_rows q0_bags q0_tally q0_sizes q0_text q0_line q0_latestReason q0_latestDetail a1 a2 a3 t1 ht1) rfl rfl hP rfl rfl hl.1 rfl (Nat.le_of_ble_eq_true rfl) rfl dL_atLeast_4 (fun hz4 => ?_)
  refine lv_i2l hx hb dL_atLeast_7 rfl ?_
  have hf := Option.some.inj hf
  exact e_Pl hC hr hlocks hf dL_atLeast_8
abbrev rmW_find : Room := { frames := 6, cells := 0, slots := 0, locals := 145 }
set_option maxHeartbeats 4000000 in
set_option maxRecDepth 100000 in
theorem cW_find (l : Launch) (E : eE) (ad2 : Nat → Nat) (q0_letters : TL) (q0_trial : TL) (q0_snapshot : TL) (q0_isSaved : Int32) (q0_past : TP) (q0_rows : TR) (q0_bags : TB) (q0_tally : TY) (q0_sizes : TZ) (q0_text : TT) (q0_line : TN) (q0_latestReason : Int32) (q0_latestDetail : Int32) (a1 : Int32) (a2 : Int32) (r : Int64) (hf : fW_find q0_rows a1 a2 = some r) : cP l E yL_find cL_find 3 (some .long) rmW_find [.ref (ad2 0), .int a1, .int a2] (wS E ad2 q0_letters q0_trial q0_snapshot q0_isSaved q0_past q0_rows q0_bags q0_tally q0_sizes q0_text q0_line q0_latestReason q0_latestDetail) (some (.long r)) := by
  refine Met.ofW (cc := cL_find) (maxL := 3) (ret := (some .long)) (by decide) rfl ?_
  intro p e s m args below meth c s₁ B hml hv
  obtain ⟨hargs, hP, hK⟩ := hv
  have hx := B.exec
  have hb := B.bytes
  have hr := B.returns
  have hts := atoms_spec (ws := ws_ yL_find cL_find 3 (some .long)) B.pre
  have hta : ∀ w ∈ lw_all, w.before args s = true := fun w h => hts w (List.mem_cons_of_mem _ h)
  have hown : s.vm.findClass RL = some m.cls := findClass_of_methodNamed B.named
  have hlocks := B.notSynchronized
  have hC : Cx p s m args c cL_find 3 RL E := ⟨hx, hb, hml, hown, hta, hK⟩
  obtain ⟨ls, he, hl⟩ := entry_ (m := m) (n := 3) hargs (Nat.le_of_ble_eq_true rfl)
  rw [he]
  have hl : lv_has ls 3 [(0, .ref (ad2 0)), (1, .int a1), (2, .int a2)] := hl
  show W p l e rmW_find s m args below meth c s.heap [] 0 0 (MQ below (qP (some .long) (some (.long r))) args s 0 0 (fun _ => False)) (F0 m 0 ls [])
  rw [fW_find] at hf
  refine lv_aload_n hx hb dL_find_0 rfl (lv_at hl 0 rfl) ?_
  refine lv_iload_n hx hb dL_find_1 rfl (lv_at hl 1 rfl) ?_
  refine lv_iload_n hx hb dL_find_2 rfl (lv_at hl 2 rfl) ?_
  obtain ⟨t1, ht1, hf⟩ := ob hf
  refine k_PVi hC LL_69 ⟨Nat.le_of_ble_eq_true rfl, Nat.le_of_ble_eq_true rfl⟩ ⟨Nat.zero_le _, Nat.zero_le _⟩ (cS_find l E ad2 q0_letters q0_trial q0_snapshot q0_isSaved q0_past q0_rows q0_bags q0_tally q0_sizes q0_text q0_line q0_latestReason q0_latestDetail a1 a2 t1 ht1) rfl rfl hP rfl rfl hl.1 rfl (Nat.le_of_ble_eq_true rfl) rfl dL_find_3 (fun hz3 => ?_)
  refine lv_i2l hx hb dL_find_6 rfl ?_
  have hf := Option.some.inj hf
  exact e_Pl hC hr hlocks hf dL_find_7
abbrev rmW_mostCommon : Room := { frames := 3, cells := 0, slots := 0, locals := 70 }
set_option maxHeartbeats 4000000 in
set_option maxRecDepth 100000 in
theorem cW_mostCommon (l : Launch) (E : eE) (ad2 : Nat → Nat) (q0_letters : TL) (q0_trial : TL) (q0_snapshot : TL) (q0_isSaved : Int32) (q0_past : TP) (q0_rows : TR) (q0_bags : TB) (q0_tally : TY) (q0_sizes : TZ) (q0_text : TT) (q0_line : TN) (q0_latestReason : Int32) (q0_latestDetail : Int32) (a1 : Int32) (a2 : Int32) (a3 : Int32) (t : Int64 × TY) (hf : fW_mostCommon q0_letters q0_tally a1 a2 a3 = some t) : cW l E yL_mostCommon cL_mostCommon 4 (some .long) rmW_mostCommon [.ref (ad2 0), .int a1, .int a2, .int a3] (wS E ad2 q0_letters q0_trial q0_snapshot q0_isSaved q0_past q0_rows q0_bags q0_tally q0_sizes q0_text q0_line q0_latestReason q0_latestDetail) (some (.long t.1)) (wS E ad2 q0_letters q0_trial q0_snapshot q0_isSaved q0_past q0_rows q0_bags t.2 q0_sizes q0_text q0_line q0_latestReason q0_latestDetail) := by
  refine Met.ofW (cc := cL_mostCommon) (maxL := 4) (ret := (some .long)) (by decide) rfl ?_
  intro p e s m args below meth c s₁ B hml hv
  obtain ⟨hargs, hP, hK, hD0⟩ := hv
  have hx := B.exec
  have hb := B.bytes
  have hr := B.returns
  have hts := atoms_spec (ws := ws_ yL_mostCommon cL_mostCommon 4 (some .long)) B.pre
  have hta : ∀ w ∈ lw_all, w.before args s = true := fun w h => hts w (List.mem_cons_of_mem _ h)
  have hown : s.vm.findClass RL = some m.cls := findClass_of_methodNamed B.named
  have hlocks := B.notSynchronized
  have hC : Cx p s m args c cL_mostCommon 4 RL E := ⟨hx, hb, hml, hown, hta, hK⟩
  have hH : Hp E (adr (wS E ad2 q0_letters q0_trial q0_snapshot q0_isSaved q0_past q0_rows q0_bags q0_tally q0_sizes q0_text q0_line q0_latestReason q0_latestDetail)) (wS E ad2 q0_letters q0_trial q0_snapshot q0_isSaved q0_past q0_rows q0_bags q0_tally q0_sizes q0_text q0_line q0_latestReason q0_latestDetail) s.heap s.heap [] := Hp.start hP hD0
  obtain ⟨ls, he, hl⟩ := entry_ (m := m) (n := 4) hargs (Nat.le_of_ble_eq_true rfl)
  rw [he]
  have hl : lv_has ls 4 [(0, .ref (ad2 0)), (1, .int a1), (2, .int a2), (3, .int a3)] := hl
  show W p l e rmW_mostCommon s m args below meth c s.heap [] 0 0 (MQ below (qW E (some .long) (some (.long t.1)) (wS E ad2 q0_letters q0_trial q0_snapshot q0_isSaved q0_past q0_rows q0_bags q0_tally q0_sizes q0_text q0_line q0_latestReason q0_latestDetail) (wS E ad2 q0_letters q0_trial q0_snapshot q0_isSaved q0_past q0_rows q0_bags t.2 q0_sizes q0_text q0_line q0_latestReason q0_latestDetail)) args s 0 0 (adr (wS E ad2 q0_letters q0_trial q0_snapshot q0_isSaved q0_past q0_rows q0_bags q0_tally q0_sizes q0_text q0_line q0_latestReason q0_latestDetail))) (F0 m 0 ls [])
  suffices hmain : ∀ (H : Heap) (locs : List Loc), Hp E (adr (wS E ad2 q0_letters q0_trial q0_snapshot q0_isSaved q0_past q0_rows q0_bags q0_tally q0_sizes q0_text q0_line q0_latestReason q0_latestDetail)) (wS E ad2 q0_letters q0_trial q0_snapshot q0_isSaved q0_past q0_rows q0_bags q0_tally q0_sizes q0_text q0_line q0_latestReason q0_latestDetail) s.heap H locs → W p l e rmW_mostCommon s m args below meth c H locs 0 0 (MQ below (qW E (some .long) (some (.long t.1)) (wS E ad2 q0_letters q0_trial q0_snapshot q0_isSaved q0_past q0_rows q0_bags q0_tally q0_sizes q0_text q0_line q0_latestReason q0_latestDetail) (wS E ad2 q0_letters q0_trial q0_snapshot q0_isSaved q0_past q0_rows q0_bags t.2 q0_sizes q0_text q0_line q0_latestReason q0_latestDetail)) args s 0 0 (adr (wS E ad2 q0_letters q0_trial q0_snapshot q0_isSaved q0_past q0_rows q0_bags q0_tally q0_sizes q0_text q0_line q0_latestReason q0_latestDetail))) (F0 m 0 ls []) from hmain _ _ hH
  clear hH
  intro H locs hH
  rw [fW_mostCommon] at hf
  refine lv_aload_n hx hb dL_mostCommon_0 rfl (lv_at hl 0 rfl) ?_
  refine lv_iload_n hx hb dL_mostCommon_1 rfl (lv_at hl 1 rfl) ?_
  refine lv_iload_n hx hb dL_mostCommon_2 rfl (lv_at hl 2 rfl) ?_
  refine lv_iload_n hx hb dL_mostCommon_3 rfl (lv_at hl 3 rfl) ?_
  obtain ⟨t1, ht1, hf⟩ := ob hf
  refine k_WVsi hC LL_72 ⟨Nat.le_of_ble_eq_true rfl, Nat.le_of_ble_eq_true rfl⟩ ⟨Nat.zero_le _, Nat.zero_le _⟩ (cS_common l E ad2 q0_letters q0_trial q0_snapshot q0_isSaved q0_past q0_rows q0_bags q0_tally q0_sizes q0_text q0_line q0_latestReason q0_latestDetail a1 a2 a3 t1 ht1) rfl rfl hH rfl rfl rfl hl.1 rfl (Nat.le_of_ble_eq_true rfl) rfl dL_mostCommon_4 (fun H locs hz4 hH => ?_)
  have hH : Hp E (adr (wS E ad2 q0_letters q0_trial q0_snapshot q0_isSaved q0_past q0_rows q0_bags q0_tally q0_sizes q0_text q0_line q0_latestReason q0_latestDetail)) (wS E ad2 q0_letters q0_trial q0_snapshot q0_isSaved q0_past q0_rows q0_bags t1.2 q0_sizes q0_text q0_line q0_latestReason q0_latestDetail) s.heap H locs := hH
  refine lv_i2l hx hb dL_mostCommon_7 rfl ?_
  have hf := Option.some.inj hf
  subst hf
  exact e_Wl hC hH hr hlocks rfl rfl dL_mostCommon_8
abbrev rmW_bagOf : Room := { frames := 5, cells := 0, slots := 0, locals := 126 }
set_option maxHeartbeats 4000000 in
set_option maxRecDepth 100000 in
theorem cW_bagOf (l : Launch) (E : eE) (ad2 : Nat → Nat) (q0_letters : TL) (q0_trial : TL) (q0_snapshot : TL) (q0_isSaved : Int32) (q0_past : TP) (q0_rows : TR) (q0_bags : TB) (q0_tally : TY) (q0_sizes : TZ) (q0_text : TT) (q0_line : TN) (q0_latestReason : Int32) (q0_latestDetail : Int32) (a1 : Int32) (a2 : Int32) (t : Int64 × TY) (hf : fW_bagOf q0_letters q0_rows q0_bags q0_tally a1 a2 = some t) : cW l E yL_bagOf cL_bagOf 3 (some .long) rmW_bagOf [.ref (ad2 0), .int a1, .int a2] (wS E ad2 q0_letters q0_trial q0_snapshot q0_isSaved q0_past q0_rows q0_bags q0_tally q0_sizes q0_text q0_line q0_latestReason q0_latestDetail) (some (.long t.1)) (wS E ad2 q0_letters q0_trial q0_snapshot q0_isSaved q0_past q0_rows q0_bags t.2 q0_sizes q0_text q0_line q0_latestReason q0_latestDetail) := by
  refine Met.ofW (cc := cL_bagOf) (maxL := 3) (ret := (some .long)) (by decide) rfl ?_
  intro p e s m args below meth c s₁ B hml hv
  obtain ⟨hargs, hP, hK, hD0⟩ := hv
  have hx := B.exec
  have hb := B.bytes
  have hr := B.returns
  have hts := atoms_spec (ws := ws_ yL_bagOf cL_bagOf 3 (some .long)) B.pre
  have hta : ∀ w ∈ lw_all, w.before args s = true := fun w h => hts w (List.mem_cons_of_mem _ h)
  have hown : s.vm.findClass RL = some m.cls := findClass_of_methodNamed B.named
  have hlocks := B.notSynchronized
  have hC : Cx p s m args c cL_bagOf 3 RL E := ⟨hx, hb, hml, hown, hta, hK⟩
  have hH : Hp E (adr (wS E ad2 q0_letters q0_trial q0_snapshot q0_isSaved q0_past q0_rows q0_bags q0_tally q0_sizes q0_text q0_line q0_latestReason q0_latestDetail)) (wS E ad2 q0_letters q0_trial q0_snapshot q0_isSaved q0_past q0_rows q0_bags q0_tally q0_sizes q0_text q0_line q0_latestReason q0_latestDetail) s.heap s.heap [] := Hp.start hP hD0
  obtain ⟨ls, he, hl⟩ := entry_ (m := m) (n := 3) hargs (Nat.le_of_ble_eq_true rfl)
  rw [he]
  have hl : lv_has ls 3 [(0, .ref (ad2 0)), (1, .int a1), (2, .int a2)] := hl
  show W p l e rmW_bagOf s m args below meth c s.heap [] 0 0 (MQ below (qW E (some .long) (some (.long t.1)) (wS E ad2 q0_letters q0_trial q0_snapshot q0_isSaved q0_past q0_rows q0_bags q0_tally q0_sizes q0_text q0_line q0_latestReason q0_latestDetail) (wS E ad2 q0_letters q0_trial q0_snapshot q0_isSaved q0_past q0_rows q0_bags t.2 q0_sizes q0_text q0_line q0_latestReason q0_latestDetail)) args s 0 0 (adr (wS E ad2 q0_letters q0_trial q0_snapshot q0_isSaved q0_past q0_rows q0_bags q0_tally q0_sizes q0_text q0_line q0_latestReason q0_latestDetail))) (F0 m 0 ls [])
  suffices hmain : ∀ (H : Heap) (locs : List Loc), Hp E (adr (wS E ad2 q0_letters q0_trial q0_snapshot q0_isSaved q0_past q0_rows q0_bags q0_tally q0_sizes q0_text q0_line q0_latestReason q0_latestDetail)) (wS E ad2 q0_letters q0_trial q0_snapshot q0_isSaved q0_past q0_rows q0_bags q0_tally q0_sizes q0_text q0_line q0_latestReason q0_latestDetail) s.heap H locs → W p l e rmW_bagOf s m args below meth c H locs 0 0 (MQ below (qW E (some .long) (some (.long t.1)) (wS E ad2 q0_letters q0_trial q0_snapshot q0_isSaved q0_past q0_rows q0_bags q0_tally q0_sizes q0_text q0_line q0_latestReason q0_latestDetail) (wS E ad2 q0_letters q0_trial q0_snapshot q0_isSaved q0_past q0_rows q0_bags t.2 q0_sizes q0_text q0_line q0_latestReason q0_latestDetail)) args s 0 0 (adr (wS E ad2 q0_letters q0_trial q0_snapshot q0_isSaved q0_past q0_rows q0_bags q0_tally q0_sizes q0_text q0_line q0_latestReason q0_latestDetail))) (F0 m 0 ls []) from hmain _ _ hH
  clear hH
  intro H locs hH
  rw [fW_bagOf] at hf
  refine lv_aload_n hx hb dL_bagOf_0 rfl (lv_at hl 0 rfl) ?_
  refine lv_iload_n hx hb dL_bagOf_1 rfl (lv_at hl 1 rfl) ?_
  refine lv_iload_n hx hb dL_bagOf_2 rfl (lv_at hl 2 rfl) ?_
  obtain ⟨t1, ht1, hf⟩ := ob hf
  refine k_WVsi hC LL_75 ⟨Nat.le_of_ble_eq_true rfl, Nat.le_of_ble_eq_true rfl⟩ ⟨Nat.zero_le _, Nat.zero_le _⟩ (cS_bagOf l E ad2 q0_letters q0_trial q0_snapshot q0_isSaved q0_past q0_rows q0_bags q0_tally q0_sizes q0_text q0_line q0_latestReason q0_latestDetail a1 a2 t1 ht1) rfl rfl hH rfl rfl rfl hl.1 rfl (Nat.le_of_ble_eq_true rfl) rfl dL_bagOf_3 (fun H locs hz3 hH => ?_)
  have hH : Hp E (adr (wS E ad2 q0_letters q0_trial q0_snapshot q0_isSaved q0_past q0_rows q0_bags q0_tally q0_sizes q0_text q0_line q0_latestReason q0_latestDetail)) (wS E ad2 q0_letters q0_trial q0_snapshot q0_isSaved q0_past q0_rows q0_bags t1.2 q0_sizes q0_text q0_line q0_latestReason q0_latestDetail) s.heap H locs := hH
  refine lv_i2l hx hb dL_bagOf_6 rfl ?_
  have hf := Option.some.inj hf
  subst hf
  exact e_Wl hC hH hr hlocks rfl rfl dL_bagOf_7
abbrev rmW_bagAt : Room := { frames := 3, cells := 0, slots := 0, locals := 64 }
set_option maxHeartbeats 4000000 in
set_option maxRecDepth 100000 in
theorem cW_bagAt (l : Launch) (E : eE) (ad2 : Nat → Nat) (q0_letters : TL) (q0_trial : TL) (q0_snapshot : TL) (q0_isSaved : Int32) (q0_past : TP) (q0_rows : TR) (q0_bags : TB) (q0_tally : TY) (q0_sizes : TZ) (q0_text : TT) (q0_line : TN) (q0_latestReason : Int32) (q0_latestDetail : Int32) (a1 : Int32) (r : Int64) (hf : fW_bagAt q0_letters q0_bags a1 = some r) : cP l E yL_bagAt cL_bagAt 2 (some .long) rmW_bagAt [.ref (ad2 0), .int a1] (wS E ad2 q0_letters q0_trial q0_snapshot q0_isSaved q0_past q0_rows q0_bags q0_tally q0_sizes q0_text q0_line q0_latestReason q0_latestDetail) (some (.long r)) := by
  refine Met.ofW (cc := cL_bagAt) (maxL := 2) (ret := (some .long)) (by decide) rfl ?_
  intro p e s m args below meth c s₁ B hml hv
  obtain ⟨hargs, hP, hK⟩ := hv
  have hx := B.exec
  have hb := B.bytes
  have hr := B.returns
  have hts := atoms_spec (ws := ws_ yL_bagAt cL_bagAt 2 (some .long)) B.pre
  have hta : ∀ w ∈ lw_all, w.before args s = true := fun w h => hts w (List.mem_cons_of_mem _ h)
  have hown : s.vm.findClass RL = some m.cls := findClass_of_methodNamed B.named
  have hlocks := B.notSynchronized
  have hC : Cx p s m args c cL_bagAt 2 RL E := ⟨hx, hb, hml, hown, hta, hK⟩
  obtain ⟨ls, he, hl⟩ := entry_ (m := m) (n := 2) hargs (Nat.le_of_ble_eq_true rfl)
  rw [he]
  have hl : lv_has ls 2 [(0, .ref (ad2 0)), (1, .int a1)] := hl
  show W p l e rmW_bagAt s m args below meth c s.heap [] 0 0 (MQ below (qP (some .long) (some (.long r))) args s 0 0 (fun _ => False)) (F0 m 0 ls [])
  rw [fW_bagAt] at hf
  refine lv_aload_n hx hb dL_bagAt_0 rfl (lv_at hl 0 rfl) ?_
  refine lv_iload_n hx hb dL_bagAt_1 rfl (lv_at hl 1 rfl) ?_
  obtain ⟨t1, ht1, hf⟩ := ob hf
  refine k_PVi hC LL_78 ⟨Nat.le_of_ble_eq_true rfl, Nat.le_of_ble_eq_true rfl⟩ ⟨Nat.zero_le _, Nat.zero_le _⟩ (cS_bagAt l E ad2 q0_letters q0_trial q0_snapshot q0_isSaved q0_past q0_rows q0_bags q0_tally q0_sizes q0_text q0_line q0_latestReason q0_latestDetail a1 t1 ht1) rfl rfl hP rfl rfl hl.1 rfl (Nat.le_of_ble_eq_true rfl) rfl dL_bagAt_2 (fun hz2 => ?_)
  refine lv_i2l hx hb dL_bagAt_5 rfl ?_
  have hf := Option.some.inj hf
  exact e_Pl hC hr hlocks hf dL_bagAt_6
abbrev rmW_ranked : Room := { frames := 6, cells := 0, slots := 0, locals := 133 }
set_option maxHeartbeats 4000000 in
set_option maxRecDepth 100000 in
theorem cW_ranked (l : Launch) (E : eE) (ad2 : Nat → Nat) (q0_letters : TL) (q0_trial : TL) (q0_snapshot : TL) (q0_isSaved : Int32) (q0_past : TP) (q0_rows : TR) (q0_bags : TB) (q0_tally : TY) (q0_sizes : TZ) (q0_text : TT) (q0_line : TN) (q0_latestReason : Int32) (q0_latestDetail : Int32) (a1 : Int32) (r : Int64) (hf : fW_ranked q0_bags a1 = some r) : cP l E yL_ranked cL_ranked 2 (some .long) rmW_ranked [.ref (ad2 0), .int a1] (wS E ad2 q0_letters q0_trial q0_snapshot q0_isSaved q0_past q0_rows q0_bags q0_tally q0_sizes q0_text q0_line q0_latestReason q0_latestDetail) (some (.long r)) := by
  refine Met.ofW (cc := cL_ranked) (maxL := 2) (ret := (some .long)) (by decide) rfl ?_
  intro p e s m args below meth c s₁ B hml hv
  obtain ⟨hargs, hP, hK⟩ := hv
  have hx := B.exec
  have hb := B.bytes
  have hr := B.returns
  have hts := atoms_spec (ws := ws_ yL_ranked cL_ranked 2 (some .long)) B.pre
  have hta : ∀ w ∈ lw_all, w.before args s = true := fun w h => hts w (List.mem_cons_of_mem _ h)
  have hown : s.vm.findClass RL = some m.cls := findClass_of_methodNamed B.named
  have hlocks := B.notSynchronized
  have hC : Cx p s m args c cL_ranked 2 RL E := ⟨hx, hb, hml, hown, hta, hK⟩
  obtain ⟨ls, he, hl⟩ := entry_ (m := m) (n := 2) hargs (Nat.le_of_ble_eq_true rfl)
  rw [he]
  have hl : lv_has ls 2 [(0, .ref (ad2 0)), (1, .int a1)] := hl
  show W p l e rmW_ranked s m args below meth c s.heap [] 0 0 (MQ below (qP (some .long) (some (.long r))) args s 0 0 (fun _ => False)) (F0 m 0 ls [])
  rw [fW_ranked] at hf
  refine lv_aload_n hx hb dL_ranked_0 rfl (lv_at hl 0 rfl) ?_
  refine lv_iload_n hx hb dL_ranked_1 rfl (lv_at hl 1 rfl) ?_
  obtain ⟨t1, ht1, hf⟩ := ob hf
  refine k_PVi hC LL_81 ⟨Nat.le_of_ble_eq_true rfl, Nat.le_of_ble_eq_true rfl⟩ ⟨Nat.zero_le _, Nat.zero_le _⟩ (cS_ranked l E ad2 q0_letters q0_trial q0_snapshot q0_isSaved q0_past q0_rows q0_bags q0_tally q0_sizes q0_text q0_line q0_latestReason q0_latestDetail a1 t1 ht1) rfl rfl hP rfl rfl hl.1 rfl (Nat.le_of_ble_eq_true rfl) rfl dL_ranked_2 (fun hz2 => ?_)
  refine lv_i2l hx hb dL_ranked_5 rfl ?_
  have hf := Option.some.inj hf
  exact e_Pl hC hr hlocks hf dL_ranked_6
abbrev rmW_run : Room := { frames := 8, cells := 0, slots := 0, locals := 172 }
set_option maxHeartbeats 4000000 in
set_option maxRecDepth 100000 in
theorem cW_run (l : Launch) (E : eE) (G : eG) (ad2 : Nat → Nat) (q0_letters : TL) (q0_trial : TL) (q0_snapshot : TL) (q0_isSaved : Int32) (q0_past : TP) (q0_rows : TR) (q0_bags : TB) (q0_tally : TY) (q0_sizes : TZ) (q0_text : TT) (q0_line : TN) (q0_latestReason : Int32) (q0_latestDetail : Int32) (t : Int64 × TL × TL × TP × TR × TB × TT × Int32 × Int32) (hf : fW_run q0_letters q0_trial q0_past q0_rows q0_bags q0_text q0_latestReason q0_latestDetail = some t) : cWS l E G yL_run cL_run 1 (some .long) rmW_run [.ref (ad2 0)] (wS E ad2 q0_letters q0_trial q0_snapshot q0_isSaved q0_past q0_rows q0_bags q0_tally q0_sizes q0_text q0_line q0_latestReason q0_latestDetail) (some (.long t.1)) (wS E ad2 t.2.1 t.2.2.1 q0_snapshot q0_isSaved t.2.2.2.1 t.2.2.2.2.1 t.2.2.2.2.2.1 q0_tally q0_sizes t.2.2.2.2.2.2.1 q0_line t.2.2.2.2.2.2.2.1 t.2.2.2.2.2.2.2.2) := by
  refine Met.ofW (cc := cL_run) (maxL := 1) (ret := (some .long)) (by decide) rfl ?_
  intro p e s m args below meth c s₁ B hml hv
  obtain ⟨hargs, hP, hK, hD0, hSC⟩ := hv
  have hx := B.exec
  have hb := B.bytes
  have hr := B.returns
  have hts := atoms_spec (ws := ws_ yL_run cL_run 1 (some .long)) B.pre
  have hta : ∀ w ∈ lw_all, w.before args s = true := fun w h => hts w (List.mem_cons_of_mem _ h)
  have hown : s.vm.findClass RL = some m.cls := findClass_of_methodNamed B.named
  have hlocks := B.notSynchronized
  have hC : Cx p s m args c cL_run 1 RL E := ⟨hx, hb, hml, hown, hta, hK⟩
  have hH : Hp E (adr (wS E ad2 q0_letters q0_trial q0_snapshot q0_isSaved q0_past q0_rows q0_bags q0_tally q0_sizes q0_text q0_line q0_latestReason q0_latestDetail)) (wS E ad2 q0_letters q0_trial q0_snapshot q0_isSaved q0_past q0_rows q0_bags q0_tally q0_sizes q0_text q0_line q0_latestReason q0_latestDetail) s.heap s.heap [] := Hp.start hP hD0
  obtain ⟨ls, he, hl⟩ := entry_ (m := m) (n := 1) hargs (Nat.le_of_ble_eq_true rfl)
  rw [he]
  have hl : lv_has ls 1 [(0, .ref (ad2 0))] := hl
  show W p l e rmW_run s m args below meth c s.heap [] 0 0 (MQ below (qW E (some .long) (some (.long t.1)) (wS E ad2 q0_letters q0_trial q0_snapshot q0_isSaved q0_past q0_rows q0_bags q0_tally q0_sizes q0_text q0_line q0_latestReason q0_latestDetail) (wS E ad2 t.2.1 t.2.2.1 q0_snapshot q0_isSaved t.2.2.2.1 t.2.2.2.2.1 t.2.2.2.2.2.1 q0_tally q0_sizes t.2.2.2.2.2.2.1 q0_line t.2.2.2.2.2.2.2.1 t.2.2.2.2.2.2.2.2)) args s 0 0 (adr (wS E ad2 q0_letters q0_trial q0_snapshot q0_isSaved q0_past q0_rows q0_bags q0_tally q0_sizes q0_text q0_line q0_latestReason q0_latestDetail))) (F0 m 0 ls [])
  suffices hmain : ∀ (H : Heap) (locs : List Loc), Hp E (adr (wS E ad2 q0_letters q0_trial q0_snapshot q0_isSaved q0_past q0_rows q0_bags q0_tally q0_sizes q0_text q0_line q0_latestReason q0_latestDetail)) (wS E ad2 q0_letters q0_trial q0_snapshot q0_isSaved q0_past q0_rows q0_bags q0_tally q0_sizes q0_text q0_line q0_latestReason q0_latestDetail) s.heap H locs → W p l e rmW_run s m args below meth c H locs 0 0 (MQ below (qW E (some .long) (some (.long t.1)) (wS E ad2 q0_letters q0_trial q0_snapshot q0_isSaved q0_past q0_rows q0_bags q0_tally q0_sizes q0_text q0_line q0_latestReason q0_latestDetail) (wS E ad2 t.2.1 t.2.2.1 q0_snapshot q0_isSaved t.2.2.2.1 t.2.2.2.2.1 t.2.2.2.2.2.1 q0_tally q0_sizes t.2.2.2.2.2.2.1 q0_line t.2.2.2.2.2.2.2.1 t.2.2.2.2.2.2.2.2)) args s 0 0 (adr (wS E ad2 q0_letters q0_trial q0_snapshot q0_isSaved q0_past q0_rows q0_bags q0_tally q0_sizes q0_text q0_line q0_latestReason q0_latestDetail))) (F0 m 0 ls []) from hmain _ _ hH
  clear hH
  intro H locs hH
  rw [fW_run] at hf
  refine lv_aload_n hx hb dL_run_0 rfl (lv_at hl 0 rfl) ?_
  obtain ⟨t1, ht1, hf⟩ := ob hf
  refine k_WXi hC LL_87 ⟨Nat.le_of_ble_eq_true rfl, Nat.le_of_ble_eq_true rfl⟩ ⟨Nat.zero_le _, Nat.zero_le _⟩ (cS_run l E G ad2 q0_letters q0_trial q0_snapshot q0_isSaved q0_past q0_rows q0_bags q0_tally q0_sizes q0_text q0_line q0_latestReason q0_latestDetail t1 ht1) rfl rfl hSC hH (W1 := wS E ad2 t1.2.1 t1.2.2.1 q0_snapshot q0_isSaved t1.2.2.2.1 t1.2.2.2.2.1 t1.2.2.2.2.2.1 q0_tally q0_sizes t1.2.2.2.2.2.2.1 q0_line t1.2.2.2.2.2.2.2.1 t1.2.2.2.2.2.2.2.2) (app_nil_perm _) (perm_app_nil _) rfl rfl rfl hl.1 rfl (Nat.le_of_ble_eq_true rfl) rfl dL_run_1 (fun H locs hz1 hH => ?_)
  refine lv_i2l hx hb dL_run_4 rfl ?_
  have hf := Option.some.inj hf
  subst hf
  exact e_Wl hC hH hr hlocks rfl rfl dL_run_5
abbrev rmW_account : Room := { frames := 5, cells := 0, slots := 0, locals := 105 }
set_option maxHeartbeats 4000000 in
set_option maxRecDepth 100000 in
theorem cW_account (l : Launch) (E : eE) (ad2 : Nat → Nat) (q0_letters : TL) (q0_trial : TL) (q0_snapshot : TL) (q0_isSaved : Int32) (q0_past : TP) (q0_rows : TR) (q0_bags : TB) (q0_tally : TY) (q0_sizes : TZ) (q0_text : TT) (q0_line : TN) (q0_latestReason : Int32) (q0_latestDetail : Int32) (a1 : Int32) (t : Int64 × TY) (hf : fW_account q0_letters q0_past q0_rows q0_bags q0_tally q0_text a1 = some t) : cW l E yL_account cL_account 2 (some .long) rmW_account [.ref (ad2 0), .int a1] (wS E ad2 q0_letters q0_trial q0_snapshot q0_isSaved q0_past q0_rows q0_bags q0_tally q0_sizes q0_text q0_line q0_latestReason q0_latestDetail) (some (.long t.1)) (wS E ad2 q0_letters q0_trial q0_snapshot q0_isSaved q0_past q0_rows q0_bags t.2 q0_sizes q0_text q0_line q0_latestReason q0_latestDetail) := by
  refine Met.ofW (cc := cL_account) (maxL := 2) (ret := (some .long)) (by decide) rfl ?_
  intro p e s m args below meth c s₁ B hml hv
  obtain ⟨hargs, hP, hK, hD0⟩ := hv
  have hx := B.exec
  have hb := B.bytes
  have hr := B.returns
  have hts := atoms_spec (ws := ws_ yL_account cL_account 2 (some .long)) B.pre
  have hta : ∀ w ∈ lw_all, w.before args s = true := fun w h => hts w (List.mem_cons_of_mem _ h)
  have hown : s.vm.findClass RL = some m.cls := findClass_of_methodNamed B.named
  have hlocks := B.notSynchronized
  have hC : Cx p s m args c cL_account 2 RL E := ⟨hx, hb, hml, hown, hta, hK⟩
  have hH : Hp E (adr (wS E ad2 q0_letters q0_trial q0_snapshot q0_isSaved q0_past q0_rows q0_bags q0_tally q0_sizes q0_text q0_line q0_latestReason q0_latestDetail)) (wS E ad2 q0_letters q0_trial q0_snapshot q0_isSaved q0_past q0_rows q0_bags q0_tally q0_sizes q0_text q0_line q0_latestReason q0_latestDetail) s.heap s.heap [] := Hp.start hP hD0
  obtain ⟨ls, he, hl⟩ := entry_ (m := m) (n := 2) hargs (Nat.le_of_ble_eq_true rfl)
  rw [he]
  have hl : lv_has ls 2 [(0, .ref (ad2 0)), (1, .int a1)] := hl
  show W p l e rmW_account s m args below meth c s.heap [] 0 0 (MQ below (qW E (some .long) (some (.long t.1)) (wS E ad2 q0_letters q0_trial q0_snapshot q0_isSaved q0_past q0_rows q0_bags q0_tally q0_sizes q0_text q0_line q0_latestReason q0_latestDetail) (wS E ad2 q0_letters q0_trial q0_snapshot q0_isSaved q0_past q0_rows q0_bags t.2 q0_sizes q0_text q0_line q0_latestReason q0_latestDetail)) args s 0 0 (adr (wS E ad2 q0_letters q0_trial q0_snapshot q0_isSaved q0_past q0_rows q0_bags q0_tally q0_sizes q0_text q0_line q0_latestReason q0_latestDetail))) (F0 m 0 ls [])
  suffices hmain : ∀ (H : Heap) (locs : List Loc), Hp E (adr (wS E ad2 q0_letters q0_trial q0_snapshot q0_isSaved q0_past q0_rows q0_bags q0_tally q0_sizes q0_text q0_line q0_latestReason q0_latestDetail)) (wS E ad2 q0_letters q0_trial q0_snapshot q0_isSaved q0_past q0_rows q0_bags q0_tally q0_sizes q0_text q0_line q0_latestReason q0_latestDetail) s.heap H locs → W p l e rmW_account s m args below meth c H locs 0 0 (MQ below (qW E (some .long) (some (.long t.1)) (wS E ad2 q0_letters q0_trial q0_snapshot q0_isSaved q0_past q0_rows q0_bags q0_tally q0_sizes q0_text q0_line q0_latestReason q0_latestDetail) (wS E ad2 q0_letters q0_trial q0_snapshot q0_isSaved q0_past q0_rows q0_bags t.2 q0_sizes q0_text q0_line q0_latestReason q0_latestDetail)) args s 0 0 (adr (wS E ad2 q0_letters q0_trial q0_snapshot q0_isSaved q0_past q0_rows q0_bags q0_tally q0_sizes q0_text q0_line q0_latestReason q0_latestDetail))) (F0 m 0 ls []) from hmain _ _ hH
  clear hH
  intro H locs hH
  rw [fW_account] at hf
  refine lv_aload_n hx hb dL_account_0 rfl (lv_at hl 0 rfl) ?_
  refine lv_iload_n hx hb dL_account_1 rfl (lv_at hl 1 rfl) ?_
  obtain ⟨t1, ht1, hf⟩ := ob hf
  refine k_WVsi hC LL_104 ⟨Nat.le_of_ble_eq_true rfl, Nat.le_of_ble_eq_true rfl⟩ ⟨Nat.zero_le _, Nat.zero_le _⟩ (cS_account l E ad2 q0_letters q0_trial q0_snapshot q0_isSaved q0_past q0_rows q0_bags q0_tally q0_sizes q0_text q0_line q0_latestReason q0_latestDetail a1 t1 ht1) rfl rfl hH rfl rfl rfl hl.1 rfl (Nat.le_of_ble_eq_true rfl) rfl dL_account_2 (fun H locs hz2 hH => ?_)
  have hH : Hp E (adr (wS E ad2 q0_letters q0_trial q0_snapshot q0_isSaved q0_past q0_rows q0_bags q0_tally q0_sizes q0_text q0_line q0_latestReason q0_latestDetail)) (wS E ad2 q0_letters q0_trial q0_snapshot q0_isSaved q0_past q0_rows q0_bags t1.2 q0_sizes q0_text q0_line q0_latestReason q0_latestDetail) s.heap H locs := hH
  refine lv_i2l hx hb dL_account_5 rfl ?_
  have hf := Option.some.inj hf
  subst hf
  exact e_Wl hC hH hr hlocks rfl rfl dL_account_6
abbrev rmW_isBalanced : Room := { frames := 6, cells := 0, slots := 0, locals := 145 }
set_option maxHeartbeats 4000000 in
set_option maxRecDepth 100000 in
theorem cW_isBalanced (l : Launch) (E : eE) (ad2 : Nat → Nat) (q0_letters : TL) (q0_trial : TL) (q0_snapshot : TL) (q0_isSaved : Int32) (q0_past : TP) (q0_rows : TR) (q0_bags : TB) (q0_tally : TY) (q0_sizes : TZ) (q0_text : TT) (q0_line : TN) (q0_latestReason : Int32) (q0_latestDetail : Int32) (t : Int64 × TZ) (hf : fW_isBalanced q0_letters q0_rows q0_bags q0_sizes = some t) : cW l E yL_isBalanced cL_isBalanced 1 (some .long) rmW_isBalanced [.ref (ad2 0)] (wS E ad2 q0_letters q0_trial q0_snapshot q0_isSaved q0_past q0_rows q0_bags q0_tally q0_sizes q0_text q0_line q0_latestReason q0_latestDetail) (some (.long t.1)) (wS E ad2 q0_letters q0_trial q0_snapshot q0_isSaved q0_past q0_rows q0_bags q0_tally t.2 q0_text q0_line q0_latestReason q0_latestDetail) := by
  refine Met.ofW (cc := cL_isBalanced) (maxL := 1) (ret := (some .long)) (by decide) rfl ?_
  intro p e s m args below meth c s₁ B hml hv
  obtain ⟨hargs, hP, hK, hD0⟩ := hv
  have hx := B.exec
  have hb := B.bytes
  have hr := B.returns
  have hts := atoms_spec (ws := ws_ yL_isBalanced cL_isBalanced 1 (some .long)) B.pre
  have hta : ∀ w ∈ lw_all, w.before args s = true := fun w h => hts w (List.mem_cons_of_mem _ h)
  have hown : s.vm.findClass RL = some m.cls := findClass_of_methodNamed B.named
  have hlocks := B.notSynchronized
  have hC : Cx p s m args c cL_isBalanced 1 RL E := ⟨hx, hb, hml, hown, hta, hK⟩
  have hH : Hp E (adr (wS E ad2 q0_letters q0_trial q0_snapshot q0_isSaved q0_past q0_rows q0_bags q0_tally q0_sizes q0_text q0_line q0_latestReason q0_latestDetail)) (wS E ad2 q0_letters q0_trial q0_snapshot q0_isSaved q0_past q0_rows q0_bags q0_tally q0_sizes q0_text q0_line q0_latestReason q0_latestDetail) s.heap s.heap [] := Hp.start hP hD0
  obtain ⟨ls, he, hl⟩ := entry_ (m := m) (n := 1) hargs (Nat.le_of_ble_eq_true rfl)
  rw [he]
  have hl : lv_has ls 1 [(0, .ref (ad2 0))] := hl
  show W p l e rmW_isBalanced s m args below meth c s.heap [] 0 0 (MQ below (qW E (some .long) (some (.long t.1)) (wS E ad2 q0_letters q0_trial q0_snapshot q0_isSaved q0_past q0_rows q0_bags q0_tally q0_sizes q0_text q0_line q0_latestReason q0_latestDetail) (wS E ad2 q0_letters q0_trial q0_snapshot q0_isSaved q0_past q0_rows q0_bags q0_tally t.2 q0_text q0_line q0_latestReason q0_latestDetail)) args s 0 0 (adr (wS E ad2 q0_letters q0_trial q0_snapshot q0_isSaved q0_past q0_rows q0_bags q0_tally q0_sizes q0_text q0_line q0_latestReason q0_latestDetail))) (F0 m 0 ls [])
  suffices hmain : ∀ (H : Heap) (locs : List Loc), Hp E (adr (wS E ad2 q0_letters q0_trial q0_snapshot q0_isSaved q0_past q0_rows q0_bags q0_tally q0_sizes q0_text q0_line q0_latestReason q0_latestDetail)) (wS E ad2 q0_letters q0_trial q0_snapshot q0_isSaved q0_past q0_rows q0_bags q0_tally q0_sizes q0_text q0_line q0_latestReason q0_latestDetail) s.heap H locs → W p l e rmW_isBalanced s m args below meth c H locs 0 0 (MQ below (qW E (some .long) (some (.long t.1)) (wS E ad2 q0_letters q0_trial q0_snapshot q0_isSaved q0_past q0_rows q0_bags q0_tally q0_sizes q0_text q0_line q0_latestReason q0_latestDetail) (wS E ad2 q0_letters q0_trial q0_snapshot q0_isSaved q0_past q0_rows q0_bags q0_tally t.2 q0_text q0_line q0_latestReason q0_latestDetail)) args s 0 0 (adr (wS E ad2 q0_letters q0_trial q0_snapshot q0_isSaved q0_past q0_rows q0_bags q0_tally q0_sizes q0_text q0_line q0_latestReason q0_latestDetail))) (F0 m 0 ls []) from hmain _ _ hH
  clear hH
  intro H locs hH
  rw [fW_isBalanced] at hf
  refine lv_aload_n hx hb dL_isBalanced_0 rfl (lv_at hl 0 rfl) ?_
  obtain ⟨t1, ht1, hf⟩ := ob hf
  refine k_WVsi hC LL_107 ⟨Nat.le_of_ble_eq_true rfl, Nat.le_of_ble_eq_true rfl⟩ ⟨Nat.zero_le _, Nat.zero_le _⟩ (cS_isBalanced l E ad2 q0_letters q0_trial q0_snapshot q0_isSaved q0_past q0_rows q0_bags q0_tally q0_sizes q0_text q0_line q0_latestReason q0_latestDetail t1 ht1) rfl rfl hH rfl rfl rfl hl.1 rfl (Nat.le_of_ble_eq_true rfl) rfl dL_isBalanced_1 (fun H locs hz1 hH => ?_)
  have hH : Hp E (adr (wS E ad2 q0_letters q0_trial q0_snapshot q0_isSaved q0_past q0_rows q0_bags q0_tally q0_sizes q0_text q0_line q0_latestReason q0_latestDetail)) (wS E ad2 q0_letters q0_trial q0_snapshot q0_isSaved q0_past q0_rows q0_bags q0_tally t1.2 q0_text q0_line q0_latestReason q0_latestDetail) s.heap H locs := hH
  refine lv_i2l hx hb dL_isBalanced_4 rfl ?_
  have hf := Option.some.inj hf
  subst hf
  exact e_Wl hC hH hr hlocks rfl rfl dL_isBalanced_5
abbrev rmW_undo : Room := { frames := 6, cells := 0, slots := 0, locals := 131 }
set_option maxHeartbeats 4000000 in
set_option maxRecDepth 100000 in
theorem cW_undo (l : Launch) (E : eE) (ad2 : Nat → Nat) (q0_letters : TL) (q0_trial : TL) (q0_snapshot : TL) (q0_isSaved : Int32) (q0_past : TP) (q0_rows : TR) (q0_bags : TB) (q0_tally : TY) (q0_sizes : TZ) (q0_text : TT) (q0_line : TN) (q0_latestReason : Int32) (q0_latestDetail : Int32) (t : Int64 × TL × TP × TR × TB) (hf : fW_undo q0_letters q0_past q0_rows q0_bags = some t) : cW l E yL_undo cL_undo 1 (some .long) rmW_undo [.ref (ad2 0)] (wS E ad2 q0_letters q0_trial q0_snapshot q0_isSaved q0_past q0_rows q0_bags q0_tally q0_sizes q0_text q0_line q0_latestReason q0_latestDetail) (some (.long t.1)) (wS E ad2 t.2.1 q0_trial q0_snapshot q0_isSaved t.2.2.1 t.2.2.2.1 t.2.2.2.2 q0_tally q0_sizes q0_text q0_line q0_latestReason q0_latestDetail) := by
  refine Met.ofW (cc := cL_undo) (maxL := 1) (ret := (some .long)) (by decide) rfl ?_
  intro p e s m args below meth c s₁ B hml hv
  obtain ⟨hargs, hP, hK, hD0⟩ := hv
  have hx := B.exec
  have hb := B.bytes
  have hr := B.returns
  have hts := atoms_spec (ws := ws_ yL_undo cL_undo 1 (some .long)) B.pre
  have hta : ∀ w ∈ lw_all, w.before args s = true := fun w h => hts w (List.mem_cons_of_mem _ h)
  have hown : s.vm.findClass RL = some m.cls := findClass_of_methodNamed B.named
  have hlocks := B.notSynchronized
  have hC : Cx p s m args c cL_undo 1 RL E := ⟨hx, hb, hml, hown, hta, hK⟩
  have hH : Hp E (adr (wS E ad2 q0_letters q0_trial q0_snapshot q0_isSaved q0_past q0_rows q0_bags q0_tally q0_sizes q0_text q0_line q0_latestReason q0_latestDetail)) (wS E ad2 q0_letters q0_trial q0_snapshot q0_isSaved q0_past q0_rows q0_bags q0_tally q0_sizes q0_text q0_line q0_latestReason q0_latestDetail) s.heap s.heap [] := Hp.start hP hD0
  obtain ⟨ls, he, hl⟩ := entry_ (m := m) (n := 1) hargs (Nat.le_of_ble_eq_true rfl)
  rw [he]
  have hl : lv_has ls 1 [(0, .ref (ad2 0))] := hl
  show W p l e rmW_undo s m args below meth c s.heap [] 0 0 (MQ below (qW E (some .long) (some (.long t.1)) (wS E ad2 q0_letters q0_trial q0_snapshot q0_isSaved q0_past q0_rows q0_bags q0_tally q0_sizes q0_text q0_line q0_latestReason q0_latestDetail) (wS E ad2 t.2.1 q0_trial q0_snapshot q0_isSaved t.2.2.1 t.2.2.2.1 t.2.2.2.2 q0_tally q0_sizes q0_text q0_line q0_latestReason q0_latestDetail)) args s 0 0 (adr (wS E ad2 q0_letters q0_trial q0_snapshot q0_isSaved q0_past q0_rows q0_bags q0_tally q0_sizes q0_text q0_line q0_latestReason q0_latestDetail))) (F0 m 0 ls [])
  suffices hmain : ∀ (H : Heap) (locs : List Loc), Hp E (adr (wS E ad2 q0_letters q0_trial q0_snapshot q0_isSaved q0_past q0_rows q0_bags q0_tally q0_sizes q0_text q0_line q0_latestReason q0_latestDetail)) (wS E ad2 q0_letters q0_trial q0_snapshot q0_isSaved q0_past q0_rows q0_bags q0_tally q0_sizes q0_text q0_line q0_latestReason q0_latestDetail) s.heap H locs → W p l e rmW_undo s m args below meth c H locs 0 0 (MQ below (qW E (some .long) (some (.long t.1)) (wS E ad2 q0_letters q0_trial q0_snapshot q0_isSaved q0_past q0_rows q0_bags q0_tally q0_sizes q0_text q0_line q0_latestReason q0_latestDetail) (wS E ad2 t.2.1 q0_trial q0_snapshot q0_isSaved t.2.2.1 t.2.2.2.1 t.2.2.2.2 q0_tally q0_sizes q0_text q0_line q0_latestReason q0_latestDetail)) args s 0 0 (adr (wS E ad2 q0_letters q0_trial q0_snapshot q0_isSaved q0_past q0_rows q0_bags q0_tally q0_sizes q0_text q0_line q0_latestReason q0_latestDetail))) (F0 m 0 ls []) from hmain _ _ hH
  clear hH
  intro H locs hH
  rw [fW_undo] at hf
  refine lv_aload_n hx hb dL_undo_0 rfl (lv_at hl 0 rfl) ?_
  obtain ⟨t1, ht1, hf⟩ := ob hf
  refine k_WVsi hC LL_130 ⟨Nat.le_of_ble_eq_true rfl, Nat.le_of_ble_eq_true rfl⟩ ⟨Nat.zero_le _, Nat.zero_le _⟩ (cS_undo l E ad2 q0_letters q0_trial q0_snapshot q0_isSaved q0_past q0_rows q0_bags q0_tally q0_sizes q0_text q0_line q0_latestReason q0_latestDetail t1 ht1) rfl rfl hH rfl rfl rfl hl.1 rfl (Nat.le_of_ble_eq_true rfl) rfl dL_undo_1 (fun H locs hz1 hH => ?_)
  have hH : Hp E (adr (wS E ad2 q0_letters q0_trial q0_snapshot q0_isSaved q0_past q0_rows q0_bags q0_tally q0_sizes q0_text q0_line q0_latestReason q0_latestDetail)) (wS E ad2 t1.2.1 q0_trial q0_snapshot q0_isSaved t1.2.2.1 t1.2.2.2.1 t1.2.2.2.2 q0_tally q0_sizes q0_text q0_line q0_latestReason q0_latestDetail) s.heap H locs := hH
  refine lv_i2l hx hb dL_undo_4 rfl ?_
  have hf := Option.some.inj hf
  subst hf
  exact e_Wl hC hH hr hlocks rfl rfl dL_undo_5
abbrev rmW_save : Room := { frames := 3, cells := 0, slots := 0, locals := 64 }
set_option maxHeartbeats 4000000 in
set_option maxRecDepth 100000 in
theorem cW_save (l : Launch) (E : eE) (ad2 : Nat → Nat) (q0_letters : TL) (q0_trial : TL) (q0_snapshot : TL) (q0_isSaved : Int32) (q0_past : TP) (q0_rows : TR) (q0_bags : TB) (q0_tally : TY) (q0_sizes : TZ) (q0_text : TT) (q0_line : TN) (q0_latestReason : Int32) (q0_latestDetail : Int32) (t : Int64 × TL × Int32) (hf : fW_save q0_letters q0_snapshot q0_isSaved = some t) : cW l E yL_save cL_save 1 (some .long) rmW_save [.ref (ad2 0)] (wS E ad2 q0_letters q0_trial q0_snapshot q0_isSaved q0_past q0_rows q0_bags q0_tally q0_sizes q0_text q0_line q0_latestReason q0_latestDetail) (some (.long t.1)) (wS E ad2 q0_letters q0_trial t.2.1 t.2.2 q0_past q0_rows q0_bags q0_tally q0_sizes q0_text q0_line q0_latestReason q0_latestDetail) := by
  refine Met.ofW (cc := cL_save) (maxL := 1) (ret := (some .long)) (by decide) rfl ?_
  intro p e s m args below meth c s₁ B hml hv
  obtain ⟨hargs, hP, hK, hD0⟩ := hv
  have hx := B.exec
  have hb := B.bytes
  have hr := B.returns
  have hts := atoms_spec (ws := ws_ yL_save cL_save 1 (some .long)) B.pre
  have hta : ∀ w ∈ lw_all, w.before args s = true := fun w h => hts w (List.mem_cons_of_mem _ h)
  have hown : s.vm.findClass RL = some m.cls := findClass_of_methodNamed B.named
  have hlocks := B.notSynchronized
  have hC : Cx p s m args c cL_save 1 RL E := ⟨hx, hb, hml, hown, hta, hK⟩
  have hH : Hp E (adr (wS E ad2 q0_letters q0_trial q0_snapshot q0_isSaved q0_past q0_rows q0_bags q0_tally q0_sizes q0_text q0_line q0_latestReason q0_latestDetail)) (wS E ad2 q0_letters q0_trial q0_snapshot q0_isSaved q0_past q0_rows q0_bags q0_tally q0_sizes q0_text q0_line q0_latestReason q0_latestDetail) s.heap s.heap [] := Hp.start hP hD0
  obtain ⟨ls, he, hl⟩ := entry_ (m := m) (n := 1) hargs (Nat.le_of_ble_eq_true rfl)
  rw [he]
  have hl : lv_has ls 1 [(0, .ref (ad2 0))] := hl
  show W p l e rmW_save s m args below meth c s.heap [] 0 0 (MQ below (qW E (some .long) (some (.long t.1)) (wS E ad2 q0_letters q0_trial q0_snapshot q0_isSaved q0_past q0_rows q0_bags q0_tally q0_sizes q0_text q0_line q0_latestReason q0_latestDetail) (wS E ad2 q0_letters q0_trial t.2.1 t.2.2 q0_past q0_rows q0_bags q0_tally q0_sizes q0_text q0_line q0_latestReason q0_latestDetail)) args s 0 0 (adr (wS E ad2 q0_letters q0_trial q0_snapshot q0_isSaved q0_past q0_rows q0_bags q0_tally q0_sizes q0_text q0_line q0_latestReason q0_latestDetail))) (F0 m 0 ls [])
  suffices hmain : ∀ (H : Heap) (locs : List Loc), Hp E (adr (wS E ad2 q0_letters q0_trial q0_snapshot q0_isSaved q0_past q0_rows q0_bags q0_tally q0_sizes q0_text q0_line q0_latestReason q0_latestDetail)) (wS E ad2 q0_letters q0_trial q0_snapshot q0_isSaved q0_past q0_rows q0_bags q0_tally q0_sizes q0_text q0_line q0_latestReason q0_latestDetail) s.heap H locs → W p l e rmW_save s m args below meth c H locs 0 0 (MQ below (qW E (some .long) (some (.long t.1)) (wS E ad2 q0_letters q0_trial q0_snapshot q0_isSaved q0_past q0_rows q0_bags q0_tally q0_sizes q0_text q0_line q0_latestReason q0_latestDetail) (wS E ad2 q0_letters q0_trial t.2.1 t.2.2 q0_past q0_rows q0_bags q0_tally q0_sizes q0_text q0_line q0_latestReason q0_latestDetail)) args s 0 0 (adr (wS E ad2 q0_letters q0_trial q0_snapshot q0_isSaved q0_past q0_rows q0_bags q0_tally q0_sizes q0_text q0_line q0_latestReason q0_latestDetail))) (F0 m 0 ls []) from hmain _ _ hH
  clear hH
  intro H locs hH
  rw [fW_save] at hf
  refine lv_aload_n hx hb dL_save_0 rfl (lv_at hl 0 rfl) ?_
  obtain ⟨t1, ht1, hf⟩ := ob hf
  refine k_WVsi hC LL_133 ⟨Nat.le_of_ble_eq_true rfl, Nat.le_of_ble_eq_true rfl⟩ ⟨Nat.zero_le _, Nat.zero_le _⟩ (cS_save l E ad2 q0_letters q0_trial q0_snapshot q0_isSaved q0_past q0_rows q0_bags q0_tally q0_sizes q0_text q0_line q0_latestReason q0_latestDetail t1 ht1) rfl rfl hH rfl rfl rfl hl.1 rfl (Nat.le_of_ble_eq_true rfl) rfl dL_save_1 (fun H locs hz1 hH => ?_)
  have hH : Hp E (adr (wS E ad2 q0_letters q0_trial q0_snapshot q0_isSaved q0_past q0_rows q0_bags q0_tally q0_sizes q0_text q0_line q0_latestReason q0_latestDetail)) (wS E ad2 q0_letters q0_trial t1.2.1 t1.2.2 q0_past q0_rows q0_bags q0_tally q0_sizes q0_text q0_line q0_latestReason q0_latestDetail) s.heap H locs := hH
  refine lv_i2l hx hb dL_save_4 rfl ?_
  have hf := Option.some.inj hf
  subst hf
  exact e_Wl hC hH hr hlocks rfl rfl dL_save_5
abbrev rmW_restore : Room := { frames := 6, cells := 0, slots := 0, locals := 131 }
set_option maxHeartbeats 4000000 in
set_option maxRecDepth 100000 in
theorem cW_restore (l : Launch) (E : eE) (ad2 : Nat → Nat) (q0_letters : TL) (q0_trial : TL) (q0_snapshot : TL) (q0_isSaved : Int32) (q0_past : TP) (q0_rows : TR) (q0_bags : TB) (q0_tally : TY) (q0_sizes : TZ) (q0_text : TT) (q0_line : TN) (q0_latestReason : Int32) (q0_latestDetail : Int32) (t : Int64 × TL × TP × TR × TB) (hf : fW_restore q0_letters q0_snapshot q0_isSaved q0_past q0_rows q0_bags = some t) : cW l E yL_restore cL_restore 1 (some .long) rmW_restore [.ref (ad2 0)] (wS E ad2 q0_letters q0_trial q0_snapshot q0_isSaved q0_past q0_rows q0_bags q0_tally q0_sizes q0_text q0_line q0_latestReason q0_latestDetail) (some (.long t.1)) (wS E ad2 t.2.1 q0_trial q0_snapshot q0_isSaved t.2.2.1 t.2.2.2.1 t.2.2.2.2 q0_tally q0_sizes q0_text q0_line q0_latestReason q0_latestDetail) := by
  refine Met.ofW (cc := cL_restore) (maxL := 1) (ret := (some .long)) (by decide) rfl ?_
  intro p e s m args below meth c s₁ B hml hv
  obtain ⟨hargs, hP, hK, hD0⟩ := hv
  have hx := B.exec
  have hb := B.bytes
  have hr := B.returns
  have hts := atoms_spec (ws := ws_ yL_restore cL_restore 1 (some .long)) B.pre
  have hta : ∀ w ∈ lw_all, w.before args s = true := fun w h => hts w (List.mem_cons_of_mem _ h)
  have hown : s.vm.findClass RL = some m.cls := findClass_of_methodNamed B.named
  have hlocks := B.notSynchronized
  have hC : Cx p s m args c cL_restore 1 RL E := ⟨hx, hb, hml, hown, hta, hK⟩
  have hH : Hp E (adr (wS E ad2 q0_letters q0_trial q0_snapshot q0_isSaved q0_past q0_rows q0_bags q0_tally q0_sizes q0_text q0_line q0_latestReason q0_latestDetail)) (wS E ad2 q0_letters q0_trial q0_snapshot q0_isSaved q0_past q0_rows q0_bags q0_tally q0_sizes q0_text q0_line q0_latestReason q0_latestDetail) s.heap s.heap [] := Hp.start hP hD0
  obtain ⟨ls, he, hl⟩ := entry_ (m := m) (n := 1) hargs (Nat.le_of_ble_eq_true rfl)
  rw [he]
  have hl : lv_has ls 1 [(0, .ref (ad2 0))] := hl
  show W p l e rmW_restore s m args below meth c s.heap [] 0 0 (MQ below (qW E (some .long) (some (.long t.1)) (wS E ad2 q0_letters q0_trial q0_snapshot q0_isSaved q0_past q0_rows q0_bags q0_tally q0_sizes q0_text q0_line q0_latestReason q0_latestDetail) (wS E ad2 t.2.1 q0_trial q0_snapshot q0_isSaved t.2.2.1 t.2.2.2.1 t.2.2.2.2 q0_tally q0_sizes q0_text q0_line q0_latestReason q0_latestDetail)) args s 0 0 (adr (wS E ad2 q0_letters q0_trial q0_snapshot q0_isSaved q0_past q0_rows q0_bags q0_tally q0_sizes q0_text q0_line q0_latestReason q0_latestDetail))) (F0 m 0 ls [])
  suffices hmain : ∀ (H : Heap) (locs : List Loc), Hp E (adr (wS E ad2 q0_letters q0_trial q0_snapshot q0_isSaved q0_past q0_rows q0_bags q0_tally q0_sizes q0_text q0_line q0_latestReason q0_latestDetail)) (wS E ad2 q0_letters q0_trial q0_snapshot q0_isSaved q0_past q0_rows q0_bags q0_tally q0_sizes q0_text q0_line q0_latestReason q0_latestDetail) s.heap H locs → W p l e rmW_restore s m args below meth c H locs 0 0 (MQ below (qW E (some .long) (some (.long t.1)) (wS E ad2 q0_letters q0_trial q0_snapshot q0_isSaved q0_past q0_rows q0_bags q0_tally q0_sizes q0_text q0_line q0_latestReason q0_latestDetail) (wS E ad2 t.2.1 q0_trial q0_snapshot q0_isSaved t.2.2.1 t.2.2.2.1 t.2.2.2.2 q0_tally q0_sizes q0_text q0_line q0_latestReason q0_latestDetail)) args s 0 0 (adr (wS E ad2 q0_letters q0_trial q0_snapshot q0_isSaved q0_past q0_rows q0_bags q0_tally q0_sizes q0_text q0_line q0_latestReason q0_latestDetail))) (F0 m 0 ls []) from hmain _ _ hH
  clear hH
  intro H locs hH
  rw [fW_restore] at hf
  refine lv_aload_n hx hb dL_restore_0 rfl (lv_at hl 0 rfl) ?_
  obtain ⟨t1, ht1, hf⟩ := ob hf
  refine k_WVsi hC LL_136 ⟨Nat.le_of_ble_eq_true rfl, Nat.le_of_ble_eq_true rfl⟩ ⟨Nat.zero_le _, Nat.zero_le _⟩ (cS_restore l E ad2 q0_letters q0_trial q0_snapshot q0_isSaved q0_past q0_rows q0_bags q0_tally q0_sizes q0_text q0_line q0_latestReason q0_latestDetail t1 ht1) rfl rfl hH rfl rfl rfl hl.1 rfl (Nat.le_of_ble_eq_true rfl) rfl dL_restore_1 (fun H locs hz1 hH => ?_)
  have hH : Hp E (adr (wS E ad2 q0_letters q0_trial q0_snapshot q0_isSaved q0_past q0_rows q0_bags q0_tally q0_sizes q0_text q0_line q0_latestReason q0_latestDetail)) (wS E ad2 t1.2.1 q0_trial q0_snapshot q0_isSaved t1.2.2.1 t1.2.2.2.1 t1.2.2.2.2 q0_tally q0_sizes q0_text q0_line q0_latestReason q0_latestDetail) s.heap H locs := hH
  refine lv_i2l hx hb dL_restore_4 rfl ?_
  have hf := Option.some.inj hf
  subst hf
  exact e_Wl hC hH hr hlocks rfl rfl dL_restore_5
abbrev rmW_chosen : Room := { frames := 0, cells := 0, slots := 0, locals := 0 }
set_option maxHeartbeats 4000000 in
set_option maxRecDepth 100000 in
theorem cW_chosen (l : Launch) (E : eE) (a0 : Int32) (a1 : Int32) (r : Int32) (hf : fW_chosen a0 a1 = some r) : cP l E yL_chosen cL_chosen 2 (some .int) rmW_chosen [.int a0, .int a1] ([]) (some (.int r)) := by
  refine Met.ofW (cc := cL_chosen) (maxL := 2) (ret := (some .int)) (by decide) rfl ?_
  intro p e s m args below meth c s₁ B hml hv
  obtain ⟨hargs, hP, hK⟩ := hv
  have hx := B.exec
  have hb := B.bytes
  have hr := B.returns
  have hts := atoms_spec (ws := ws_ yL_chosen cL_chosen 2 (some .int)) B.pre
  have hta : ∀ w ∈ lw_all, w.before args s = true := fun w h => hts w (List.mem_cons_of_mem _ h)
  have hown : s.vm.findClass RL = some m.cls := findClass_of_methodNamed B.named
  have hlocks := B.notSynchronized
  have hC : Cx p s m args c cL_chosen 2 RL E := ⟨hx, hb, hml, hown, hta, hK⟩
  obtain ⟨ls, he, hl⟩ := entry_ (m := m) (n := 2) hargs (Nat.le_of_ble_eq_true rfl)
  rw [he]
  have hl : lv_has ls 2 [(0, .int a0), (1, .int a1)] := hl
  show W p l e rmW_chosen s m args below meth c s.heap [] 0 0 (MQ below (qP (some .int) (some (.int r))) args s 0 0 (fun _ => False)) (F0 m 0 ls [])
  rw [fW_chosen] at hf
  refine lv_iload_n hx hb dL_chosen_0 rfl (lv_at hl 0 rfl) ?_
  refine lv_ldc hx hb hown (hta _ q2_182) dL_chosen_1 ?_
  refine lv_iand hx hb dL_chosen_3 ?_
  refine lv_iload_n hx hb dL_chosen_4 rfl (lv_at hl 1 rfl) ?_
  obtain ⟨v1, hv1, hf⟩ := ob hf
  obtain ⟨hv1a, hv1b⟩ := rmI_ok hv1
  refine lv_irem hx hb dL_chosen_5 hv1a ?_
  rw [hv1b]
  have hf := Option.some.inj hf
  exact e_Pi hC hr hlocks hf dL_chosen_6
abbrev rmW_done : Room := { frames := 9, cells := 0, slots := 0, locals := 192 }
set_option maxHeartbeats 4000000 in
set_option maxRecDepth 100000 in
theorem cW_done (l : Launch) (E : eE) (G : eG) (ad2 : Nat → Nat) (q0_letters : TL) (q0_trial : TL) (q0_snapshot : TL) (q0_isSaved : Int32) (q0_past : TP) (q0_rows : TR) (q0_bags : TB) (q0_tally : TY) (q0_sizes : TZ) (q0_text : TT) (q0_line : TN) (q0_latestReason : Int32) (q0_latestDetail : Int32) (a1 : Nat) (hia1 : a1 < 15) (t : Int64 × TL × TL × TP × TR × TB × TT × Int32 × Int32) (hf : fW_done q0_letters q0_trial q0_past q0_rows q0_bags q0_text q0_latestReason q0_latestDetail a1 = some t) : cWS l E G yL_done cL_done 3 (some .long) rmW_done [.ref (ad2 0), .ref (G.1 a1)] (wS E ad2 q0_letters q0_trial q0_snapshot q0_isSaved q0_past q0_rows q0_bags q0_tally q0_sizes q0_text q0_line q0_latestReason q0_latestDetail) (some (.long t.1)) (wS E ad2 t.2.1 t.2.2.1 q0_snapshot q0_isSaved t.2.2.2.1 t.2.2.2.2.1 t.2.2.2.2.2.1 q0_tally q0_sizes t.2.2.2.2.2.2.1 q0_line t.2.2.2.2.2.2.2.1 t.2.2.2.2.2.2.2.2) := by
  refine Met.ofW (cc := cL_done) (maxL := 3) (ret := (some .long)) (by decide) rfl ?_
  intro p e s m args below meth c s₁ B hml hv
  obtain ⟨hargs, hP, hK, hD0, hSC⟩ := hv
  have hx := B.exec
  have hb := B.bytes
  have hr := B.returns
  have hts := atoms_spec (ws := ws_ yL_done cL_done 3 (some .long)) B.pre
  have hta : ∀ w ∈ lw_all, w.before args s = true := fun w h => hts w (List.mem_cons_of_mem _ h)
  have hown : s.vm.findClass RL = some m.cls := findClass_of_methodNamed B.named
  have hlocks := B.notSynchronized
  have hC : Cx p s m args c cL_done 3 RL E := ⟨hx, hb, hml, hown, hta, hK⟩
  have hH : Hp E (adr (wS E ad2 q0_letters q0_trial q0_snapshot q0_isSaved q0_past q0_rows q0_bags q0_tally q0_sizes q0_text q0_line q0_latestReason q0_latestDetail)) (wS E ad2 q0_letters q0_trial q0_snapshot q0_isSaved q0_past q0_rows q0_bags q0_tally q0_sizes q0_text q0_line q0_latestReason q0_latestDetail) s.heap s.heap [] := Hp.start hP hD0
  obtain ⟨ls, he, hl⟩ := entry_ (m := m) (n := 3) hargs (Nat.le_of_ble_eq_true rfl)
  rw [he]
  have hl : lv_has ls 3 [(0, .ref (ad2 0)), (1, .ref (G.1 a1))] := hl
  show W p l e rmW_done s m args below meth c s.heap [] 0 0 (MQ below (qW E (some .long) (some (.long t.1)) (wS E ad2 q0_letters q0_trial q0_snapshot q0_isSaved q0_past q0_rows q0_bags q0_tally q0_sizes q0_text q0_line q0_latestReason q0_latestDetail) (wS E ad2 t.2.1 t.2.2.1 q0_snapshot q0_isSaved t.2.2.2.1 t.2.2.2.2.1 t.2.2.2.2.2.1 q0_tally q0_sizes t.2.2.2.2.2.2.1 q0_line t.2.2.2.2.2.2.2.1 t.2.2.2.2.2.2.2.2)) args s 0 0 (adr (wS E ad2 q0_letters q0_trial q0_snapshot q0_isSaved q0_past q0_rows q0_bags q0_tally q0_sizes q0_text q0_line q0_latestReason q0_latestDetail))) (F0 m 0 ls [])
  suffices hmain : ∀ (H : Heap) (locs : List Loc), Hp E (adr (wS E ad2 q0_letters q0_trial q0_snapshot q0_isSaved q0_past q0_rows q0_bags q0_tally q0_sizes q0_text q0_line q0_latestReason q0_latestDetail)) (wS E ad2 q0_letters q0_trial q0_snapshot q0_isSaved q0_past q0_rows q0_bags q0_tally q0_sizes q0_text q0_line q0_latestReason q0_latestDetail) s.heap H locs → W p l e rmW_done s m args below meth c H locs 0 0 (MQ below (qW E (some .long) (some (.long t.1)) (wS E ad2 q0_letters q0_trial q0_snapshot q0_isSaved q0_past q0_rows q0_bags q0_tally q0_sizes q0_text q0_line q0_latestReason q0_latestDetail) (wS E ad2 t.2.1 t.2.2.1 q0_snapshot q0_isSaved t.2.2.2.1 t.2.2.2.2.1 t.2.2.2.2.2.1 q0_tally q0_sizes t.2.2.2.2.2.2.1 q0_line t.2.2.2.2.2.2.2.1 t.2.2.2.2.2.2.2.2)) args s 0 0 (adr (wS E ad2 q0_letters q0_trial q0_snapshot q0_isSaved q0_past q0_rows q0_bags q0_tally q0_sizes q0_text q0_line q0_latestReason q0_latestDetail))) (F0 m 0 ls []) from hmain _ _ hH
  clear hH
  have L2 : ∀ (n : Nat) (y0_0 : TL) (y0_1 : TL) (y0_4 : TP) (y0_5 : TR) (y0_6 : TB) (y0_9 : TT) (y0_11 : Int32) (y0_12 : Int32) (a2 : Int32) (ls : Array Slot), lv_has ls 3 [(0, .ref (ad2 0)), (1, .ref (G.1 a1)), (2, .int a2)] → ∀ (H : Heap) (locs : List Loc), Hp E (adr (wS E ad2 q0_letters q0_trial q0_snapshot q0_isSaved q0_past q0_rows q0_bags q0_tally q0_sizes q0_text q0_line q0_latestReason q0_latestDetail)) (wS E ad2 y0_0 y0_1 q0_snapshot q0_isSaved y0_4 y0_5 y0_6 q0_tally q0_sizes y0_9 q0_line y0_11 y0_12) s.heap H locs → fW_done_2 n y0_0 y0_1 y0_4 y0_5 y0_6 y0_9 y0_11 y0_12 a1 a2 = some t → W p l e rmW_done s m args below meth c H locs 0 0 (MQ below (qW E (some .long) (some (.long t.1)) (wS E ad2 q0_letters q0_trial q0_snapshot q0_isSaved q0_past q0_rows q0_bags q0_tally q0_sizes q0_text q0_line q0_latestReason q0_latestDetail) (wS E ad2 t.2.1 t.2.2.1 q0_snapshot q0_isSaved t.2.2.2.1 t.2.2.2.2.1 t.2.2.2.2.2.1 q0_tally q0_sizes t.2.2.2.2.2.2.1 q0_line t.2.2.2.2.2.2.2.1 t.2.2.2.2.2.2.2.2)) args s 0 0 (adr (wS E ad2 q0_letters q0_trial q0_snapshot q0_isSaved q0_past q0_rows q0_bags q0_tally q0_sizes q0_text q0_line q0_latestReason q0_latestDetail))) (F0 m 2 ls []) := by
    intro n
    induction n with
    | zero => intro y0_0 y0_1 y0_4 y0_5 y0_6 y0_9 y0_11 y0_12 a2 ls hl H locs hH hf; cases hf
    | succ n ih =>
      intro y0_0 y0_1 y0_4 y0_5 y0_6 y0_9 y0_11 y0_12 a2 ls hl H locs hH hf
      rw [fW_done_2] at hf
      refine lv_iload_n hx hb dL_done_2 rfl (lv_at hl 2 rfl) ?_
      refine lv_aload_n hx hb dL_done_3 rfl (lv_at hl 1 rfl) ?_
      refine k_XVi hC LL_140 ⟨Nat.le_of_ble_eq_true rfl, Nat.le_of_ble_eq_true rfl⟩ ⟨Nat.zero_le _, Nat.zero_le _⟩ (cJ_length l E G a1 hia1) rfl rfl hSC hH.2.2 hia1 rfl hl.1 rfl (Nat.le_of_ble_eq_true rfl) rfl dL_done_4 (fun hz4 => ?_)
      refine lv_icmp_ge (tgt := 26) hx hb dL_done_7 (by decide) (fun c1 => ?_) (fun c1 => ?_)
      · have hf := ite_t hf c1
        refine lv_aload_n hx hb dL_done_26 rfl (lv_at hl 0 rfl) ?_
        obtain ⟨t2, ht2, hf⟩ := ob hf
        refine k_WXSl hC LL_149 ⟨Nat.le_of_ble_eq_true rfl, Nat.le_of_ble_eq_true rfl⟩ ⟨Nat.zero_le _, Nat.zero_le _⟩ (cW_run l E G ad2 y0_0 y0_1 q0_snapshot q0_isSaved y0_4 y0_5 y0_6 q0_tally q0_sizes y0_9 q0_line y0_11 y0_12 t2 ht2) rfl rfl hSC hH rfl hl.1 rfl (Nat.le_of_ble_eq_true rfl) rfl dL_done_27 (fun H locs hz27 hH => ?_)
        have hH : Hp E (adr (wS E ad2 q0_letters q0_trial q0_snapshot q0_isSaved q0_past q0_rows q0_bags q0_tally q0_sizes q0_text q0_line q0_latestReason q0_latestDetail)) (wS E ad2 t2.2.1 t2.2.2.1 q0_snapshot q0_isSaved t2.2.2.2.1 t2.2.2.2.2.1 t2.2.2.2.2.2.1 q0_tally q0_sizes t2.2.2.2.2.2.2.1 q0_line t2.2.2.2.2.2.2.2.1 t2.2.2.2.2.2.2.2.2) s.heap H locs := hH
        have hf := Option.some.inj hf
        subst hf
        exact e_Wl hC hH hr hlocks rfl rfl dL_done_30
      · have hf := ite_f hf c1
        refine lv_aload_n hx hb dL_done_10 rfl (lv_at hl 0 rfl) ?_
        refine lv_aload_n hx hb dL_done_11 rfl (lv_at hl 1 rfl) ?_
        refine lv_iload_n hx hb dL_done_12 rfl (lv_at hl 2 rfl) ?_
        obtain ⟨v3, hv3, hf⟩ := ob hf
        refine k_XVi hC LL_145 ⟨Nat.le_of_ble_eq_true rfl, Nat.le_of_ble_eq_true rfl⟩ ⟨Nat.zero_le _, Nat.zero_le _⟩ (cJ_charAt l E G a1 a2 v3 hia1 hv3) rfl rfl hSC hH.2.2 hia1 rfl hl.1 rfl (Nat.le_of_ble_eq_true rfl) rfl dL_done_13 (fun hz13 => ?_)
        obtain ⟨t4, ht4, hf⟩ := ob hf
        refine k_WVsi hC LL_84 ⟨Nat.le_of_ble_eq_true rfl, Nat.le_of_ble_eq_true rfl⟩ ⟨Nat.zero_le _, Nat.zero_le _⟩ (cS_append l E ad2 y0_0 y0_1 q0_snapshot q0_isSaved y0_4 y0_5 y0_6 q0_tally q0_sizes y0_9 q0_line y0_11 y0_12 v3 t4 ht4) rfl rfl hH rfl rfl rfl hl.1 rfl (Nat.le_of_ble_eq_true rfl) rfl dL_done_16 (fun H locs hz16 hH => ?_)
        have hH : Hp E (adr (wS E ad2 q0_letters q0_trial q0_snapshot q0_isSaved q0_past q0_rows q0_bags q0_tally q0_sizes q0_text q0_line q0_latestReason q0_latestDetail)) (wS E ad2 y0_0 y0_1 q0_snapshot q0_isSaved y0_4 y0_5 y0_6 q0_tally q0_sizes t4.2 q0_line y0_11 y0_12) s.heap H locs := hH
        refine lv_pop hx hb dL_done_19 rfl ?_
        refine lv_iinc (v := (a2 + (1 : Int32))) (lv' := [(2, .int (a2 + (1 : Int32))), (0, .ref (ad2 0)), (1, .ref (G.1 a1))]) hx hb dL_done_20 hl (k := 2) rfl rfl (by decide) rfl (fun ls hl => ?_)
        refine lv_goto (tgt := 2) hx hb dL_done_23 (by decide) ?_
        exact ih y0_0 y0_1 y0_4 y0_5 y0_6 t4.2 y0_11 y0_12 (a2 + (1 : Int32)) ls (lv_sub hl [1, 2, 0] rfl) _ _ hH hf
  intro H locs hH
  rw [fW_done] at hf
  refine lv_iconst (v := 0) hx hb dL_done_0 (by decide) ?_
  refine lv_istore_n (lv' := [(2, .int (0 : Int32)), (0, .ref (ad2 0)), (1, .ref (G.1 a1))]) hx hb dL_done_1 rfl hl (by decide) rfl (fun ls hl => ?_)
  exact L2 FU q0_letters q0_trial q0_past q0_rows q0_bags q0_text q0_latestReason q0_latestDetail (0 : Int32) ls (lv_sub hl [1, 2, 0] rfl) _ _ hH hf
abbrev rmW_state : Room := { frames := 6, cells := 0, slots := 0, locals := 148 }
set_option maxHeartbeats 4000000 in
set_option maxRecDepth 100000 in
theorem cW_state (l : Launch) (E : eE) (ad2 : Nat → Nat) (q0_letters : TL) (q0_trial : TL) (q0_snapshot : TL) (q0_isSaved : Int32) (q0_past : TP) (q0_rows : TR) (q0_bags : TB) (q0_tally : TY) (q0_sizes : TZ) (q0_text : TT) (q0_line : TN) (q0_latestReason : Int32) (q0_latestDetail : Int32) (t : Int64 × TY) (hf : fW_state q0_letters q0_past q0_rows q0_bags q0_tally q0_text = some t) : cW l E yL_state cL_state 4 (some .long) rmW_state [.ref (ad2 0)] (wS E ad2 q0_letters q0_trial q0_snapshot q0_isSaved q0_past q0_rows q0_bags q0_tally q0_sizes q0_text q0_line q0_latestReason q0_latestDetail) (some (.long t.1)) (wS E ad2 q0_letters q0_trial q0_snapshot q0_isSaved q0_past q0_rows q0_bags t.2 q0_sizes q0_text q0_line q0_latestReason q0_latestDetail) := by
  refine Met.ofW (cc := cL_state) (maxL := 4) (ret := (some .long)) (by decide) rfl ?_
  intro p e s m args below meth c s₁ B hml hv
  obtain ⟨hargs, hP, hK, hD0⟩ := hv
  have hx := B.exec
  have hb := B.bytes
  have hr := B.returns
  have hts := atoms_spec (ws := ws_ yL_state cL_state 4 (some .long)) B.pre
  have hta : ∀ w ∈ lw_all, w.before args s = true := fun w h => hts w (List.mem_cons_of_mem _ h)
  have hown : s.vm.findClass RL = some m.cls := findClass_of_methodNamed B.named
  have hlocks := B.notSynchronized
  have hC : Cx p s m args c cL_state 4 RL E := ⟨hx, hb, hml, hown, hta, hK⟩
  have hH : Hp E (adr (wS E ad2 q0_letters q0_trial q0_snapshot q0_isSaved q0_past q0_rows q0_bags q0_tally q0_sizes q0_text q0_line q0_latestReason q0_latestDetail)) (wS E ad2 q0_letters q0_trial q0_snapshot q0_isSaved q0_past q0_rows q0_bags q0_tally q0_sizes q0_text q0_line q0_latestReason q0_latestDetail) s.heap s.heap [] := Hp.start hP hD0
  obtain ⟨ls, he, hl⟩ := entry_ (m := m) (n := 4) hargs (Nat.le_of_ble_eq_true rfl)
  rw [he]
  have hl : lv_has ls 4 [(0, .ref (ad2 0))] := hl
  show W p l e rmW_state s m args below meth c s.heap [] 0 0 (MQ below (qW E (some .long) (some (.long t.1)) (wS E ad2 q0_letters q0_trial q0_snapshot q0_isSaved q0_past q0_rows q0_bags q0_tally q0_sizes q0_text q0_line q0_latestReason q0_latestDetail) (wS E ad2 q0_letters q0_trial q0_snapshot q0_isSaved q0_past q0_rows q0_bags t.2 q0_sizes q0_text q0_line q0_latestReason q0_latestDetail)) args s 0 0 (adr (wS E ad2 q0_letters q0_trial q0_snapshot q0_isSaved q0_past q0_rows q0_bags q0_tally q0_sizes q0_text q0_line q0_latestReason q0_latestDetail))) (F0 m 0 ls [])
  suffices hmain : ∀ (H : Heap) (locs : List Loc), Hp E (adr (wS E ad2 q0_letters q0_trial q0_snapshot q0_isSaved q0_past q0_rows q0_bags q0_tally q0_sizes q0_text q0_line q0_latestReason q0_latestDetail)) (wS E ad2 q0_letters q0_trial q0_snapshot q0_isSaved q0_past q0_rows q0_bags q0_tally q0_sizes q0_text q0_line q0_latestReason q0_latestDetail) s.heap H locs → W p l e rmW_state s m args below meth c H locs 0 0 (MQ below (qW E (some .long) (some (.long t.1)) (wS E ad2 q0_letters q0_trial q0_snapshot q0_isSaved q0_past q0_rows q0_bags q0_tally q0_sizes q0_text q0_line q0_latestReason q0_latestDetail) (wS E ad2 q0_letters q0_trial q0_snapshot q0_isSaved q0_past q0_rows q0_bags t.2 q0_sizes q0_text q0_line q0_latestReason q0_latestDetail)) args s 0 0 (adr (wS E ad2 q0_letters q0_trial q0_snapshot q0_isSaved q0_past q0_rows q0_bags q0_tally q0_sizes q0_text q0_line q0_latestReason q0_latestDetail))) (F0 m 0 ls []) from hmain _ _ hH
  clear hH
  have L63 : ∀ (n : Nat) (y0_7 : TY) (a1 : Int64) (a3 : Int32) (ls : Array Slot), lv_has ls 4 [(0, .ref (ad2 0)), (1, .long a1), (3, .int a3)] → ∀ (H : Heap) (locs : List Loc), Hp E (adr (wS E ad2 q0_letters q0_trial q0_snapshot q0_isSaved q0_past q0_rows q0_bags q0_tally q0_sizes q0_text q0_line q0_latestReason q0_latestDetail)) (wS E ad2 q0_letters q0_trial q0_snapshot q0_isSaved q0_past q0_rows q0_bags y0_7 q0_sizes q0_text q0_line q0_latestReason q0_latestDetail) s.heap H locs → fW_state_63 n q0_letters q0_past q0_rows q0_bags y0_7 q0_text a1 a3 = some t → W p l e rmW_state s m args below meth c H locs 0 0 (MQ below (qW E (some .long) (some (.long t.1)) (wS E ad2 q0_letters q0_trial q0_snapshot q0_isSaved q0_past q0_rows q0_bags q0_tally q0_sizes q0_text q0_line q0_latestReason q0_latestDetail) (wS E ad2 q0_letters q0_trial q0_snapshot q0_isSaved q0_past q0_rows q0_bags t.2 q0_sizes q0_text q0_line q0_latestReason q0_latestDetail)) args s 0 0 (adr (wS E ad2 q0_letters q0_trial q0_snapshot q0_isSaved q0_past q0_rows q0_bags q0_tally q0_sizes q0_text q0_line q0_latestReason q0_latestDetail))) (F0 m 63 ls []) := by
    intro n
    induction n with
    | zero => intro y0_7 a1 a3 ls hl H locs hH hf; cases hf
    | succ n ih =>
      intro y0_7 a1 a3 ls hl H locs hH hf
      rw [fW_state_63] at hf
      refine lv_iload_n hx hb dL_state_63 rfl (lv_at hl 2 rfl) ?_
      refine lv_i2l hx hb dL_state_64 rfl ?_
      refine lv_aload_n hx hb dL_state_65 rfl (lv_at hl 0 rfl) ?_
      refine lv_iconst (v := 4) hx hb dL_state_66 (by decide) ?_
      obtain ⟨t4, ht4, hf⟩ := ob hf
      refine k_WSsl hC LL_158 ⟨Nat.le_of_ble_eq_true rfl, Nat.le_of_ble_eq_true rfl⟩ ⟨Nat.zero_le _, Nat.zero_le _⟩ (cW_account l E ad2 q0_letters q0_trial q0_snapshot q0_isSaved q0_past q0_rows q0_bags y0_7 q0_sizes q0_text q0_line q0_latestReason q0_latestDetail (4 : Int32) t4 ht4) rfl rfl hH rfl hl.1 rfl (Nat.le_of_ble_eq_true rfl) rfl dL_state_67 (fun H locs hz67 hH => ?_)
      have hH : Hp E (adr (wS E ad2 q0_letters q0_trial q0_snapshot q0_isSaved q0_past q0_rows q0_bags q0_tally q0_sizes q0_text q0_line q0_latestReason q0_latestDetail)) (wS E ad2 q0_letters q0_trial q0_snapshot q0_isSaved q0_past q0_rows q0_bags t4.2 q0_sizes q0_text q0_line q0_latestReason q0_latestDetail) s.heap H locs := hH
      refine W.lcmp hx hb dL_state_70 ?_
      refine lv_if_ge (tgt := 93) hx hb dL_state_71 (by decide) (fun c5 => ?_) (fun c5 => ?_)
      · have hf := ite_t hf c5
        refine lv_lload_n hx hb dL_state_93 rfl (lv_at hl 1 rfl) ?_
        have hf := Option.some.inj hf
        subst hf
        exact e_Wl hC hH hr hlocks rfl rfl dL_state_94
      · have hf := ite_f hf c5
        refine lv_ldc2 hx hb hown (hta _ q2_187) dL_state_74 ?_
        refine lv_lload_n hx hb dL_state_77 rfl (lv_at hl 1 rfl) ?_
        refine lv_lmul hx hb dL_state_78 ?_
        refine lv_aload_n hx hb dL_state_79 rfl (lv_at hl 0 rfl) ?_
        refine lv_iload_n hx hb dL_state_80 rfl (lv_at hl 2 rfl) ?_
        refine lv_iconst (v := 0) hx hb dL_state_81 (by decide) ?_
        obtain ⟨t6, ht6, hf⟩ := ob hf
        refine k_WSsl hC LL_163 ⟨Nat.le_of_ble_eq_true rfl, Nat.le_of_ble_eq_true rfl⟩ ⟨Nat.zero_le _, Nat.zero_le _⟩ (cW_bagOf l E ad2 q0_letters q0_trial q0_snapshot q0_isSaved q0_past q0_rows q0_bags t4.2 q0_sizes q0_text q0_line q0_latestReason q0_latestDetail a3 (0 : Int32) t6 ht6) rfl rfl hH rfl hl.1 rfl (Nat.le_of_ble_eq_true rfl) rfl dL_state_82 (fun H locs hz82 hH => ?_)
        have hH : Hp E (adr (wS E ad2 q0_letters q0_trial q0_snapshot q0_isSaved q0_past q0_rows q0_bags q0_tally q0_sizes q0_text q0_line q0_latestReason q0_latestDetail)) (wS E ad2 q0_letters q0_trial q0_snapshot q0_isSaved q0_past q0_rows q0_bags t6.2 q0_sizes q0_text q0_line q0_latestReason q0_latestDetail) s.heap H locs := hH
        refine lv_ladd hx hb dL_state_85 ?_
        refine lv_lstore_n (lv' := [(1, .long (((31 : Int64) * a1) + t6.1)), (0, .ref (ad2 0)), (3, .int a3)]) hx hb dL_state_86 rfl hl (by decide) rfl (fun ls hl => ?_)
        refine lv_iinc (v := (a3 + (1 : Int32))) (lv' := [(3, .int (a3 + (1 : Int32))), (1, .long (((31 : Int64) * a1) + t6.1)), (0, .ref (ad2 0))]) hx hb dL_state_87 hl (k := 2) rfl rfl (by decide) rfl (fun ls hl => ?_)
        refine lv_goto (tgt := 63) hx hb dL_state_90 (by decide) ?_
        exact ih t6.2 (((31 : Int64) * a1) + t6.1) (a3 + (1 : Int32)) ls (lv_sub hl [2, 1, 0] rfl) _ _ hH hf
  have L32 : ∀ (n : Nat) (y0_7 : TY) (a1 : Int64) (a3 : Int32) (ls : Array Slot), lv_has ls 4 [(0, .ref (ad2 0)), (1, .long a1), (3, .int a3)] → ∀ (H : Heap) (locs : List Loc), Hp E (adr (wS E ad2 q0_letters q0_trial q0_snapshot q0_isSaved q0_past q0_rows q0_bags q0_tally q0_sizes q0_text q0_line q0_latestReason q0_latestDetail)) (wS E ad2 q0_letters q0_trial q0_snapshot q0_isSaved q0_past q0_rows q0_bags y0_7 q0_sizes q0_text q0_line q0_latestReason q0_latestDetail) s.heap H locs → fW_state_32 n q0_letters q0_past q0_rows q0_bags y0_7 q0_text a1 a3 = some t → W p l e rmW_state s m args below meth c H locs 0 0 (MQ below (qW E (some .long) (some (.long t.1)) (wS E ad2 q0_letters q0_trial q0_snapshot q0_isSaved q0_past q0_rows q0_bags q0_tally q0_sizes q0_text q0_line q0_latestReason q0_latestDetail) (wS E ad2 q0_letters q0_trial q0_snapshot q0_isSaved q0_past q0_rows q0_bags t.2 q0_sizes q0_text q0_line q0_latestReason q0_latestDetail)) args s 0 0 (adr (wS E ad2 q0_letters q0_trial q0_snapshot q0_isSaved q0_past q0_rows q0_bags q0_tally q0_sizes q0_text q0_line q0_latestReason q0_latestDetail))) (F0 m 32 ls []) := by
    intro n
    induction n with
    | zero => intro y0_7 a1 a3 ls hl H locs hH hf; cases hf
    | succ n ih =>
      intro y0_7 a1 a3 ls hl H locs hH hf
      rw [fW_state_32] at hf
      refine lv_iload_n hx hb dL_state_32 rfl (lv_at hl 2 rfl) ?_
      refine lv_i2l hx hb dL_state_33 rfl ?_
      refine lv_aload_n hx hb dL_state_34 rfl (lv_at hl 0 rfl) ?_
      refine lv_iconst (v := 0) hx hb dL_state_35 (by decide) ?_
      obtain ⟨t2, ht2, hf⟩ := ob hf
      refine k_WSsl hC LL_158 ⟨Nat.le_of_ble_eq_true rfl, Nat.le_of_ble_eq_true rfl⟩ ⟨Nat.zero_le _, Nat.zero_le _⟩ (cW_account l E ad2 q0_letters q0_trial q0_snapshot q0_isSaved q0_past q0_rows q0_bags y0_7 q0_sizes q0_text q0_line q0_latestReason q0_latestDetail (0 : Int32) t2 ht2) rfl rfl hH rfl hl.1 rfl (Nat.le_of_ble_eq_true rfl) rfl dL_state_36 (fun H locs hz36 hH => ?_)
      have hH : Hp E (adr (wS E ad2 q0_letters q0_trial q0_snapshot q0_isSaved q0_past q0_rows q0_bags q0_tally q0_sizes q0_text q0_line q0_latestReason q0_latestDetail)) (wS E ad2 q0_letters q0_trial q0_snapshot q0_isSaved q0_past q0_rows q0_bags t2.2 q0_sizes q0_text q0_line q0_latestReason q0_latestDetail) s.heap H locs := hH
      refine W.lcmp hx hb dL_state_39 ?_
      refine lv_if_ge (tgt := 61) hx hb dL_state_40 (by decide) (fun c3 => ?_) (fun c3 => ?_)
      · have hf := ite_t hf c3
        refine lv_iconst (v := 0) hx hb dL_state_61 (by decide) ?_
        refine lv_istore_n (lv' := [(3, .int (0 : Int32)), (0, .ref (ad2 0)), (1, .long a1)]) hx hb dL_state_62 rfl hl (by decide) rfl (fun ls hl => ?_)
        exact L63 FU t2.2 a1 (0 : Int32) ls (lv_sub hl [1, 2, 0] rfl) _ _ hH hf
      · have hf := ite_f hf c3
        refine lv_ldc2 hx hb hown (hta _ q2_187) dL_state_43 ?_
        refine lv_lload_n hx hb dL_state_46 rfl (lv_at hl 1 rfl) ?_
        refine lv_lmul hx hb dL_state_47 ?_
        refine lv_aload_n hx hb dL_state_48 rfl (lv_at hl 0 rfl) ?_
        refine lv_iload_n hx hb dL_state_49 rfl (lv_at hl 2 rfl) ?_
        obtain ⟨t7, ht7, hf⟩ := ob hf
        refine k_PSl hC LL_161 ⟨Nat.le_of_ble_eq_true rfl, Nat.le_of_ble_eq_true rfl⟩ ⟨Nat.zero_le _, Nat.zero_le _⟩ (cW_weight l E ad2 q0_letters q0_trial q0_snapshot q0_isSaved q0_past q0_rows q0_bags t2.2 q0_sizes q0_text q0_line q0_latestReason q0_latestDetail a3 t7 ht7) rfl rfl hH.1 hl.1 rfl (Nat.le_of_ble_eq_true rfl) rfl dL_state_50 (fun hz50 => ?_)
        refine lv_ladd hx hb dL_state_53 ?_
        refine lv_lstore_n (lv' := [(1, .long (((31 : Int64) * a1) + t7)), (0, .ref (ad2 0)), (3, .int a3)]) hx hb dL_state_54 rfl hl (by decide) rfl (fun ls hl => ?_)
        refine lv_iinc (v := (a3 + (1 : Int32))) (lv' := [(3, .int (a3 + (1 : Int32))), (1, .long (((31 : Int64) * a1) + t7)), (0, .ref (ad2 0))]) hx hb dL_state_55 hl (k := 2) rfl rfl (by decide) rfl (fun ls hl => ?_)
        refine lv_goto (tgt := 32) hx hb dL_state_58 (by decide) ?_
        exact ih t2.2 (((31 : Int64) * a1) + t7) (a3 + (1 : Int32)) ls (lv_sub hl [2, 1, 0] rfl) _ _ hH hf
  have L6 : ∀ (n : Nat) (y0_7 : TY) (a1 : Int64) (a3 : Int32) (ls : Array Slot), lv_has ls 4 [(0, .ref (ad2 0)), (1, .long a1), (3, .int a3)] → ∀ (H : Heap) (locs : List Loc), Hp E (adr (wS E ad2 q0_letters q0_trial q0_snapshot q0_isSaved q0_past q0_rows q0_bags q0_tally q0_sizes q0_text q0_line q0_latestReason q0_latestDetail)) (wS E ad2 q0_letters q0_trial q0_snapshot q0_isSaved q0_past q0_rows q0_bags y0_7 q0_sizes q0_text q0_line q0_latestReason q0_latestDetail) s.heap H locs → fW_state_6 n q0_letters q0_past q0_rows q0_bags y0_7 q0_text a1 a3 = some t → W p l e rmW_state s m args below meth c H locs 0 0 (MQ below (qW E (some .long) (some (.long t.1)) (wS E ad2 q0_letters q0_trial q0_snapshot q0_isSaved q0_past q0_rows q0_bags q0_tally q0_sizes q0_text q0_line q0_latestReason q0_latestDetail) (wS E ad2 q0_letters q0_trial q0_snapshot q0_isSaved q0_past q0_rows q0_bags t.2 q0_sizes q0_text q0_line q0_latestReason q0_latestDetail)) args s 0 0 (adr (wS E ad2 q0_letters q0_trial q0_snapshot q0_isSaved q0_past q0_rows q0_bags q0_tally q0_sizes q0_text q0_line q0_latestReason q0_latestDetail))) (F0 m 6 ls []) := by
    intro n
    induction n with
    | zero => intro y0_7 a1 a3 ls hl H locs hH hf; cases hf
    | succ n ih =>
      intro y0_7 a1 a3 ls hl H locs hH hf
      rw [fW_state_6] at hf
      refine lv_iload_n hx hb dL_state_6 rfl (lv_at hl 2 rfl) ?_
      refine lv_bipush (v := 9) hx hb dL_state_7 (by decide) ?_
      refine lv_icmp_ge (tgt := 30) hx hb dL_state_9 (by decide) (fun c1 => ?_) (fun c1 => ?_)
      · have hf := ite_t hf c1
        refine lv_iconst (v := 0) hx hb dL_state_30 (by decide) ?_
        refine lv_istore_n (lv' := [(3, .int (0 : Int32)), (0, .ref (ad2 0)), (1, .long a1)]) hx hb dL_state_31 rfl hl (by decide) rfl (fun ls hl => ?_)
        exact L32 FU y0_7 a1 (0 : Int32) ls (lv_sub hl [1, 2, 0] rfl) _ _ hH hf
      · have hf := ite_f hf c1
        refine lv_ldc2 hx hb hown (hta _ q2_187) dL_state_12 ?_
        refine lv_lload_n hx hb dL_state_15 rfl (lv_at hl 1 rfl) ?_
        refine lv_lmul hx hb dL_state_16 ?_
        refine lv_aload_n hx hb dL_state_17 rfl (lv_at hl 0 rfl) ?_
        refine lv_iload_n hx hb dL_state_18 rfl (lv_at hl 2 rfl) ?_
        obtain ⟨t8, ht8, hf⟩ := ob hf
        refine k_WSsl hC LL_158 ⟨Nat.le_of_ble_eq_true rfl, Nat.le_of_ble_eq_true rfl⟩ ⟨Nat.zero_le _, Nat.zero_le _⟩ (cW_account l E ad2 q0_letters q0_trial q0_snapshot q0_isSaved q0_past q0_rows q0_bags y0_7 q0_sizes q0_text q0_line q0_latestReason q0_latestDetail a3 t8 ht8) rfl rfl hH rfl hl.1 rfl (Nat.le_of_ble_eq_true rfl) rfl dL_state_19 (fun H locs hz19 hH => ?_)
        have hH : Hp E (adr (wS E ad2 q0_letters q0_trial q0_snapshot q0_isSaved q0_past q0_rows q0_bags q0_tally q0_sizes q0_text q0_line q0_latestReason q0_latestDetail)) (wS E ad2 q0_letters q0_trial q0_snapshot q0_isSaved q0_past q0_rows q0_bags t8.2 q0_sizes q0_text q0_line q0_latestReason q0_latestDetail) s.heap H locs := hH
        refine lv_ladd hx hb dL_state_22 ?_
        refine lv_lstore_n (lv' := [(1, .long (((31 : Int64) * a1) + t8.1)), (0, .ref (ad2 0)), (3, .int a3)]) hx hb dL_state_23 rfl hl (by decide) rfl (fun ls hl => ?_)
        refine lv_iinc (v := (a3 + (1 : Int32))) (lv' := [(3, .int (a3 + (1 : Int32))), (1, .long (((31 : Int64) * a1) + t8.1)), (0, .ref (ad2 0))]) hx hb dL_state_24 hl (k := 2) rfl rfl (by decide) rfl (fun ls hl => ?_)
        refine lv_goto (tgt := 6) hx hb dL_state_27 (by decide) ?_
        exact ih t8.2 (((31 : Int64) * a1) + t8.1) (a3 + (1 : Int32)) ls (lv_sub hl [2, 1, 0] rfl) _ _ hH hf
  intro H locs hH
  rw [fW_state] at hf
  refine lv_ldc2 hx hb hown (hta _ q2_186) dL_state_0 ?_
  refine lv_lstore_n (lv' := [(1, .long (17 : Int64)), (0, .ref (ad2 0))]) hx hb dL_state_3 rfl hl (by decide) rfl (fun ls hl => ?_)
  refine lv_iconst (v := 0) hx hb dL_state_4 (by decide) ?_
  refine lv_istore_n (lv' := [(3, .int (0 : Int32)), (1, .long (17 : Int64)), (0, .ref (ad2 0))]) hx hb dL_state_5 rfl hl (by decide) rfl (fun ls hl => ?_)
  exact L6 FU q0_tally (17 : Int64) (0 : Int32) ls (lv_sub hl [2, 1, 0] rfl) _ _ hH hf
