abbrev rmS_refuse : Room := { frames := 0, cells := 0, slots := 0, locals := 0 }
set_option maxHeartbeats 4000000 in
set_option maxRecDepth 100000 in
theorem cS_refuse (l : Launch) (E : eE) (ad : Nat → Nat) (q0_letters : TL) (q0_trial : TL) (q0_snapshot : TL) (q0_isSaved : Int32) (q0_past : TP) (q0_rows : TR) (q0_bags : TB) (q0_tally : TY) (q0_sizes : TZ) (q0_text : TT) (q0_line : TN) (q0_latestReason : Int32) (q0_latestDetail : Int32) (a1 : Int32) (a2 : Int32) (t : Int32 × Int32 × Int32) (hf : fS_refuse q0_latestReason q0_latestDetail a1 a2 = some t) : cW l E yX8_refuse cX8_refuse 3 (some .int) rmS_refuse [.ref (ad 0), .int a1, .int a2] (wS E ad q0_letters q0_trial q0_snapshot q0_isSaved q0_past q0_rows q0_bags q0_tally q0_sizes q0_text q0_line q0_latestReason q0_latestDetail) (some (.int t.1)) (wS E ad q0_letters q0_trial q0_snapshot q0_isSaved q0_past q0_rows q0_bags q0_tally q0_sizes q0_text q0_line t.2.1 t.2.2) := by
  refine Met.ofW (cc := cX8_refuse) (maxL := 3) (ret := (some .int)) (by decide) rfl ?_
  intro p e s m args below meth c s₁ B hml hv
  obtain ⟨hargs, hP, hK, hD0⟩ := hv
  have hx := B.exec
  have hb := B.bytes
  have hr := B.returns
  have hts := atoms_spec (ws := ws_ yX8_refuse cX8_refuse 3 (some .int)) B.pre
  have hta : ∀ w ∈ lw_all, w.before args s = true := fun w h => hts w (List.mem_cons_of_mem _ h)
  have hown : s.vm.findClass RX8 = some m.cls := findClass_of_methodNamed B.named
  have hlocks := B.notSynchronized
  have hC : Cx p s m args c cX8_refuse 3 RX8 E := ⟨hx, hb, hml, hown, hta, hK⟩
  have hH : Hp E (adr (wS E ad q0_letters q0_trial q0_snapshot q0_isSaved q0_past q0_rows q0_bags q0_tally q0_sizes q0_text q0_line q0_latestReason q0_latestDetail)) (wS E ad q0_letters q0_trial q0_snapshot q0_isSaved q0_past q0_rows q0_bags q0_tally q0_sizes q0_text q0_line q0_latestReason q0_latestDetail) s.heap s.heap [] := Hp.start hP hD0
  obtain ⟨ls, he, hl⟩ := entry_ (m := m) (n := 3) hargs (Nat.le_of_ble_eq_true rfl)
  rw [he]
  have hl : lv_has ls 3 [(0, .ref (ad 0)), (1, .int a1), (2, .int a2)] := hl
  show W p l e rmS_refuse s m args below meth c s.heap [] 0 0 (MQ below (qW E (some .int) (some (.int t.1)) (wS E ad q0_letters q0_trial q0_snapshot q0_isSaved q0_past q0_rows q0_bags q0_tally q0_sizes q0_text q0_line q0_latestReason q0_latestDetail) (wS E ad q0_letters q0_trial q0_snapshot q0_isSaved q0_past q0_rows q0_bags q0_tally q0_sizes q0_text q0_line t.2.1 t.2.2)) args s 0 0 (adr (wS E ad q0_letters q0_trial q0_snapshot q0_isSaved q0_past q0_rows q0_bags q0_tally q0_sizes q0_text q0_line q0_latestReason q0_latestDetail))) (F0 m 0 ls [])
  suffices hmain : ∀ (H : Heap) (locs : List Loc), Hp E (adr (wS E ad q0_letters q0_trial q0_snapshot q0_isSaved q0_past q0_rows q0_bags q0_tally q0_sizes q0_text q0_line q0_latestReason q0_latestDetail)) (wS E ad q0_letters q0_trial q0_snapshot q0_isSaved q0_past q0_rows q0_bags q0_tally q0_sizes q0_text q0_line q0_latestReason q0_latestDetail) s.heap H locs → W p l e rmS_refuse s m args below meth c H locs 0 0 (MQ below (qW E (some .int) (some (.int t.1)) (wS E ad q0_letters q0_trial q0_snapshot q0_isSaved q0_past q0_rows q0_bags q0_tally q0_sizes q0_text q0_line q0_latestReason q0_latestDetail) (wS E ad q0_letters q0_trial q0_snapshot q0_isSaved q0_past q0_rows q0_bags q0_tally q0_sizes q0_text q0_line t.2.1 t.2.2)) args s 0 0 (adr (wS E ad q0_letters q0_trial q0_snapshot q0_isSaved q0_past q0_rows q0_bags q0_tally q0_sizes q0_text q0_line q0_latestReason q0_latestDetail))) (F0 m 0 ls []) from hmain _ _ hH
  clear hH
  intro H locs hH
  rw [fS_refuse] at hf
  refine lv_aload_n hx hb dX8_refuse_0 rfl (lv_at hl 0 rfl) ?_
  refine lv_iload_n hx hb dX8_refuse_1 rfl (lv_at hl 1 rfl) ?_
  refine pX8_238 hC hH 0 rfl (v := .int a1) rfl rfl (Nat.le_of_ble_eq_true rfl) (W1 := wS E ad q0_letters q0_trial q0_snapshot q0_isSaved q0_past q0_rows q0_bags q0_tally q0_sizes q0_text q0_line a1 q0_latestDetail) rfl dX8_refuse_2 (fun H locs hH => ?_)
  refine lv_aload_n hx hb dX8_refuse_5 rfl (lv_at hl 0 rfl) ?_
  refine lv_iload_n hx hb dX8_refuse_6 rfl (lv_at hl 2 rfl) ?_
  refine pX8_242 hC hH 0 rfl (v := .int a2) rfl rfl (Nat.le_of_ble_eq_true rfl) (W1 := wS E ad q0_letters q0_trial q0_snapshot q0_isSaved q0_past q0_rows q0_bags q0_tally q0_sizes q0_text q0_line a1 a2) rfl dX8_refuse_7 (fun H locs hH => ?_)
  refine lv_bipush (v := (-14)) hx hb dX8_refuse_10 (by decide) ?_
  have hf := Option.some.inj hf
  subst hf
  exact e_Wi hC hH hr hlocks rfl rfl dX8_refuse_12
abbrev rmS_follow : Room := { frames := 4, cells := 0, slots := 0, locals := 91 }
set_option maxHeartbeats 4000000 in
set_option maxRecDepth 100000 in
theorem cS_follow (l : Launch) (E : eE) (ad : Nat → Nat) (q0_letters : TL) (q0_trial : TL) (q0_snapshot : TL) (q0_isSaved : Int32) (q0_past : TP) (q0_rows : TR) (q0_bags : TB) (q0_tally : TY) (q0_sizes : TZ) (q0_text : TT) (q0_line : TN) (q0_latestReason : Int32) (q0_latestDetail : Int32) (t : TR × TB) (hf : fS_follow q0_letters q0_rows q0_bags = some t) : cW l E yX8_follow cX8_follow 1 none rmS_follow [.ref (ad 0)] (wS E ad q0_letters q0_trial q0_snapshot q0_isSaved q0_past q0_rows q0_bags q0_tally q0_sizes q0_text q0_line q0_latestReason q0_latestDetail) none (wS E ad q0_letters q0_trial q0_snapshot q0_isSaved q0_past t.1 t.2 q0_tally q0_sizes q0_text q0_line q0_latestReason q0_latestDetail) := by
  refine Met.ofW (cc := cX8_follow) (maxL := 1) (ret := none) (by decide) rfl ?_
  intro p e s m args below meth c s₁ B hml hv
  obtain ⟨hargs, hP, hK, hD0⟩ := hv
  have hx := B.exec
  have hb := B.bytes
  have hr := B.returns
  have hts := atoms_spec (ws := ws_ yX8_follow cX8_follow 1 none) B.pre
  have hta : ∀ w ∈ lw_all, w.before args s = true := fun w h => hts w (List.mem_cons_of_mem _ h)
  have hown : s.vm.findClass RX8 = some m.cls := findClass_of_methodNamed B.named
  have hlocks := B.notSynchronized
  have hC : Cx p s m args c cX8_follow 1 RX8 E := ⟨hx, hb, hml, hown, hta, hK⟩
  have hH : Hp E (adr (wS E ad q0_letters q0_trial q0_snapshot q0_isSaved q0_past q0_rows q0_bags q0_tally q0_sizes q0_text q0_line q0_latestReason q0_latestDetail)) (wS E ad q0_letters q0_trial q0_snapshot q0_isSaved q0_past q0_rows q0_bags q0_tally q0_sizes q0_text q0_line q0_latestReason q0_latestDetail) s.heap s.heap [] := Hp.start hP hD0
  obtain ⟨ls, he, hl⟩ := entry_ (m := m) (n := 1) hargs (Nat.le_of_ble_eq_true rfl)
  rw [he]
  have hl : lv_has ls 1 [(0, .ref (ad 0))] := hl
  show W p l e rmS_follow s m args below meth c s.heap [] 0 0 (MQ below (qW E none none (wS E ad q0_letters q0_trial q0_snapshot q0_isSaved q0_past q0_rows q0_bags q0_tally q0_sizes q0_text q0_line q0_latestReason q0_latestDetail) (wS E ad q0_letters q0_trial q0_snapshot q0_isSaved q0_past t.1 t.2 q0_tally q0_sizes q0_text q0_line q0_latestReason q0_latestDetail)) args s 0 0 (adr (wS E ad q0_letters q0_trial q0_snapshot q0_isSaved q0_past q0_rows q0_bags q0_tally q0_sizes q0_text q0_line q0_latestReason q0_latestDetail))) (F0 m 0 ls [])
  suffices hmain : ∀ (H : Heap) (locs : List Loc), Hp E (adr (wS E ad q0_letters q0_trial q0_snapshot q0_isSaved q0_past q0_rows q0_bags q0_tally q0_sizes q0_text q0_line q0_latestReason q0_latestDetail)) (wS E ad q0_letters q0_trial q0_snapshot q0_isSaved q0_past q0_rows q0_bags q0_tally q0_sizes q0_text q0_line q0_latestReason q0_latestDetail) s.heap H locs → W p l e rmS_follow s m args below meth c H locs 0 0 (MQ below (qW E none none (wS E ad q0_letters q0_trial q0_snapshot q0_isSaved q0_past q0_rows q0_bags q0_tally q0_sizes q0_text q0_line q0_latestReason q0_latestDetail) (wS E ad q0_letters q0_trial q0_snapshot q0_isSaved q0_past t.1 t.2 q0_tally q0_sizes q0_text q0_line q0_latestReason q0_latestDetail)) args s 0 0 (adr (wS E ad q0_letters q0_trial q0_snapshot q0_isSaved q0_past q0_rows q0_bags q0_tally q0_sizes q0_text q0_line q0_latestReason q0_latestDetail))) (F0 m 0 ls []) from hmain _ _ hH
  clear hH
  intro H locs hH
  rw [fS_follow] at hf
  refine lv_aload_n hx hb dX8_follow_0 rfl (lv_at hl 0 rfl) ?_
  refine gX8_32 hC hH.1 0 rfl (v := .ref (ad 25)) rfl dX8_follow_1 ?_
  refine lv_aload_n hx hb dX8_follow_4 rfl (lv_at hl 0 rfl) ?_
  refine gX8_10 hC hH.1 0 rfl (v := .ref (ad 1)) rfl dX8_follow_5 ?_
  obtain ⟨t1, ht1, hf⟩ := ob hf
  refine k_WVpv hC LX8_287 ⟨Nat.le_of_ble_eq_true rfl, Nat.le_of_ble_eq_true rfl⟩ ⟨Nat.zero_le _, Nat.zero_le _⟩ (cR_fill l E (fun j => ad (25 + j)) q0_rows.1 q0_rows.2.1 q0_rows.2.2.1 q0_rows.2.2.2.1 q0_rows.2.2.2.2.1 q0_rows.2.2.2.2.2 (fun j => ad (1 + j)) q0_letters.1 q0_letters.2.1 q0_letters.2.2.1 q0_letters.2.2.2.1 q0_letters.2.2.2.2.1 q0_letters.2.2.2.2.2 t1 ht1) rfl rfl hH (W1 := wS E ad q0_letters q0_trial q0_snapshot q0_isSaved q0_past (t1.1, t1.2.1, t1.2.2.1, t1.2.2.2.1, t1.2.2.2.2.1, t1.2.2.2.2.2) q0_bags q0_tally q0_sizes q0_text q0_line q0_latestReason q0_latestDetail) (sp_rows_letters E ad q0_letters q0_trial q0_snapshot q0_isSaved q0_past q0_rows q0_bags q0_tally q0_sizes q0_text q0_line q0_latestReason q0_latestDetail) (sq_rows_letters E ad q0_letters q0_trial q0_snapshot q0_isSaved q0_past q0_rows q0_bags q0_tally q0_sizes q0_text q0_line q0_latestReason q0_latestDetail t1.1 t1.2.1 t1.2.2.1 t1.2.2.2.1 t1.2.2.2.2.1 t1.2.2.2.2.2 q0_letters.1 q0_letters.2.1 q0_letters.2.2.1 q0_letters.2.2.2.1 q0_letters.2.2.2.2.1 q0_letters.2.2.2.2.2) rfl rfl rfl hl.1 rfl (Nat.le_of_ble_eq_true rfl) rfl dX8_follow_8 (fun H locs hz8 hH => ?_)
  refine lv_aload_n hx hb dX8_follow_11 rfl (lv_at hl 0 rfl) ?_
  refine gX8_39 hC hH.1 0 rfl (v := .ref (ad 36)) rfl dX8_follow_12 ?_
  refine lv_aload_n hx hb dX8_follow_15 rfl (lv_at hl 0 rfl) ?_
  refine gX8_10 hC hH.1 0 rfl (v := .ref (ad 1)) rfl dX8_follow_16 ?_
  obtain ⟨t2, ht2, hf⟩ := ob hf
  refine k_WVpv hC LX8_289 ⟨Nat.le_of_ble_eq_true rfl, Nat.le_of_ble_eq_true rfl⟩ ⟨Nat.zero_le _, Nat.zero_le _⟩ (cB_fill l E (fun j => ad (36 + j)) q0_bags.1 q0_bags.2.1 q0_bags.2.2.1 q0_bags.2.2.2 (fun j => ad (1 + j)) q0_letters.1 q0_letters.2.1 q0_letters.2.2.1 q0_letters.2.2.2.1 q0_letters.2.2.2.2.1 q0_letters.2.2.2.2.2 t2 ht2) rfl rfl hH (W1 := wS E ad q0_letters q0_trial q0_snapshot q0_isSaved q0_past (t1.1, t1.2.1, t1.2.2.1, t1.2.2.2.1, t1.2.2.2.2.1, t1.2.2.2.2.2) (t2.1, t2.2.1, t2.2.2.1, t2.2.2.2) q0_tally q0_sizes q0_text q0_line q0_latestReason q0_latestDetail) (sp_bags_letters E ad q0_letters q0_trial q0_snapshot q0_isSaved q0_past (t1.1, t1.2.1, t1.2.2.1, t1.2.2.2.1, t1.2.2.2.2.1, t1.2.2.2.2.2) q0_bags q0_tally q0_sizes q0_text q0_line q0_latestReason q0_latestDetail) (sq_bags_letters E ad q0_letters q0_trial q0_snapshot q0_isSaved q0_past (t1.1, t1.2.1, t1.2.2.1, t1.2.2.2.1, t1.2.2.2.2.1, t1.2.2.2.2.2) q0_bags q0_tally q0_sizes q0_text q0_line q0_latestReason q0_latestDetail t2.1 t2.2.1 t2.2.2.1 t2.2.2.2 q0_letters.1 q0_letters.2.1 q0_letters.2.2.1 q0_letters.2.2.2.1 q0_letters.2.2.2.2.1 q0_letters.2.2.2.2.2) rfl rfl rfl hl.1 rfl (Nat.le_of_ble_eq_true rfl) rfl dX8_follow_19 (fun H locs hz19 hH => ?_)
  have hf := Option.some.inj hf
  subst hf
  exact e_Wv hC hH hr hlocks rfl dX8_follow_22
abbrev rmS_put : Room := { frames := 5, cells := 0, slots := 0, locals := 111 }
set_option maxHeartbeats 4000000 in
set_option maxRecDepth 100000 in
theorem cS_put (l : Launch) (E : eE) (ad : Nat → Nat) (q0_letters : TL) (q0_trial : TL) (q0_snapshot : TL) (q0_isSaved : Int32) (q0_past : TP) (q0_rows : TR) (q0_bags : TB) (q0_tally : TY) (q0_sizes : TZ) (q0_text : TT) (q0_line : TN) (q0_latestReason : Int32) (q0_latestDetail : Int32) (a1 : Int32) (t : Int32 × TL × TP × TR × TB × Int32 × Int32) (hf : fS_put q0_letters q0_past q0_rows q0_bags q0_latestReason q0_latestDetail a1 = some t) : cW l E yX8_put cX8_put 2 (some .int) rmS_put [.ref (ad 0), .int a1] (wS E ad q0_letters q0_trial q0_snapshot q0_isSaved q0_past q0_rows q0_bags q0_tally q0_sizes q0_text q0_line q0_latestReason q0_latestDetail) (some (.int t.1)) (wS E ad t.2.1 q0_trial q0_snapshot q0_isSaved t.2.2.1 t.2.2.2.1 t.2.2.2.2.1 q0_tally q0_sizes q0_text q0_line t.2.2.2.2.2.1 t.2.2.2.2.2.2) := by
  refine Met.ofW (cc := cX8_put) (maxL := 2) (ret := (some .int)) (by decide) rfl ?_
  intro p e s m args below meth c s₁ B hml hv
  obtain ⟨hargs, hP, hK, hD0⟩ := hv
  have hx := B.exec
  have hb := B.bytes
  have hr := B.returns
  have hts := atoms_spec (ws := ws_ yX8_put cX8_put 2 (some .int)) B.pre
  have hta : ∀ w ∈ lw_all, w.before args s = true := fun w h => hts w (List.mem_cons_of_mem _ h)
  have hown : s.vm.findClass RX8 = some m.cls := findClass_of_methodNamed B.named
  have hlocks := B.notSynchronized
  have hC : Cx p s m args c cX8_put 2 RX8 E := ⟨hx, hb, hml, hown, hta, hK⟩
  have hH : Hp E (adr (wS E ad q0_letters q0_trial q0_snapshot q0_isSaved q0_past q0_rows q0_bags q0_tally q0_sizes q0_text q0_line q0_latestReason q0_latestDetail)) (wS E ad q0_letters q0_trial q0_snapshot q0_isSaved q0_past q0_rows q0_bags q0_tally q0_sizes q0_text q0_line q0_latestReason q0_latestDetail) s.heap s.heap [] := Hp.start hP hD0
  obtain ⟨ls, he, hl⟩ := entry_ (m := m) (n := 2) hargs (Nat.le_of_ble_eq_true rfl)
  rw [he]
  have hl : lv_has ls 2 [(0, .ref (ad 0)), (1, .int a1)] := hl
  show W p l e rmS_put s m args below meth c s.heap [] 0 0 (MQ below (qW E (some .int) (some (.int t.1)) (wS E ad q0_letters q0_trial q0_snapshot q0_isSaved q0_past q0_rows q0_bags q0_tally q0_sizes q0_text q0_line q0_latestReason q0_latestDetail) (wS E ad t.2.1 q0_trial q0_snapshot q0_isSaved t.2.2.1 t.2.2.2.1 t.2.2.2.2.1 q0_tally q0_sizes q0_text q0_line t.2.2.2.2.2.1 t.2.2.2.2.2.2)) args s 0 0 (adr (wS E ad q0_letters q0_trial q0_snapshot q0_isSaved q0_past q0_rows q0_bags q0_tally q0_sizes q0_text q0_line q0_latestReason q0_latestDetail))) (F0 m 0 ls [])
  suffices hmain : ∀ (H : Heap) (locs : List Loc), Hp E (adr (wS E ad q0_letters q0_trial q0_snapshot q0_isSaved q0_past q0_rows q0_bags q0_tally q0_sizes q0_text q0_line q0_latestReason q0_latestDetail)) (wS E ad q0_letters q0_trial q0_snapshot q0_isSaved q0_past q0_rows q0_bags q0_tally q0_sizes q0_text q0_line q0_latestReason q0_latestDetail) s.heap H locs → W p l e rmS_put s m args below meth c H locs 0 0 (MQ below (qW E (some .int) (some (.int t.1)) (wS E ad q0_letters q0_trial q0_snapshot q0_isSaved q0_past q0_rows q0_bags q0_tally q0_sizes q0_text q0_line q0_latestReason q0_latestDetail) (wS E ad t.2.1 q0_trial q0_snapshot q0_isSaved t.2.2.1 t.2.2.2.1 t.2.2.2.2.1 q0_tally q0_sizes q0_text q0_line t.2.2.2.2.2.1 t.2.2.2.2.2.2)) args s 0 0 (adr (wS E ad q0_letters q0_trial q0_snapshot q0_isSaved q0_past q0_rows q0_bags q0_tally q0_sizes q0_text q0_line q0_latestReason q0_latestDetail))) (F0 m 0 ls []) from hmain _ _ hH
  clear hH
  intro H locs hH
  rw [fS_put] at hf
  refine lv_iload_n hx hb dX8_put_0 rfl (lv_at hl 1 rfl) ?_
  refine k_PSi hC LX8_71 ⟨Nat.le_of_ble_eq_true rfl, Nat.le_of_ble_eq_true rfl⟩ ⟨Nat.zero_le _, Nat.zero_le _⟩ (cS_isWeight l E a1 _ rfl) rfl rfl (vP_nil) hl.1 rfl (Nat.le_of_ble_eq_true rfl) rfl dX8_put_1 (fun hz1 => ?_)
  refine lv_if_ne (tgt := 10) hx hb dX8_put_4 (by decide) (fun c1 => ?_) (fun c1 => ?_)
  · have hf := ite_f hf c1
    refine lv_aload_n hx hb dX8_put_10 rfl (lv_at hl 0 rfl) ?_
    refine gX8_10 hC hH.1 0 rfl (v := .ref (ad 1)) rfl dX8_put_11 ?_
    refine k_PVi hC LX8_75 ⟨Nat.le_of_ble_eq_true rfl, Nat.le_of_ble_eq_true rfl⟩ ⟨Nat.zero_le _, Nat.zero_le _⟩ (cL_isFull l E (fun j => ad (1 + j)) q0_letters.1 q0_letters.2.1 q0_letters.2.2.1 q0_letters.2.2.2.1 q0_letters.2.2.2.2.1 q0_letters.2.2.2.2.2 _ rfl) rfl rfl (ss_letters hH.1) rfl rfl hl.1 rfl (Nat.le_of_ble_eq_true rfl) rfl dX8_put_14 (fun hz14 => ?_)
    refine lv_if_eq (tgt := 28) hx hb dX8_put_17 (by decide) (fun c2 => ?_) (fun c2 => ?_)
    · have hf := ite_t hf c2
      refine lv_aload_n hx hb dX8_put_28 rfl (lv_at hl 0 rfl) ?_
      refine gX8_25 hC hH.1 0 rfl (v := .ref (ad 7)) rfl dX8_put_29 ?_
      refine lv_aload_n hx hb dX8_put_32 rfl (lv_at hl 0 rfl) ?_
      refine gX8_10 hC hH.1 0 rfl (v := .ref (ad 1)) rfl dX8_put_33 ?_
      obtain ⟨t3, ht3, hf⟩ := ob hf
      refine k_WVpv hC LX8_83 ⟨Nat.le_of_ble_eq_true rfl, Nat.le_of_ble_eq_true rfl⟩ ⟨Nat.zero_le _, Nat.zero_le _⟩ (cP_keep l E (fun j => ad (7 + j)) q0_past.1 q0_past.2.1 q0_past.2.2 (fun j => ad (1 + j)) q0_letters.1 q0_letters.2.1 q0_letters.2.2.1 q0_letters.2.2.2.1 q0_letters.2.2.2.2.1 q0_letters.2.2.2.2.2 t3 ht3) rfl rfl hH (W1 := wS E ad q0_letters q0_trial q0_snapshot q0_isSaved (t3.1, t3.2.1, t3.2.2) q0_rows q0_bags q0_tally q0_sizes q0_text q0_line q0_latestReason q0_latestDetail) (sp_past_letters E ad q0_letters q0_trial q0_snapshot q0_isSaved q0_past q0_rows q0_bags q0_tally q0_sizes q0_text q0_line q0_latestReason q0_latestDetail) (sq_past_letters E ad q0_letters q0_trial q0_snapshot q0_isSaved q0_past q0_rows q0_bags q0_tally q0_sizes q0_text q0_line q0_latestReason q0_latestDetail t3.1 t3.2.1 t3.2.2 q0_letters.1 q0_letters.2.1 q0_letters.2.2.1 q0_letters.2.2.2.1 q0_letters.2.2.2.2.1 q0_letters.2.2.2.2.2) rfl rfl rfl hl.1 rfl (Nat.le_of_ble_eq_true rfl) rfl dX8_put_36 (fun H locs hz36 hH => ?_)
      refine lv_aload_n hx hb dX8_put_39 rfl (lv_at hl 0 rfl) ?_
      refine gX8_10 hC hH.1 0 rfl (v := .ref (ad 1)) rfl dX8_put_40 ?_
      refine lv_aload_n hx hb dX8_put_43 rfl (lv_at hl 0 rfl) ?_
      refine gX8_10 hC hH.1 0 rfl (v := .ref (ad 1)) rfl dX8_put_44 ?_
      refine k_PVi hC LX8_87 ⟨Nat.le_of_ble_eq_true rfl, Nat.le_of_ble_eq_true rfl⟩ ⟨Nat.zero_le _, Nat.zero_le _⟩ (cL_size l E (fun j => ad (1 + j)) q0_letters.1 q0_letters.2.1 q0_letters.2.2.1 q0_letters.2.2.2.1 q0_letters.2.2.2.2.1 q0_letters.2.2.2.2.2 _ rfl) rfl rfl (ss_letters hH.1) rfl rfl hl.1 rfl (Nat.le_of_ble_eq_true rfl) rfl dX8_put_47 (fun hz47 => ?_)
      refine lv_iload_n hx hb dX8_put_50 rfl (lv_at hl 1 rfl) ?_
      obtain ⟨t4, ht4, hf⟩ := ob hf
      refine k_WVpi hC LX8_91 ⟨Nat.le_of_ble_eq_true rfl, Nat.le_of_ble_eq_true rfl⟩ ⟨Nat.zero_le _, Nat.zero_le _⟩ (cL_come l E (fun j => ad (1 + j)) q0_letters.1 q0_letters.2.1 q0_letters.2.2.1 q0_letters.2.2.2.1 q0_letters.2.2.2.2.1 q0_letters.2.2.2.2.2 (fL_size q0_letters.2.1) a1 t4 ht4) rfl rfl hH (W1 := wS E ad (t4.2.1, t4.2.2.1, q0_letters.2.2.1, t4.2.2.2, q0_letters.2.2.2.2) q0_trial q0_snapshot q0_isSaved (t3.1, t3.2.1, t3.2.2) q0_rows q0_bags q0_tally q0_sizes q0_text q0_line q0_latestReason q0_latestDetail) (sp_letters E ad q0_letters q0_trial q0_snapshot q0_isSaved (t3.1, t3.2.1, t3.2.2) q0_rows q0_bags q0_tally q0_sizes q0_text q0_line q0_latestReason q0_latestDetail) (sq_letters E ad q0_letters q0_trial q0_snapshot q0_isSaved (t3.1, t3.2.1, t3.2.2) q0_rows q0_bags q0_tally q0_sizes q0_text q0_line q0_latestReason q0_latestDetail t4.2.1 t4.2.2.1 q0_letters.2.2.1 t4.2.2.2 q0_letters.2.2.2.2.1 q0_letters.2.2.2.2.2) rfl rfl rfl hl.1 rfl (Nat.le_of_ble_eq_true rfl) rfl dX8_put_51 (fun H locs hz51 hH => ?_)
      refine lv_pop hx hb dX8_put_54 rfl ?_
      refine lv_aload_n hx hb dX8_put_55 rfl (lv_at hl 0 rfl) ?_
      obtain ⟨t5, ht5, hf⟩ := ob hf
      refine k_WVsv hC LX8_95 ⟨Nat.le_of_ble_eq_true rfl, Nat.le_of_ble_eq_true rfl⟩ ⟨Nat.zero_le _, Nat.zero_le _⟩ (cS_follow l E ad (t4.2.1, t4.2.2.1, q0_letters.2.2.1, t4.2.2.2, q0_letters.2.2.2.2) q0_trial q0_snapshot q0_isSaved (t3.1, t3.2.1, t3.2.2) q0_rows q0_bags q0_tally q0_sizes q0_text q0_line q0_latestReason q0_latestDetail t5 ht5) rfl rfl hH rfl rfl rfl hl.1 rfl (Nat.le_of_ble_eq_true rfl) rfl dX8_put_56 (fun H locs hz56 hH => ?_)
      have hH : Hp E (adr (wS E ad q0_letters q0_trial q0_snapshot q0_isSaved q0_past q0_rows q0_bags q0_tally q0_sizes q0_text q0_line q0_latestReason q0_latestDetail)) (wS E ad (t4.2.1, t4.2.2.1, q0_letters.2.2.1, t4.2.2.2, q0_letters.2.2.2.2) q0_trial q0_snapshot q0_isSaved (t3.1, t3.2.1, t3.2.2) t5.1 t5.2 q0_tally q0_sizes q0_text q0_line q0_latestReason q0_latestDetail) s.heap H locs := hH
      refine lv_aload_n hx hb dX8_put_59 rfl (lv_at hl 0 rfl) ?_
      refine gX8_10 hC hH.1 0 rfl (v := .ref (ad 1)) rfl dX8_put_60 ?_
      refine k_PVi hC LX8_87 ⟨Nat.le_of_ble_eq_true rfl, Nat.le_of_ble_eq_true rfl⟩ ⟨Nat.zero_le _, Nat.zero_le _⟩ (cL_size l E (fun j => ad (1 + j)) t4.2.1 t4.2.2.1 q0_letters.2.2.1 t4.2.2.2 q0_letters.2.2.2.2.1 q0_letters.2.2.2.2.2 _ rfl) rfl rfl (ss_letters hH.1) rfl rfl hl.1 rfl (Nat.le_of_ble_eq_true rfl) rfl dX8_put_63 (fun hz63 => ?_)
      refine lv_iconst (v := 1) hx hb dX8_put_66 (by decide) ?_
      refine lv_isub hx hb dX8_put_67 ?_
      have hf := Option.some.inj hf
      subst hf
      exact e_Wi hC hH hr hlocks rfl rfl dX8_put_68
    · have hf := ite_f hf c2
      refine lv_aload_n hx hb dX8_put_20 rfl (lv_at hl 0 rfl) ?_
      refine lv_iconst (v := 1) hx hb dX8_put_21 (by decide) ?_
      refine lv_bipush (v := 64) hx hb dX8_put_22 (by decide) ?_
      obtain ⟨t6, ht6, hf⟩ := ob hf
      refine k_WVsi hC LX8_79 ⟨Nat.le_of_ble_eq_true rfl, Nat.le_of_ble_eq_true rfl⟩ ⟨Nat.zero_le _, Nat.zero_le _⟩ (cS_refuse l E ad q0_letters q0_trial q0_snapshot q0_isSaved q0_past q0_rows q0_bags q0_tally q0_sizes q0_text q0_line q0_latestReason q0_latestDetail (1 : Int32) (64 : Int32) t6 ht6) rfl rfl hH rfl rfl rfl hl.1 rfl (Nat.le_of_ble_eq_true rfl) rfl dX8_put_24 (fun H locs hz24 hH => ?_)
      have hH : Hp E (adr (wS E ad q0_letters q0_trial q0_snapshot q0_isSaved q0_past q0_rows q0_bags q0_tally q0_sizes q0_text q0_line q0_latestReason q0_latestDetail)) (wS E ad q0_letters q0_trial q0_snapshot q0_isSaved q0_past q0_rows q0_bags q0_tally q0_sizes q0_text q0_line t6.2.1 t6.2.2) s.heap H locs := hH
      have hf := Option.some.inj hf
      subst hf
      exact e_Wi hC hH hr hlocks rfl rfl dX8_put_27
  · have hf := ite_t hf c1
    refine lv_bipush (v := (-12)) hx hb dX8_put_7 (by decide) ?_
    have hf := Option.some.inj hf
    subst hf
    exact e_Wi hC hH hr hlocks rfl rfl dX8_put_9
abbrev rmS_insert : Room := { frames := 5, cells := 0, slots := 0, locals := 111 }
set_option maxHeartbeats 4000000 in
set_option maxRecDepth 100000 in
theorem cS_insert (l : Launch) (E : eE) (ad : Nat → Nat) (q0_letters : TL) (q0_trial : TL) (q0_snapshot : TL) (q0_isSaved : Int32) (q0_past : TP) (q0_rows : TR) (q0_bags : TB) (q0_tally : TY) (q0_sizes : TZ) (q0_text : TT) (q0_line : TN) (q0_latestReason : Int32) (q0_latestDetail : Int32) (a1 : Int32) (a2 : Int32) (t : Int32 × TL × TP × TR × TB × Int32 × Int32) (hf : fS_insert q0_letters q0_past q0_rows q0_bags q0_latestReason q0_latestDetail a1 a2 = some t) : cW l E yX8_insert cX8_insert 3 (some .int) rmS_insert [.ref (ad 0), .int a1, .int a2] (wS E ad q0_letters q0_trial q0_snapshot q0_isSaved q0_past q0_rows q0_bags q0_tally q0_sizes q0_text q0_line q0_latestReason q0_latestDetail) (some (.int t.1)) (wS E ad t.2.1 q0_trial q0_snapshot q0_isSaved t.2.2.1 t.2.2.2.1 t.2.2.2.2.1 q0_tally q0_sizes q0_text q0_line t.2.2.2.2.2.1 t.2.2.2.2.2.2) := by
  refine Met.ofW (cc := cX8_insert) (maxL := 3) (ret := (some .int)) (by decide) rfl ?_
  intro p e s m args below meth c s₁ B hml hv
  obtain ⟨hargs, hP, hK, hD0⟩ := hv
  have hx := B.exec
  have hb := B.bytes
  have hr := B.returns
  have hts := atoms_spec (ws := ws_ yX8_insert cX8_insert 3 (some .int)) B.pre
  have hta : ∀ w ∈ lw_all, w.before args s = true := fun w h => hts w (List.mem_cons_of_mem _ h)
  have hown : s.vm.findClass RX8 = some m.cls := findClass_of_methodNamed B.named
  have hlocks := B.notSynchronized
  have hC : Cx p s m args c cX8_insert 3 RX8 E := ⟨hx, hb, hml, hown, hta, hK⟩
  have hH : Hp E (adr (wS E ad q0_letters q0_trial q0_snapshot q0_isSaved q0_past q0_rows q0_bags q0_tally q0_sizes q0_text q0_line q0_latestReason q0_latestDetail)) (wS E ad q0_letters q0_trial q0_snapshot q0_isSaved q0_past q0_rows q0_bags q0_tally q0_sizes q0_text q0_line q0_latestReason q0_latestDetail) s.heap s.heap [] := Hp.start hP hD0
  obtain ⟨ls, he, hl⟩ := entry_ (m := m) (n := 3) hargs (Nat.le_of_ble_eq_true rfl)
  rw [he]
  have hl : lv_has ls 3 [(0, .ref (ad 0)), (1, .int a1), (2, .int a2)] := hl
  show W p l e rmS_insert s m args below meth c s.heap [] 0 0 (MQ below (qW E (some .int) (some (.int t.1)) (wS E ad q0_letters q0_trial q0_snapshot q0_isSaved q0_past q0_rows q0_bags q0_tally q0_sizes q0_text q0_line q0_latestReason q0_latestDetail) (wS E ad t.2.1 q0_trial q0_snapshot q0_isSaved t.2.2.1 t.2.2.2.1 t.2.2.2.2.1 q0_tally q0_sizes q0_text q0_line t.2.2.2.2.2.1 t.2.2.2.2.2.2)) args s 0 0 (adr (wS E ad q0_letters q0_trial q0_snapshot q0_isSaved q0_past q0_rows q0_bags q0_tally q0_sizes q0_text q0_line q0_latestReason q0_latestDetail))) (F0 m 0 ls [])
  suffices hmain : ∀ (H : Heap) (locs : List Loc), Hp E (adr (wS E ad q0_letters q0_trial q0_snapshot q0_isSaved q0_past q0_rows q0_bags q0_tally q0_sizes q0_text q0_line q0_latestReason q0_latestDetail)) (wS E ad q0_letters q0_trial q0_snapshot q0_isSaved q0_past q0_rows q0_bags q0_tally q0_sizes q0_text q0_line q0_latestReason q0_latestDetail) s.heap H locs → W p l e rmS_insert s m args below meth c H locs 0 0 (MQ below (qW E (some .int) (some (.int t.1)) (wS E ad q0_letters q0_trial q0_snapshot q0_isSaved q0_past q0_rows q0_bags q0_tally q0_sizes q0_text q0_line q0_latestReason q0_latestDetail) (wS E ad t.2.1 q0_trial q0_snapshot q0_isSaved t.2.2.1 t.2.2.2.1 t.2.2.2.2.1 q0_tally q0_sizes q0_text q0_line t.2.2.2.2.2.1 t.2.2.2.2.2.2)) args s 0 0 (adr (wS E ad q0_letters q0_trial q0_snapshot q0_isSaved q0_past q0_rows q0_bags q0_tally q0_sizes q0_text q0_line q0_latestReason q0_latestDetail))) (F0 m 0 ls []) from hmain _ _ hH
  clear hH
  intro H locs hH
  rw [fS_insert] at hf
  refine lv_iload_n hx hb dX8_insert_0 rfl (lv_at hl 1 rfl) ?_
  refine lv_if_lt (tgt := 15) hx hb dX8_insert_1 (by decide) (fun c1 => ?_) (fun c1 => ?_)
  · have hf := ite_t hf c1
    refine lv_bipush (v := (-11)) hx hb dX8_insert_15 (by decide) ?_
    have hf := Option.some.inj hf
    subst hf
    exact e_Wi hC hH hr hlocks rfl rfl dX8_insert_17
  · have hf := ite_f hf c1
    refine lv_iload_n hx hb dX8_insert_4 rfl (lv_at hl 1 rfl) ?_
    refine lv_aload_n hx hb dX8_insert_5 rfl (lv_at hl 0 rfl) ?_
    refine gX8_10 hC hH.1 0 rfl (v := .ref (ad 1)) rfl dX8_insert_6 ?_
    refine k_PVi hC LX8_87 ⟨Nat.le_of_ble_eq_true rfl, Nat.le_of_ble_eq_true rfl⟩ ⟨Nat.zero_le _, Nat.zero_le _⟩ (cL_size l E (fun j => ad (1 + j)) q0_letters.1 q0_letters.2.1 q0_letters.2.2.1 q0_letters.2.2.2.1 q0_letters.2.2.2.2.1 q0_letters.2.2.2.2.2 _ rfl) rfl rfl (ss_letters hH.1) rfl rfl hl.1 rfl (Nat.le_of_ble_eq_true rfl) rfl dX8_insert_9 (fun hz9 => ?_)
    refine lv_icmp_le (tgt := 18) hx hb dX8_insert_12 (by decide) (fun c2 => ?_) (fun c2 => ?_)
    · have hf := ite_t hf c2
      refine lv_iload_n hx hb dX8_insert_18 rfl (lv_at hl 2 rfl) ?_
      refine k_PSi hC LX8_71 ⟨Nat.le_of_ble_eq_true rfl, Nat.le_of_ble_eq_true rfl⟩ ⟨Nat.zero_le _, Nat.zero_le _⟩ (cS_isWeight l E a2 _ rfl) rfl rfl (vP_nil) hl.1 rfl (Nat.le_of_ble_eq_true rfl) rfl dX8_insert_19 (fun hz19 => ?_)
      refine lv_if_ne (tgt := 28) hx hb dX8_insert_22 (by decide) (fun c3 => ?_) (fun c3 => ?_)
      · have hf := ite_f hf c3
        refine lv_aload_n hx hb dX8_insert_28 rfl (lv_at hl 0 rfl) ?_
        refine gX8_10 hC hH.1 0 rfl (v := .ref (ad 1)) rfl dX8_insert_29 ?_
        refine k_PVi hC LX8_75 ⟨Nat.le_of_ble_eq_true rfl, Nat.le_of_ble_eq_true rfl⟩ ⟨Nat.zero_le _, Nat.zero_le _⟩ (cL_isFull l E (fun j => ad (1 + j)) q0_letters.1 q0_letters.2.1 q0_letters.2.2.1 q0_letters.2.2.2.1 q0_letters.2.2.2.2.1 q0_letters.2.2.2.2.2 _ rfl) rfl rfl (ss_letters hH.1) rfl rfl hl.1 rfl (Nat.le_of_ble_eq_true rfl) rfl dX8_insert_32 (fun hz32 => ?_)
        refine lv_if_eq (tgt := 46) hx hb dX8_insert_35 (by decide) (fun c4 => ?_) (fun c4 => ?_)
        · have hf := ite_t hf c4
          refine lv_aload_n hx hb dX8_insert_46 rfl (lv_at hl 0 rfl) ?_
          refine gX8_25 hC hH.1 0 rfl (v := .ref (ad 7)) rfl dX8_insert_47 ?_
          refine lv_aload_n hx hb dX8_insert_50 rfl (lv_at hl 0 rfl) ?_
          refine gX8_10 hC hH.1 0 rfl (v := .ref (ad 1)) rfl dX8_insert_51 ?_
          obtain ⟨t5, ht5, hf⟩ := ob hf
          refine k_WVpv hC LX8_83 ⟨Nat.le_of_ble_eq_true rfl, Nat.le_of_ble_eq_true rfl⟩ ⟨Nat.zero_le _, Nat.zero_le _⟩ (cP_keep l E (fun j => ad (7 + j)) q0_past.1 q0_past.2.1 q0_past.2.2 (fun j => ad (1 + j)) q0_letters.1 q0_letters.2.1 q0_letters.2.2.1 q0_letters.2.2.2.1 q0_letters.2.2.2.2.1 q0_letters.2.2.2.2.2 t5 ht5) rfl rfl hH (W1 := wS E ad q0_letters q0_trial q0_snapshot q0_isSaved (t5.1, t5.2.1, t5.2.2) q0_rows q0_bags q0_tally q0_sizes q0_text q0_line q0_latestReason q0_latestDetail) (sp_past_letters E ad q0_letters q0_trial q0_snapshot q0_isSaved q0_past q0_rows q0_bags q0_tally q0_sizes q0_text q0_line q0_latestReason q0_latestDetail) (sq_past_letters E ad q0_letters q0_trial q0_snapshot q0_isSaved q0_past q0_rows q0_bags q0_tally q0_sizes q0_text q0_line q0_latestReason q0_latestDetail t5.1 t5.2.1 t5.2.2 q0_letters.1 q0_letters.2.1 q0_letters.2.2.1 q0_letters.2.2.2.1 q0_letters.2.2.2.2.1 q0_letters.2.2.2.2.2) rfl rfl rfl hl.1 rfl (Nat.le_of_ble_eq_true rfl) rfl dX8_insert_54 (fun H locs hz54 hH => ?_)
          refine lv_aload_n hx hb dX8_insert_57 rfl (lv_at hl 0 rfl) ?_
          refine gX8_10 hC hH.1 0 rfl (v := .ref (ad 1)) rfl dX8_insert_58 ?_
          refine lv_iload_n hx hb dX8_insert_61 rfl (lv_at hl 1 rfl) ?_
          refine lv_iload_n hx hb dX8_insert_62 rfl (lv_at hl 2 rfl) ?_
          obtain ⟨t6, ht6, hf⟩ := ob hf
          refine k_WVpi hC LX8_91 ⟨Nat.le_of_ble_eq_true rfl, Nat.le_of_ble_eq_true rfl⟩ ⟨Nat.zero_le _, Nat.zero_le _⟩ (cL_come l E (fun j => ad (1 + j)) q0_letters.1 q0_letters.2.1 q0_letters.2.2.1 q0_letters.2.2.2.1 q0_letters.2.2.2.2.1 q0_letters.2.2.2.2.2 a1 a2 t6 ht6) rfl rfl hH (W1 := wS E ad (t6.2.1, t6.2.2.1, q0_letters.2.2.1, t6.2.2.2, q0_letters.2.2.2.2) q0_trial q0_snapshot q0_isSaved (t5.1, t5.2.1, t5.2.2) q0_rows q0_bags q0_tally q0_sizes q0_text q0_line q0_latestReason q0_latestDetail) (sp_letters E ad q0_letters q0_trial q0_snapshot q0_isSaved (t5.1, t5.2.1, t5.2.2) q0_rows q0_bags q0_tally q0_sizes q0_text q0_line q0_latestReason q0_latestDetail) (sq_letters E ad q0_letters q0_trial q0_snapshot q0_isSaved (t5.1, t5.2.1, t5.2.2) q0_rows q0_bags q0_tally q0_sizes q0_text q0_line q0_latestReason q0_latestDetail t6.2.1 t6.2.2.1 q0_letters.2.2.1 t6.2.2.2 q0_letters.2.2.2.2.1 q0_letters.2.2.2.2.2) rfl rfl rfl hl.1 rfl (Nat.le_of_ble_eq_true rfl) rfl dX8_insert_63 (fun H locs hz63 hH => ?_)
          refine lv_pop hx hb dX8_insert_66 rfl ?_
          refine lv_aload_n hx hb dX8_insert_67 rfl (lv_at hl 0 rfl) ?_
          obtain ⟨t7, ht7, hf⟩ := ob hf
          refine k_WVsv hC LX8_95 ⟨Nat.le_of_ble_eq_true rfl, Nat.le_of_ble_eq_true rfl⟩ ⟨Nat.zero_le _, Nat.zero_le _⟩ (cS_follow l E ad (t6.2.1, t6.2.2.1, q0_letters.2.2.1, t6.2.2.2, q0_letters.2.2.2.2) q0_trial q0_snapshot q0_isSaved (t5.1, t5.2.1, t5.2.2) q0_rows q0_bags q0_tally q0_sizes q0_text q0_line q0_latestReason q0_latestDetail t7 ht7) rfl rfl hH rfl rfl rfl hl.1 rfl (Nat.le_of_ble_eq_true rfl) rfl dX8_insert_68 (fun H locs hz68 hH => ?_)
          have hH : Hp E (adr (wS E ad q0_letters q0_trial q0_snapshot q0_isSaved q0_past q0_rows q0_bags q0_tally q0_sizes q0_text q0_line q0_latestReason q0_latestDetail)) (wS E ad (t6.2.1, t6.2.2.1, q0_letters.2.2.1, t6.2.2.2, q0_letters.2.2.2.2) q0_trial q0_snapshot q0_isSaved (t5.1, t5.2.1, t5.2.2) t7.1 t7.2 q0_tally q0_sizes q0_text q0_line q0_latestReason q0_latestDetail) s.heap H locs := hH
          refine lv_aload_n hx hb dX8_insert_71 rfl (lv_at hl 0 rfl) ?_
          refine gX8_10 hC hH.1 0 rfl (v := .ref (ad 1)) rfl dX8_insert_72 ?_
          refine k_PVi hC LX8_87 ⟨Nat.le_of_ble_eq_true rfl, Nat.le_of_ble_eq_true rfl⟩ ⟨Nat.zero_le _, Nat.zero_le _⟩ (cL_size l E (fun j => ad (1 + j)) t6.2.1 t6.2.2.1 q0_letters.2.2.1 t6.2.2.2 q0_letters.2.2.2.2.1 q0_letters.2.2.2.2.2 _ rfl) rfl rfl (ss_letters hH.1) rfl rfl hl.1 rfl (Nat.le_of_ble_eq_true rfl) rfl dX8_insert_75 (fun hz75 => ?_)
          have hf := Option.some.inj hf
          subst hf
          exact e_Wi hC hH hr hlocks rfl rfl dX8_insert_78
        · have hf := ite_f hf c4
          refine lv_aload_n hx hb dX8_insert_38 rfl (lv_at hl 0 rfl) ?_
          refine lv_iconst (v := 1) hx hb dX8_insert_39 (by decide) ?_
          refine lv_bipush (v := 64) hx hb dX8_insert_40 (by decide) ?_
          obtain ⟨t8, ht8, hf⟩ := ob hf
          refine k_WVsi hC LX8_79 ⟨Nat.le_of_ble_eq_true rfl, Nat.le_of_ble_eq_true rfl⟩ ⟨Nat.zero_le _, Nat.zero_le _⟩ (cS_refuse l E ad q0_letters q0_trial q0_snapshot q0_isSaved q0_past q0_rows q0_bags q0_tally q0_sizes q0_text q0_line q0_latestReason q0_latestDetail (1 : Int32) (64 : Int32) t8 ht8) rfl rfl hH rfl rfl rfl hl.1 rfl (Nat.le_of_ble_eq_true rfl) rfl dX8_insert_42 (fun H locs hz42 hH => ?_)
          have hH : Hp E (adr (wS E ad q0_letters q0_trial q0_snapshot q0_isSaved q0_past q0_rows q0_bags q0_tally q0_sizes q0_text q0_line q0_latestReason q0_latestDetail)) (wS E ad q0_letters q0_trial q0_snapshot q0_isSaved q0_past q0_rows q0_bags q0_tally q0_sizes q0_text q0_line t8.2.1 t8.2.2) s.heap H locs := hH
          have hf := Option.some.inj hf
          subst hf
          exact e_Wi hC hH hr hlocks rfl rfl dX8_insert_45
      · have hf := ite_t hf c3
        refine lv_bipush (v := (-12)) hx hb dX8_insert_25 (by decide) ?_
        have hf := Option.some.inj hf
        subst hf
        exact e_Wi hC hH hr hlocks rfl rfl dX8_insert_27
    · have hf := ite_f hf c2
      refine lv_bipush (v := (-11)) hx hb dX8_insert_15 (by decide) ?_
      have hf := Option.some.inj hf
      subst hf
      exact e_Wi hC hH hr hlocks rfl rfl dX8_insert_17
abbrev rmS_take : Room := { frames := 5, cells := 0, slots := 0, locals := 111 }
set_option maxHeartbeats 4000000 in
set_option maxRecDepth 100000 in
theorem cS_take (l : Launch) (E : eE) (ad : Nat → Nat) (q0_letters : TL) (q0_trial : TL) (q0_snapshot : TL) (q0_isSaved : Int32) (q0_past : TP) (q0_rows : TR) (q0_bags : TB) (q0_tally : TY) (q0_sizes : TZ) (q0_text : TT) (q0_line : TN) (q0_latestReason : Int32) (q0_latestDetail : Int32) (a1 : Int32) (t : Int32 × TL × TP × TR × TB) (hf : fS_take q0_letters q0_past q0_rows q0_bags a1 = some t) : cW l E yX8_take cX8_take 3 (some .int) rmS_take [.ref (ad 0), .int a1] (wS E ad q0_letters q0_trial q0_snapshot q0_isSaved q0_past q0_rows q0_bags q0_tally q0_sizes q0_text q0_line q0_latestReason q0_latestDetail) (some (.int t.1)) (wS E ad t.2.1 q0_trial q0_snapshot q0_isSaved t.2.2.1 t.2.2.2.1 t.2.2.2.2 q0_tally q0_sizes q0_text q0_line q0_latestReason q0_latestDetail) := by
  refine Met.ofW (cc := cX8_take) (maxL := 3) (ret := (some .int)) (by decide) rfl ?_
  intro p e s m args below meth c s₁ B hml hv
  obtain ⟨hargs, hP, hK, hD0⟩ := hv
  have hx := B.exec
  have hb := B.bytes
  have hr := B.returns
  have hts := atoms_spec (ws := ws_ yX8_take cX8_take 3 (some .int)) B.pre
  have hta : ∀ w ∈ lw_all, w.before args s = true := fun w h => hts w (List.mem_cons_of_mem _ h)
  have hown : s.vm.findClass RX8 = some m.cls := findClass_of_methodNamed B.named
  have hlocks := B.notSynchronized
  have hC : Cx p s m args c cX8_take 3 RX8 E := ⟨hx, hb, hml, hown, hta, hK⟩
  have hH : Hp E (adr (wS E ad q0_letters q0_trial q0_snapshot q0_isSaved q0_past q0_rows q0_bags q0_tally q0_sizes q0_text q0_line q0_latestReason q0_latestDetail)) (wS E ad q0_letters q0_trial q0_snapshot q0_isSaved q0_past q0_rows q0_bags q0_tally q0_sizes q0_text q0_line q0_latestReason q0_latestDetail) s.heap s.heap [] := Hp.start hP hD0
  obtain ⟨ls, he, hl⟩ := entry_ (m := m) (n := 3) hargs (Nat.le_of_ble_eq_true rfl)
  rw [he]
  have hl : lv_has ls 3 [(0, .ref (ad 0)), (1, .int a1)] := hl
  show W p l e rmS_take s m args below meth c s.heap [] 0 0 (MQ below (qW E (some .int) (some (.int t.1)) (wS E ad q0_letters q0_trial q0_snapshot q0_isSaved q0_past q0_rows q0_bags q0_tally q0_sizes q0_text q0_line q0_latestReason q0_latestDetail) (wS E ad t.2.1 q0_trial q0_snapshot q0_isSaved t.2.2.1 t.2.2.2.1 t.2.2.2.2 q0_tally q0_sizes q0_text q0_line q0_latestReason q0_latestDetail)) args s 0 0 (adr (wS E ad q0_letters q0_trial q0_snapshot q0_isSaved q0_past q0_rows q0_bags q0_tally q0_sizes q0_text q0_line q0_latestReason q0_latestDetail))) (F0 m 0 ls [])
  suffices hmain : ∀ (H : Heap) (locs : List Loc), Hp E (adr (wS E ad q0_letters q0_trial q0_snapshot q0_isSaved q0_past q0_rows q0_bags q0_tally q0_sizes q0_text q0_line q0_latestReason q0_latestDetail)) (wS E ad q0_letters q0_trial q0_snapshot q0_isSaved q0_past q0_rows q0_bags q0_tally q0_sizes q0_text q0_line q0_latestReason q0_latestDetail) s.heap H locs → W p l e rmS_take s m args below meth c H locs 0 0 (MQ below (qW E (some .int) (some (.int t.1)) (wS E ad q0_letters q0_trial q0_snapshot q0_isSaved q0_past q0_rows q0_bags q0_tally q0_sizes q0_text q0_line q0_latestReason q0_latestDetail) (wS E ad t.2.1 q0_trial q0_snapshot q0_isSaved t.2.2.1 t.2.2.2.1 t.2.2.2.2 q0_tally q0_sizes q0_text q0_line q0_latestReason q0_latestDetail)) args s 0 0 (adr (wS E ad q0_letters q0_trial q0_snapshot q0_isSaved q0_past q0_rows q0_bags q0_tally q0_sizes q0_text q0_line q0_latestReason q0_latestDetail))) (F0 m 0 ls []) from hmain _ _ hH
  clear hH
  intro H locs hH
  rw [fS_take] at hf
  refine lv_aload_n hx hb dX8_take_0 rfl (lv_at hl 0 rfl) ?_
  refine gX8_10 hC hH.1 0 rfl (v := .ref (ad 1)) rfl dX8_take_1 ?_
  refine lv_iload_n hx hb dX8_take_4 rfl (lv_at hl 1 rfl) ?_
  refine k_PVi hC LX8_98 ⟨Nat.le_of_ble_eq_true rfl, Nat.le_of_ble_eq_true rfl⟩ ⟨Nat.zero_le _, Nat.zero_le _⟩ (cL_has l E (fun j => ad (1 + j)) q0_letters.1 q0_letters.2.1 q0_letters.2.2.1 q0_letters.2.2.2.1 q0_letters.2.2.2.2.1 q0_letters.2.2.2.2.2 a1 _ rfl) rfl rfl (ss_letters hH.1) rfl rfl hl.1 rfl (Nat.le_of_ble_eq_true rfl) rfl dX8_take_5 (fun hz5 => ?_)
  refine lv_if_ne (tgt := 14) hx hb dX8_take_8 (by decide) (fun c1 => ?_) (fun c1 => ?_)
  · have hf := ite_f hf c1
    refine lv_aload_n hx hb dX8_take_14 rfl (lv_at hl 0 rfl) ?_
    refine gX8_10 hC hH.1 0 rfl (v := .ref (ad 1)) rfl dX8_take_15 ?_
    refine lv_iload_n hx hb dX8_take_18 rfl (lv_at hl 1 rfl) ?_
    obtain ⟨t2, ht2, hf⟩ := ob hf
    refine k_PVi hC LX8_101 ⟨Nat.le_of_ble_eq_true rfl, Nat.le_of_ble_eq_true rfl⟩ ⟨Nat.zero_le _, Nat.zero_le _⟩ (cL_at l E (fun j => ad (1 + j)) q0_letters.1 q0_letters.2.1 q0_letters.2.2.1 q0_letters.2.2.2.1 q0_letters.2.2.2.2.1 q0_letters.2.2.2.2.2 a1 t2 ht2) rfl rfl (ss_letters hH.1) rfl rfl hl.1 rfl (Nat.le_of_ble_eq_true rfl) rfl dX8_take_19 (fun hz19 => ?_)
    refine lv_istore_n (lv' := [(2, .int t2), (0, .ref (ad 0)), (1, .int a1)]) hx hb dX8_take_22 rfl hl (by decide) rfl (fun ls hl => ?_)
    refine lv_aload_n hx hb dX8_take_23 rfl (lv_at hl 1 rfl) ?_
    refine gX8_25 hC hH.1 0 rfl (v := .ref (ad 7)) rfl dX8_take_24 ?_
    refine lv_aload_n hx hb dX8_take_27 rfl (lv_at hl 1 rfl) ?_
    refine gX8_10 hC hH.1 0 rfl (v := .ref (ad 1)) rfl dX8_take_28 ?_
    obtain ⟨t3, ht3, hf⟩ := ob hf
    refine k_WVpv hC LX8_83 ⟨Nat.le_of_ble_eq_true rfl, Nat.le_of_ble_eq_true rfl⟩ ⟨Nat.zero_le _, Nat.zero_le _⟩ (cP_keep l E (fun j => ad (7 + j)) q0_past.1 q0_past.2.1 q0_past.2.2 (fun j => ad (1 + j)) q0_letters.1 q0_letters.2.1 q0_letters.2.2.1 q0_letters.2.2.2.1 q0_letters.2.2.2.2.1 q0_letters.2.2.2.2.2 t3 ht3) rfl rfl hH (W1 := wS E ad q0_letters q0_trial q0_snapshot q0_isSaved (t3.1, t3.2.1, t3.2.2) q0_rows q0_bags q0_tally q0_sizes q0_text q0_line q0_latestReason q0_latestDetail) (sp_past_letters E ad q0_letters q0_trial q0_snapshot q0_isSaved q0_past q0_rows q0_bags q0_tally q0_sizes q0_text q0_line q0_latestReason q0_latestDetail) (sq_past_letters E ad q0_letters q0_trial q0_snapshot q0_isSaved q0_past q0_rows q0_bags q0_tally q0_sizes q0_text q0_line q0_latestReason q0_latestDetail t3.1 t3.2.1 t3.2.2 q0_letters.1 q0_letters.2.1 q0_letters.2.2.1 q0_letters.2.2.2.1 q0_letters.2.2.2.2.1 q0_letters.2.2.2.2.2) rfl rfl rfl hl.1 rfl (Nat.le_of_ble_eq_true rfl) rfl dX8_take_31 (fun H locs hz31 hH => ?_)
    refine lv_aload_n hx hb dX8_take_34 rfl (lv_at hl 1 rfl) ?_
    refine gX8_10 hC hH.1 0 rfl (v := .ref (ad 1)) rfl dX8_take_35 ?_
    refine lv_iload_n hx hb dX8_take_38 rfl (lv_at hl 2 rfl) ?_
    obtain ⟨t4, ht4, hf⟩ := ob hf
    refine k_WVpi hC LX8_105 ⟨Nat.le_of_ble_eq_true rfl, Nat.le_of_ble_eq_true rfl⟩ ⟨Nat.zero_le _, Nat.zero_le _⟩ (cL_leave l E (fun j => ad (1 + j)) q0_letters.1 q0_letters.2.1 q0_letters.2.2.1 q0_letters.2.2.2.1 q0_letters.2.2.2.2.1 q0_letters.2.2.2.2.2 a1 t4 ht4) rfl rfl hH (W1 := wS E ad (t4.2.1, t4.2.2.1, q0_letters.2.2.1, q0_letters.2.2.2.1, t4.2.2.2, q0_letters.2.2.2.2.2) q0_trial q0_snapshot q0_isSaved (t3.1, t3.2.1, t3.2.2) q0_rows q0_bags q0_tally q0_sizes q0_text q0_line q0_latestReason q0_latestDetail) (sp_letters E ad q0_letters q0_trial q0_snapshot q0_isSaved (t3.1, t3.2.1, t3.2.2) q0_rows q0_bags q0_tally q0_sizes q0_text q0_line q0_latestReason q0_latestDetail) (sq_letters E ad q0_letters q0_trial q0_snapshot q0_isSaved (t3.1, t3.2.1, t3.2.2) q0_rows q0_bags q0_tally q0_sizes q0_text q0_line q0_latestReason q0_latestDetail t4.2.1 t4.2.2.1 q0_letters.2.2.1 q0_letters.2.2.2.1 t4.2.2.2 q0_letters.2.2.2.2.2) rfl rfl rfl hl.1 rfl (Nat.le_of_ble_eq_true rfl) rfl dX8_take_39 (fun H locs hz39 hH => ?_)
    refine lv_pop hx hb dX8_take_42 rfl ?_
    refine lv_aload_n hx hb dX8_take_43 rfl (lv_at hl 1 rfl) ?_
    obtain ⟨t5, ht5, hf⟩ := ob hf
    refine k_WVsv hC LX8_95 ⟨Nat.le_of_ble_eq_true rfl, Nat.le_of_ble_eq_true rfl⟩ ⟨Nat.zero_le _, Nat.zero_le _⟩ (cS_follow l E ad (t4.2.1, t4.2.2.1, q0_letters.2.2.1, q0_letters.2.2.2.1, t4.2.2.2, q0_letters.2.2.2.2.2) q0_trial q0_snapshot q0_isSaved (t3.1, t3.2.1, t3.2.2) q0_rows q0_bags q0_tally q0_sizes q0_text q0_line q0_latestReason q0_latestDetail t5 ht5) rfl rfl hH rfl rfl rfl hl.1 rfl (Nat.le_of_ble_eq_true rfl) rfl dX8_take_44 (fun H locs hz44 hH => ?_)
    have hH : Hp E (adr (wS E ad q0_letters q0_trial q0_snapshot q0_isSaved q0_past q0_rows q0_bags q0_tally q0_sizes q0_text q0_line q0_latestReason q0_latestDetail)) (wS E ad (t4.2.1, t4.2.2.1, q0_letters.2.2.1, q0_letters.2.2.2.1, t4.2.2.2, q0_letters.2.2.2.2.2) q0_trial q0_snapshot q0_isSaved (t3.1, t3.2.1, t3.2.2) t5.1 t5.2 q0_tally q0_sizes q0_text q0_line q0_latestReason q0_latestDetail) s.heap H locs := hH
    refine lv_iload_n hx hb dX8_take_47 rfl (lv_at hl 0 rfl) ?_
    have hf := Option.some.inj hf
    subst hf
    exact e_Wi hC hH hr hlocks rfl rfl dX8_take_48
  · have hf := ite_t hf c1
    refine lv_bipush (v := (-11)) hx hb dX8_take_11 (by decide) ?_
    have hf := Option.some.inj hf
    subst hf
    exact e_Wi hC hH hr hlocks rfl rfl dX8_take_13
abbrev rmS_swap : Room := { frames := 5, cells := 0, slots := 0, locals := 111 }
set_option maxHeartbeats 4000000 in
set_option maxRecDepth 100000 in
theorem cS_swap (l : Launch) (E : eE) (ad : Nat → Nat) (q0_letters : TL) (q0_trial : TL) (q0_snapshot : TL) (q0_isSaved : Int32) (q0_past : TP) (q0_rows : TR) (q0_bags : TB) (q0_tally : TY) (q0_sizes : TZ) (q0_text : TT) (q0_line : TN) (q0_latestReason : Int32) (q0_latestDetail : Int32) (a1 : Int32) (t : Int32 × TL × TP × TR × TB × Int32 × Int32) (hf : fS_swap q0_letters q0_past q0_rows q0_bags q0_latestReason q0_latestDetail a1 = some t) : cW l E yX8_swap cX8_swap 2 (some .int) rmS_swap [.ref (ad 0), .int a1] (wS E ad q0_letters q0_trial q0_snapshot q0_isSaved q0_past q0_rows q0_bags q0_tally q0_sizes q0_text q0_line q0_latestReason q0_latestDetail) (some (.int t.1)) (wS E ad t.2.1 q0_trial q0_snapshot q0_isSaved t.2.2.1 t.2.2.2.1 t.2.2.2.2.1 q0_tally q0_sizes q0_text q0_line t.2.2.2.2.2.1 t.2.2.2.2.2.2) := by
  refine Met.ofW (cc := cX8_swap) (maxL := 2) (ret := (some .int)) (by decide) rfl ?_
  intro p e s m args below meth c s₁ B hml hv
  obtain ⟨hargs, hP, hK, hD0⟩ := hv
  have hx := B.exec
  have hb := B.bytes
  have hr := B.returns
  have hts := atoms_spec (ws := ws_ yX8_swap cX8_swap 2 (some .int)) B.pre
  have hta : ∀ w ∈ lw_all, w.before args s = true := fun w h => hts w (List.mem_cons_of_mem _ h)
  have hown : s.vm.findClass RX8 = some m.cls := findClass_of_methodNamed B.named
  have hlocks := B.notSynchronized
  have hC : Cx p s m args c cX8_swap 2 RX8 E := ⟨hx, hb, hml, hown, hta, hK⟩
  have hH : Hp E (adr (wS E ad q0_letters q0_trial q0_snapshot q0_isSaved q0_past q0_rows q0_bags q0_tally q0_sizes q0_text q0_line q0_latestReason q0_latestDetail)) (wS E ad q0_letters q0_trial q0_snapshot q0_isSaved q0_past q0_rows q0_bags q0_tally q0_sizes q0_text q0_line q0_latestReason q0_latestDetail) s.heap s.heap [] := Hp.start hP hD0
  obtain ⟨ls, he, hl⟩ := entry_ (m := m) (n := 2) hargs (Nat.le_of_ble_eq_true rfl)
  rw [he]
  have hl : lv_has ls 2 [(0, .ref (ad 0)), (1, .int a1)] := hl
  show W p l e rmS_swap s m args below meth c s.heap [] 0 0 (MQ below (qW E (some .int) (some (.int t.1)) (wS E ad q0_letters q0_trial q0_snapshot q0_isSaved q0_past q0_rows q0_bags q0_tally q0_sizes q0_text q0_line q0_latestReason q0_latestDetail) (wS E ad t.2.1 q0_trial q0_snapshot q0_isSaved t.2.2.1 t.2.2.2.1 t.2.2.2.2.1 q0_tally q0_sizes q0_text q0_line t.2.2.2.2.2.1 t.2.2.2.2.2.2)) args s 0 0 (adr (wS E ad q0_letters q0_trial q0_snapshot q0_isSaved q0_past q0_rows q0_bags q0_tally q0_sizes q0_text q0_line q0_latestReason q0_latestDetail))) (F0 m 0 ls [])
  suffices hmain : ∀ (H : Heap) (locs : List Loc), Hp E (adr (wS E ad q0_letters q0_trial q0_snapshot q0_isSaved q0_past q0_rows q0_bags q0_tally q0_sizes q0_text q0_line q0_latestReason q0_latestDetail)) (wS E ad q0_letters q0_trial q0_snapshot q0_isSaved q0_past q0_rows q0_bags q0_tally q0_sizes q0_text q0_line q0_latestReason q0_latestDetail) s.heap H locs → W p l e rmS_swap s m args below meth c H locs 0 0 (MQ below (qW E (some .int) (some (.int t.1)) (wS E ad q0_letters q0_trial q0_snapshot q0_isSaved q0_past q0_rows q0_bags q0_tally q0_sizes q0_text q0_line q0_latestReason q0_latestDetail) (wS E ad t.2.1 q0_trial q0_snapshot q0_isSaved t.2.2.1 t.2.2.2.1 t.2.2.2.2.1 q0_tally q0_sizes q0_text q0_line t.2.2.2.2.2.1 t.2.2.2.2.2.2)) args s 0 0 (adr (wS E ad q0_letters q0_trial q0_snapshot q0_isSaved q0_past q0_rows q0_bags q0_tally q0_sizes q0_text q0_line q0_latestReason q0_latestDetail))) (F0 m 0 ls []) from hmain _ _ hH
  clear hH
  intro H locs hH
  rw [fS_swap] at hf
  refine lv_aload_n hx hb dX8_swap_0 rfl (lv_at hl 0 rfl) ?_
  refine gX8_10 hC hH.1 0 rfl (v := .ref (ad 1)) rfl dX8_swap_1 ?_
  refine lv_iload_n hx hb dX8_swap_4 rfl (lv_at hl 1 rfl) ?_
  refine k_PVi hC LX8_108 ⟨Nat.le_of_ble_eq_true rfl, Nat.le_of_ble_eq_true rfl⟩ ⟨Nat.zero_le _, Nat.zero_le _⟩ (cL_hasNext l E (fun j => ad (1 + j)) q0_letters.1 q0_letters.2.1 q0_letters.2.2.1 q0_letters.2.2.2.1 q0_letters.2.2.2.2.1 q0_letters.2.2.2.2.2 a1 _ rfl) rfl rfl (ss_letters hH.1) rfl rfl hl.1 rfl (Nat.le_of_ble_eq_true rfl) rfl dX8_swap_5 (fun hz5 => ?_)
  refine lv_if_ne (tgt := 14) hx hb dX8_swap_8 (by decide) (fun c1 => ?_) (fun c1 => ?_)
  · have hf := ite_f hf c1
    refine lv_aload_n hx hb dX8_swap_14 rfl (lv_at hl 0 rfl) ?_
    refine gX8_10 hC hH.1 0 rfl (v := .ref (ad 1)) rfl dX8_swap_15 ?_
    refine lv_iload_n hx hb dX8_swap_18 rfl (lv_at hl 1 rfl) ?_
    obtain ⟨t2, ht2, hf⟩ := ob hf
    refine k_PVi hC LX8_101 ⟨Nat.le_of_ble_eq_true rfl, Nat.le_of_ble_eq_true rfl⟩ ⟨Nat.zero_le _, Nat.zero_le _⟩ (cL_at l E (fun j => ad (1 + j)) q0_letters.1 q0_letters.2.1 q0_letters.2.2.1 q0_letters.2.2.2.1 q0_letters.2.2.2.2.1 q0_letters.2.2.2.2.2 a1 t2 ht2) rfl rfl (ss_letters hH.1) rfl rfl hl.1 rfl (Nat.le_of_ble_eq_true rfl) rfl dX8_swap_19 (fun hz19 => ?_)
    refine lv_aload_n hx hb dX8_swap_22 rfl (lv_at hl 0 rfl) ?_
    refine gX8_10 hC hH.1 0 rfl (v := .ref (ad 1)) rfl dX8_swap_23 ?_
    refine lv_iload_n hx hb dX8_swap_26 rfl (lv_at hl 1 rfl) ?_
    refine lv_iconst (v := 1) hx hb dX8_swap_27 (by decide) ?_
    refine lv_iadd hx hb dX8_swap_28 ?_
    obtain ⟨t3, ht3, hf⟩ := ob hf
    refine k_PVi hC LX8_101 ⟨Nat.le_of_ble_eq_true rfl, Nat.le_of_ble_eq_true rfl⟩ ⟨Nat.zero_le _, Nat.zero_le _⟩ (cL_at l E (fun j => ad (1 + j)) q0_letters.1 q0_letters.2.1 q0_letters.2.2.1 q0_letters.2.2.2.1 q0_letters.2.2.2.2.1 q0_letters.2.2.2.2.2 (a1 + (1 : Int32)) t3 ht3) rfl rfl (ss_letters hH.1) rfl rfl hl.1 rfl (Nat.le_of_ble_eq_true rfl) rfl dX8_swap_29 (fun hz29 => ?_)
    refine lv_icmp_ne (tgt := 49) hx hb dX8_swap_32 (by decide) (fun c4 => ?_) (fun c4 => ?_)
    · have hf := ite_f hf c4
      refine lv_aload_n hx hb dX8_swap_49 rfl (lv_at hl 0 rfl) ?_
      refine gX8_25 hC hH.1 0 rfl (v := .ref (ad 7)) rfl dX8_swap_50 ?_
      refine lv_aload_n hx hb dX8_swap_53 rfl (lv_at hl 0 rfl) ?_
      refine gX8_10 hC hH.1 0 rfl (v := .ref (ad 1)) rfl dX8_swap_54 ?_
      obtain ⟨t5, ht5, hf⟩ := ob hf
      refine k_WVpv hC LX8_83 ⟨Nat.le_of_ble_eq_true rfl, Nat.le_of_ble_eq_true rfl⟩ ⟨Nat.zero_le _, Nat.zero_le _⟩ (cP_keep l E (fun j => ad (7 + j)) q0_past.1 q0_past.2.1 q0_past.2.2 (fun j => ad (1 + j)) q0_letters.1 q0_letters.2.1 q0_letters.2.2.1 q0_letters.2.2.2.1 q0_letters.2.2.2.2.1 q0_letters.2.2.2.2.2 t5 ht5) rfl rfl hH (W1 := wS E ad q0_letters q0_trial q0_snapshot q0_isSaved (t5.1, t5.2.1, t5.2.2) q0_rows q0_bags q0_tally q0_sizes q0_text q0_line q0_latestReason q0_latestDetail) (sp_past_letters E ad q0_letters q0_trial q0_snapshot q0_isSaved q0_past q0_rows q0_bags q0_tally q0_sizes q0_text q0_line q0_latestReason q0_latestDetail) (sq_past_letters E ad q0_letters q0_trial q0_snapshot q0_isSaved q0_past q0_rows q0_bags q0_tally q0_sizes q0_text q0_line q0_latestReason q0_latestDetail t5.1 t5.2.1 t5.2.2 q0_letters.1 q0_letters.2.1 q0_letters.2.2.1 q0_letters.2.2.2.1 q0_letters.2.2.2.2.1 q0_letters.2.2.2.2.2) rfl rfl rfl hl.1 rfl (Nat.le_of_ble_eq_true rfl) rfl dX8_swap_57 (fun H locs hz57 hH => ?_)
      refine lv_aload_n hx hb dX8_swap_60 rfl (lv_at hl 0 rfl) ?_
      refine gX8_10 hC hH.1 0 rfl (v := .ref (ad 1)) rfl dX8_swap_61 ?_
      refine lv_iload_n hx hb dX8_swap_64 rfl (lv_at hl 1 rfl) ?_
      obtain ⟨t6, ht6, hf⟩ := ob hf
      refine k_WVpi hC LX8_111 ⟨Nat.le_of_ble_eq_true rfl, Nat.le_of_ble_eq_true rfl⟩ ⟨Nat.zero_le _, Nat.zero_le _⟩ (cL_exchange l E (fun j => ad (1 + j)) q0_letters.1 q0_letters.2.1 q0_letters.2.2.1 q0_letters.2.2.2.1 q0_letters.2.2.2.2.1 q0_letters.2.2.2.2.2 a1 t6 ht6) rfl rfl hH (W1 := wS E ad (t6.2.1, q0_letters.2.1, q0_letters.2.2.1, q0_letters.2.2.2.1, q0_letters.2.2.2.2.1, t6.2.2) q0_trial q0_snapshot q0_isSaved (t5.1, t5.2.1, t5.2.2) q0_rows q0_bags q0_tally q0_sizes q0_text q0_line q0_latestReason q0_latestDetail) (sp_letters E ad q0_letters q0_trial q0_snapshot q0_isSaved (t5.1, t5.2.1, t5.2.2) q0_rows q0_bags q0_tally q0_sizes q0_text q0_line q0_latestReason q0_latestDetail) (sq_letters E ad q0_letters q0_trial q0_snapshot q0_isSaved (t5.1, t5.2.1, t5.2.2) q0_rows q0_bags q0_tally q0_sizes q0_text q0_line q0_latestReason q0_latestDetail t6.2.1 q0_letters.2.1 q0_letters.2.2.1 q0_letters.2.2.2.1 q0_letters.2.2.2.2.1 t6.2.2) rfl rfl rfl hl.1 rfl (Nat.le_of_ble_eq_true rfl) rfl dX8_swap_65 (fun H locs hz65 hH => ?_)
      refine lv_pop hx hb dX8_swap_68 rfl ?_
      refine lv_aload_n hx hb dX8_swap_69 rfl (lv_at hl 0 rfl) ?_
      obtain ⟨t7, ht7, hf⟩ := ob hf
      refine k_WVsv hC LX8_95 ⟨Nat.le_of_ble_eq_true rfl, Nat.le_of_ble_eq_true rfl⟩ ⟨Nat.zero_le _, Nat.zero_le _⟩ (cS_follow l E ad (t6.2.1, q0_letters.2.1, q0_letters.2.2.1, q0_letters.2.2.2.1, q0_letters.2.2.2.2.1, t6.2.2) q0_trial q0_snapshot q0_isSaved (t5.1, t5.2.1, t5.2.2) q0_rows q0_bags q0_tally q0_sizes q0_text q0_line q0_latestReason q0_latestDetail t7 ht7) rfl rfl hH rfl rfl rfl hl.1 rfl (Nat.le_of_ble_eq_true rfl) rfl dX8_swap_70 (fun H locs hz70 hH => ?_)
      have hH : Hp E (adr (wS E ad q0_letters q0_trial q0_snapshot q0_isSaved q0_past q0_rows q0_bags q0_tally q0_sizes q0_text q0_line q0_latestReason q0_latestDetail)) (wS E ad (t6.2.1, q0_letters.2.1, q0_letters.2.2.1, q0_letters.2.2.2.1, q0_letters.2.2.2.2.1, t6.2.2) q0_trial q0_snapshot q0_isSaved (t5.1, t5.2.1, t5.2.2) t7.1 t7.2 q0_tally q0_sizes q0_text q0_line q0_latestReason q0_latestDetail) s.heap H locs := hH
      refine lv_aload_n hx hb dX8_swap_73 rfl (lv_at hl 0 rfl) ?_
      refine gX8_10 hC hH.1 0 rfl (v := .ref (ad 1)) rfl dX8_swap_74 ?_
      refine lv_iload_n hx hb dX8_swap_77 rfl (lv_at hl 1 rfl) ?_
      obtain ⟨t8, ht8, hf⟩ := ob hf
      refine k_PVi hC LX8_101 ⟨Nat.le_of_ble_eq_true rfl, Nat.le_of_ble_eq_true rfl⟩ ⟨Nat.zero_le _, Nat.zero_le _⟩ (cL_at l E (fun j => ad (1 + j)) t6.2.1 q0_letters.2.1 q0_letters.2.2.1 q0_letters.2.2.2.1 q0_letters.2.2.2.2.1 t6.2.2 a1 t8 ht8) rfl rfl (ss_letters hH.1) rfl rfl hl.1 rfl (Nat.le_of_ble_eq_true rfl) rfl dX8_swap_78 (fun hz78 => ?_)
      have hf := Option.some.inj hf
      subst hf
      exact e_Wi hC hH hr hlocks rfl rfl dX8_swap_81
    · have hf := ite_t hf c4
      refine lv_aload_n hx hb dX8_swap_35 rfl (lv_at hl 0 rfl) ?_
      refine lv_iconst (v := 2) hx hb dX8_swap_36 (by decide) ?_
      refine lv_aload_n hx hb dX8_swap_37 rfl (lv_at hl 0 rfl) ?_
      refine gX8_10 hC hH.1 0 rfl (v := .ref (ad 1)) rfl dX8_swap_38 ?_
      refine lv_iload_n hx hb dX8_swap_41 rfl (lv_at hl 1 rfl) ?_
      obtain ⟨t9, ht9, hf⟩ := ob hf
      refine k_PVi hC LX8_101 ⟨Nat.le_of_ble_eq_true rfl, Nat.le_of_ble_eq_true rfl⟩ ⟨Nat.zero_le _, Nat.zero_le _⟩ (cL_at l E (fun j => ad (1 + j)) q0_letters.1 q0_letters.2.1 q0_letters.2.2.1 q0_letters.2.2.2.1 q0_letters.2.2.2.2.1 q0_letters.2.2.2.2.2 a1 t9 ht9) rfl rfl (ss_letters hH.1) rfl rfl hl.1 rfl (Nat.le_of_ble_eq_true rfl) rfl dX8_swap_42 (fun hz42 => ?_)
      obtain ⟨t10, ht10, hf⟩ := ob hf
      refine k_WVsi hC LX8_79 ⟨Nat.le_of_ble_eq_true rfl, Nat.le_of_ble_eq_true rfl⟩ ⟨Nat.zero_le _, Nat.zero_le _⟩ (cS_refuse l E ad q0_letters q0_trial q0_snapshot q0_isSaved q0_past q0_rows q0_bags q0_tally q0_sizes q0_text q0_line q0_latestReason q0_latestDetail (2 : Int32) t9 t10 ht10) rfl rfl hH rfl rfl rfl hl.1 rfl (Nat.le_of_ble_eq_true rfl) rfl dX8_swap_45 (fun H locs hz45 hH => ?_)
      have hH : Hp E (adr (wS E ad q0_letters q0_trial q0_snapshot q0_isSaved q0_past q0_rows q0_bags q0_tally q0_sizes q0_text q0_line q0_latestReason q0_latestDetail)) (wS E ad q0_letters q0_trial q0_snapshot q0_isSaved q0_past q0_rows q0_bags q0_tally q0_sizes q0_text q0_line t10.2.1 t10.2.2) s.heap H locs := hH
      have hf := Option.some.inj hf
      subst hf
      exact e_Wi hC hH hr hlocks rfl rfl dX8_swap_48
  · have hf := ite_t hf c1
    refine lv_bipush (v := (-11)) hx hb dX8_swap_11 (by decide) ?_
    have hf := Option.some.inj hf
    subst hf
    exact e_Wi hC hH hr hlocks rfl rfl dX8_swap_13
abbrev rmS_mark : Room := { frames := 5, cells := 0, slots := 0, locals := 111 }
set_option maxHeartbeats 4000000 in
set_option maxRecDepth 100000 in
theorem cS_mark (l : Launch) (E : eE) (ad : Nat → Nat) (q0_letters : TL) (q0_trial : TL) (q0_snapshot : TL) (q0_isSaved : Int32) (q0_past : TP) (q0_rows : TR) (q0_bags : TB) (q0_tally : TY) (q0_sizes : TZ) (q0_text : TT) (q0_line : TN) (q0_latestReason : Int32) (q0_latestDetail : Int32) (a1 : Int32) (a2 : Int32) (t : Int32 × TL × TP × TR × TB × Int32 × Int32) (hf : fS_mark q0_letters q0_past q0_rows q0_bags q0_latestReason q0_latestDetail a1 a2 = some t) : cW l E yX8_mark cX8_mark 3 (some .int) rmS_mark [.ref (ad 0), .int a1, .int a2] (wS E ad q0_letters q0_trial q0_snapshot q0_isSaved q0_past q0_rows q0_bags q0_tally q0_sizes q0_text q0_line q0_latestReason q0_latestDetail) (some (.int t.1)) (wS E ad t.2.1 q0_trial q0_snapshot q0_isSaved t.2.2.1 t.2.2.2.1 t.2.2.2.2.1 q0_tally q0_sizes q0_text q0_line t.2.2.2.2.2.1 t.2.2.2.2.2.2) := by
  refine Met.ofW (cc := cX8_mark) (maxL := 3) (ret := (some .int)) (by decide) rfl ?_
  intro p e s m args below meth c s₁ B hml hv
  obtain ⟨hargs, hP, hK, hD0⟩ := hv
  have hx := B.exec
  have hb := B.bytes
  have hr := B.returns
  have hts := atoms_spec (ws := ws_ yX8_mark cX8_mark 3 (some .int)) B.pre
  have hta : ∀ w ∈ lw_all, w.before args s = true := fun w h => hts w (List.mem_cons_of_mem _ h)
  have hown : s.vm.findClass RX8 = some m.cls := findClass_of_methodNamed B.named
  have hlocks := B.notSynchronized
  have hC : Cx p s m args c cX8_mark 3 RX8 E := ⟨hx, hb, hml, hown, hta, hK⟩
  have hH : Hp E (adr (wS E ad q0_letters q0_trial q0_snapshot q0_isSaved q0_past q0_rows q0_bags q0_tally q0_sizes q0_text q0_line q0_latestReason q0_latestDetail)) (wS E ad q0_letters q0_trial q0_snapshot q0_isSaved q0_past q0_rows q0_bags q0_tally q0_sizes q0_text q0_line q0_latestReason q0_latestDetail) s.heap s.heap [] := Hp.start hP hD0
  obtain ⟨ls, he, hl⟩ := entry_ (m := m) (n := 3) hargs (Nat.le_of_ble_eq_true rfl)
  rw [he]
  have hl : lv_has ls 3 [(0, .ref (ad 0)), (1, .int a1), (2, .int a2)] := hl
  show W p l e rmS_mark s m args below meth c s.heap [] 0 0 (MQ below (qW E (some .int) (some (.int t.1)) (wS E ad q0_letters q0_trial q0_snapshot q0_isSaved q0_past q0_rows q0_bags q0_tally q0_sizes q0_text q0_line q0_latestReason q0_latestDetail) (wS E ad t.2.1 q0_trial q0_snapshot q0_isSaved t.2.2.1 t.2.2.2.1 t.2.2.2.2.1 q0_tally q0_sizes q0_text q0_line t.2.2.2.2.2.1 t.2.2.2.2.2.2)) args s 0 0 (adr (wS E ad q0_letters q0_trial q0_snapshot q0_isSaved q0_past q0_rows q0_bags q0_tally q0_sizes q0_text q0_line q0_latestReason q0_latestDetail))) (F0 m 0 ls [])
  suffices hmain : ∀ (H : Heap) (locs : List Loc), Hp E (adr (wS E ad q0_letters q0_trial q0_snapshot q0_isSaved q0_past q0_rows q0_bags q0_tally q0_sizes q0_text q0_line q0_latestReason q0_latestDetail)) (wS E ad q0_letters q0_trial q0_snapshot q0_isSaved q0_past q0_rows q0_bags q0_tally q0_sizes q0_text q0_line q0_latestReason q0_latestDetail) s.heap H locs → W p l e rmS_mark s m args below meth c H locs 0 0 (MQ below (qW E (some .int) (some (.int t.1)) (wS E ad q0_letters q0_trial q0_snapshot q0_isSaved q0_past q0_rows q0_bags q0_tally q0_sizes q0_text q0_line q0_latestReason q0_latestDetail) (wS E ad t.2.1 q0_trial q0_snapshot q0_isSaved t.2.2.1 t.2.2.2.1 t.2.2.2.2.1 q0_tally q0_sizes q0_text q0_line t.2.2.2.2.2.1 t.2.2.2.2.2.2)) args s 0 0 (adr (wS E ad q0_letters q0_trial q0_snapshot q0_isSaved q0_past q0_rows q0_bags q0_tally q0_sizes q0_text q0_line q0_latestReason q0_latestDetail))) (F0 m 0 ls []) from hmain _ _ hH
  clear hH
  intro H locs hH
  rw [fS_mark] at hf
  refine lv_iload_n hx hb dX8_mark_0 rfl (lv_at hl 1 rfl) ?_
  refine k_PSi hC LX8_114 ⟨Nat.le_of_ble_eq_true rfl, Nat.le_of_ble_eq_true rfl⟩ ⟨Nat.zero_le _, Nat.zero_le _⟩ (cS_isMarkPlace l E a1 _ rfl) rfl rfl (vP_nil) hl.1 rfl (Nat.le_of_ble_eq_true rfl) rfl dX8_mark_1 (fun hz1 => ?_)
  refine lv_if_ne (tgt := 10) hx hb dX8_mark_4 (by decide) (fun c1 => ?_) (fun c1 => ?_)
  · have hf := ite_f hf c1
    refine lv_aload_n hx hb dX8_mark_10 rfl (lv_at hl 0 rfl) ?_
    refine gX8_10 hC hH.1 0 rfl (v := .ref (ad 1)) rfl dX8_mark_11 ?_
    refine lv_iload_n hx hb dX8_mark_14 rfl (lv_at hl 1 rfl) ?_
    refine k_PVi hC LX8_117 ⟨Nat.le_of_ble_eq_true rfl, Nat.le_of_ble_eq_true rfl⟩ ⟨Nat.zero_le _, Nat.zero_le _⟩ (cL_isMarkedAt l E (fun j => ad (1 + j)) q0_letters.1 q0_letters.2.1 q0_letters.2.2.1 q0_letters.2.2.2.1 q0_letters.2.2.2.2.1 q0_letters.2.2.2.2.2 a1 _ rfl) rfl rfl (ss_letters hH.1) rfl rfl hl.1 rfl (Nat.le_of_ble_eq_true rfl) rfl dX8_mark_15 (fun hz15 => ?_)
    refine lv_iload_n hx hb dX8_mark_18 rfl (lv_at hl 2 rfl) ?_
    refine lv_icmp_ne (tgt := 29) hx hb dX8_mark_19 (by decide) (fun c2 => ?_) (fun c2 => ?_)
    · have hf := ite_f hf c2
      refine lv_aload_n hx hb dX8_mark_29 rfl (lv_at hl 0 rfl) ?_
      refine gX8_25 hC hH.1 0 rfl (v := .ref (ad 7)) rfl dX8_mark_30 ?_
      refine lv_aload_n hx hb dX8_mark_33 rfl (lv_at hl 0 rfl) ?_
      refine gX8_10 hC hH.1 0 rfl (v := .ref (ad 1)) rfl dX8_mark_34 ?_
      obtain ⟨t3, ht3, hf⟩ := ob hf
      refine k_WVpv hC LX8_83 ⟨Nat.le_of_ble_eq_true rfl, Nat.le_of_ble_eq_true rfl⟩ ⟨Nat.zero_le _, Nat.zero_le _⟩ (cP_keep l E (fun j => ad (7 + j)) q0_past.1 q0_past.2.1 q0_past.2.2 (fun j => ad (1 + j)) q0_letters.1 q0_letters.2.1 q0_letters.2.2.1 q0_letters.2.2.2.1 q0_letters.2.2.2.2.1 q0_letters.2.2.2.2.2 t3 ht3) rfl rfl hH (W1 := wS E ad q0_letters q0_trial q0_snapshot q0_isSaved (t3.1, t3.2.1, t3.2.2) q0_rows q0_bags q0_tally q0_sizes q0_text q0_line q0_latestReason q0_latestDetail) (sp_past_letters E ad q0_letters q0_trial q0_snapshot q0_isSaved q0_past q0_rows q0_bags q0_tally q0_sizes q0_text q0_line q0_latestReason q0_latestDetail) (sq_past_letters E ad q0_letters q0_trial q0_snapshot q0_isSaved q0_past q0_rows q0_bags q0_tally q0_sizes q0_text q0_line q0_latestReason q0_latestDetail t3.1 t3.2.1 t3.2.2 q0_letters.1 q0_letters.2.1 q0_letters.2.2.1 q0_letters.2.2.2.1 q0_letters.2.2.2.2.1 q0_letters.2.2.2.2.2) rfl rfl rfl hl.1 rfl (Nat.le_of_ble_eq_true rfl) rfl dX8_mark_37 (fun H locs hz37 hH => ?_)
      refine lv_aload_n hx hb dX8_mark_40 rfl (lv_at hl 0 rfl) ?_
      refine gX8_10 hC hH.1 0 rfl (v := .ref (ad 1)) rfl dX8_mark_41 ?_
      refine lv_iload_n hx hb dX8_mark_44 rfl (lv_at hl 1 rfl) ?_
      refine lv_iload_n hx hb dX8_mark_45 rfl (lv_at hl 2 rfl) ?_
      obtain ⟨t4, ht4, hf⟩ := ob hf
      refine k_WVpi hC LX8_120 ⟨Nat.le_of_ble_eq_true rfl, Nat.le_of_ble_eq_true rfl⟩ ⟨Nat.zero_le _, Nat.zero_le _⟩ (cL_setMark l E (fun j => ad (1 + j)) q0_letters.1 q0_letters.2.1 q0_letters.2.2.1 q0_letters.2.2.2.1 q0_letters.2.2.2.2.1 q0_letters.2.2.2.2.2 a1 a2 t4 ht4) rfl rfl hH (W1 := wS E ad (q0_letters.1, q0_letters.2.1, t4.2, q0_letters.2.2.2) q0_trial q0_snapshot q0_isSaved (t3.1, t3.2.1, t3.2.2) q0_rows q0_bags q0_tally q0_sizes q0_text q0_line q0_latestReason q0_latestDetail) (sp_letters E ad q0_letters q0_trial q0_snapshot q0_isSaved (t3.1, t3.2.1, t3.2.2) q0_rows q0_bags q0_tally q0_sizes q0_text q0_line q0_latestReason q0_latestDetail) (sq_letters E ad q0_letters q0_trial q0_snapshot q0_isSaved (t3.1, t3.2.1, t3.2.2) q0_rows q0_bags q0_tally q0_sizes q0_text q0_line q0_latestReason q0_latestDetail q0_letters.1 q0_letters.2.1 t4.2 q0_letters.2.2.2.1 q0_letters.2.2.2.2.1 q0_letters.2.2.2.2.2) rfl rfl rfl hl.1 rfl (Nat.le_of_ble_eq_true rfl) rfl dX8_mark_46 (fun H locs hz46 hH => ?_)
      refine lv_pop hx hb dX8_mark_49 rfl ?_
      refine lv_aload_n hx hb dX8_mark_50 rfl (lv_at hl 0 rfl) ?_
      obtain ⟨t5, ht5, hf⟩ := ob hf
      refine k_WVsv hC LX8_95 ⟨Nat.le_of_ble_eq_true rfl, Nat.le_of_ble_eq_true rfl⟩ ⟨Nat.zero_le _, Nat.zero_le _⟩ (cS_follow l E ad (q0_letters.1, q0_letters.2.1, t4.2, q0_letters.2.2.2) q0_trial q0_snapshot q0_isSaved (t3.1, t3.2.1, t3.2.2) q0_rows q0_bags q0_tally q0_sizes q0_text q0_line q0_latestReason q0_latestDetail t5 ht5) rfl rfl hH rfl rfl rfl hl.1 rfl (Nat.le_of_ble_eq_true rfl) rfl dX8_mark_51 (fun H locs hz51 hH => ?_)
      have hH : Hp E (adr (wS E ad q0_letters q0_trial q0_snapshot q0_isSaved q0_past q0_rows q0_bags q0_tally q0_sizes q0_text q0_line q0_latestReason q0_latestDetail)) (wS E ad (q0_letters.1, q0_letters.2.1, t4.2, q0_letters.2.2.2) q0_trial q0_snapshot q0_isSaved (t3.1, t3.2.1, t3.2.2) t5.1 t5.2 q0_tally q0_sizes q0_text q0_line q0_latestReason q0_latestDetail) s.heap H locs := hH
      refine lv_aload_n hx hb dX8_mark_54 rfl (lv_at hl 0 rfl) ?_
      refine gX8_10 hC hH.1 0 rfl (v := .ref (ad 1)) rfl dX8_mark_55 ?_
      refine k_PVi hC LX8_124 ⟨Nat.le_of_ble_eq_true rfl, Nat.le_of_ble_eq_true rfl⟩ ⟨Nat.zero_le _, Nat.zero_le _⟩ (cL_marked l E (fun j => ad (1 + j)) q0_letters.1 q0_letters.2.1 t4.2 q0_letters.2.2.2.1 q0_letters.2.2.2.2.1 q0_letters.2.2.2.2.2 _ rfl) rfl rfl (ss_letters hH.1) rfl rfl hl.1 rfl (Nat.le_of_ble_eq_true rfl) rfl dX8_mark_58 (fun hz58 => ?_)
      have hf := Option.some.inj hf
      subst hf
      exact e_Wi hC hH hr hlocks rfl rfl dX8_mark_61
    · have hf := ite_t hf c2
      refine lv_aload_n hx hb dX8_mark_22 rfl (lv_at hl 0 rfl) ?_
      refine lv_iconst (v := 3) hx hb dX8_mark_23 (by decide) ?_
      refine lv_iload_n hx hb dX8_mark_24 rfl (lv_at hl 1 rfl) ?_
      obtain ⟨t6, ht6, hf⟩ := ob hf
      refine k_WVsi hC LX8_79 ⟨Nat.le_of_ble_eq_true rfl, Nat.le_of_ble_eq_true rfl⟩ ⟨Nat.zero_le _, Nat.zero_le _⟩ (cS_refuse l E ad q0_letters q0_trial q0_snapshot q0_isSaved q0_past q0_rows q0_bags q0_tally q0_sizes q0_text q0_line q0_latestReason q0_latestDetail (3 : Int32) a1 t6 ht6) rfl rfl hH rfl rfl rfl hl.1 rfl (Nat.le_of_ble_eq_true rfl) rfl dX8_mark_25 (fun H locs hz25 hH => ?_)
      have hH : Hp E (adr (wS E ad q0_letters q0_trial q0_snapshot q0_isSaved q0_past q0_rows q0_bags q0_tally q0_sizes q0_text q0_line q0_latestReason q0_latestDetail)) (wS E ad q0_letters q0_trial q0_snapshot q0_isSaved q0_past q0_rows q0_bags q0_tally q0_sizes q0_text q0_line t6.2.1 t6.2.2) s.heap H locs := hH
      have hf := Option.some.inj hf
      subst hf
      exact e_Wi hC hH hr hlocks rfl rfl dX8_mark_28
  · have hf := ite_t hf c1
    refine lv_bipush (v := (-11)) hx hb dX8_mark_7 (by decide) ?_
    have hf := Option.some.inj hf
    subst hf
    exact e_Wi hC hH hr hlocks rfl rfl dX8_mark_9
abbrev rmS_weight : Room := { frames := 1, cells := 0, slots := 0, locals := 21 }
set_option maxHeartbeats 4000000 in
set_option maxRecDepth 100000 in
theorem cS_weight (l : Launch) (E : eE) (ad : Nat → Nat) (q0_letters : TL) (q0_trial : TL) (q0_snapshot : TL) (q0_isSaved : Int32) (q0_past : TP) (q0_rows : TR) (q0_bags : TB) (q0_tally : TY) (q0_sizes : TZ) (q0_text : TT) (q0_line : TN) (q0_latestReason : Int32) (q0_latestDetail : Int32) (a1 : Int32) (r : Int32) (hf : fS_weight q0_letters a1 = some r) : cP l E yX8_weight cX8_weight 2 (some .int) rmS_weight [.ref (ad 0), .int a1] (wS E ad q0_letters q0_trial q0_snapshot q0_isSaved q0_past q0_rows q0_bags q0_tally q0_sizes q0_text q0_line q0_latestReason q0_latestDetail) (some (.int r)) := by
  refine Met.ofW (cc := cX8_weight) (maxL := 2) (ret := (some .int)) (by decide) rfl ?_
  intro p e s m args below meth c s₁ B hml hv
  obtain ⟨hargs, hP, hK⟩ := hv
  have hx := B.exec
  have hb := B.bytes
  have hr := B.returns
  have hts := atoms_spec (ws := ws_ yX8_weight cX8_weight 2 (some .int)) B.pre
  have hta : ∀ w ∈ lw_all, w.before args s = true := fun w h => hts w (List.mem_cons_of_mem _ h)
  have hown : s.vm.findClass RX8 = some m.cls := findClass_of_methodNamed B.named
  have hlocks := B.notSynchronized
  have hC : Cx p s m args c cX8_weight 2 RX8 E := ⟨hx, hb, hml, hown, hta, hK⟩
  obtain ⟨ls, he, hl⟩ := entry_ (m := m) (n := 2) hargs (Nat.le_of_ble_eq_true rfl)
  rw [he]
  have hl : lv_has ls 2 [(0, .ref (ad 0)), (1, .int a1)] := hl
  show W p l e rmS_weight s m args below meth c s.heap [] 0 0 (MQ below (qP (some .int) (some (.int r))) args s 0 0 (fun _ => False)) (F0 m 0 ls [])
  rw [fS_weight] at hf
  refine lv_aload_n hx hb dX8_weight_0 rfl (lv_at hl 0 rfl) ?_
  refine gX8_10 hC hP 0 rfl (v := .ref (ad 1)) rfl dX8_weight_1 ?_
  refine lv_iload_n hx hb dX8_weight_4 rfl (lv_at hl 1 rfl) ?_
  refine k_PVi hC LX8_98 ⟨Nat.le_of_ble_eq_true rfl, Nat.le_of_ble_eq_true rfl⟩ ⟨Nat.zero_le _, Nat.zero_le _⟩ (cL_has l E (fun j => ad (1 + j)) q0_letters.1 q0_letters.2.1 q0_letters.2.2.1 q0_letters.2.2.2.1 q0_letters.2.2.2.2.1 q0_letters.2.2.2.2.2 a1 _ rfl) rfl rfl (ss_letters hP) rfl rfl hl.1 rfl (Nat.le_of_ble_eq_true rfl) rfl dX8_weight_5 (fun hz5 => ?_)
  refine lv_if_eq (tgt := 22) hx hb dX8_weight_8 (by decide) (fun c1 => ?_) (fun c1 => ?_)
  · have hf := ite_t hf c1
    refine lv_bipush (v := (-11)) hx hb dX8_weight_22 (by decide) ?_
    have hf := Option.some.inj hf
    exact e_Pi hC hr hlocks hf dX8_weight_24
  · have hf := ite_f hf c1
    refine lv_aload_n hx hb dX8_weight_11 rfl (lv_at hl 0 rfl) ?_
    refine gX8_10 hC hP 0 rfl (v := .ref (ad 1)) rfl dX8_weight_12 ?_
    refine lv_iload_n hx hb dX8_weight_15 rfl (lv_at hl 1 rfl) ?_
    obtain ⟨t2, ht2, hf⟩ := ob hf
    refine k_PVi hC LX8_101 ⟨Nat.le_of_ble_eq_true rfl, Nat.le_of_ble_eq_true rfl⟩ ⟨Nat.zero_le _, Nat.zero_le _⟩ (cL_at l E (fun j => ad (1 + j)) q0_letters.1 q0_letters.2.1 q0_letters.2.2.1 q0_letters.2.2.2.1 q0_letters.2.2.2.2.1 q0_letters.2.2.2.2.2 a1 t2 ht2) rfl rfl (ss_letters hP) rfl rfl hl.1 rfl (Nat.le_of_ble_eq_true rfl) rfl dX8_weight_16 (fun hz16 => ?_)
    refine lv_goto (tgt := 24) hx hb dX8_weight_19 (by decide) ?_
    have hf := Option.some.inj hf
    exact e_Pi hC hr hlocks hf dX8_weight_24
