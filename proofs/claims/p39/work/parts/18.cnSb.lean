abbrev rmS_weightAgain : Room := { frames := 4, cells := 0, slots := 0, locals := 97 }
set_option maxHeartbeats 4000000 in
set_option maxRecDepth 100000 in
theorem cS_weightAgain (l : Launch) (E : eE) (ad : Nat → Nat) (q0_letters : TL) (q0_trial : TL) (q0_snapshot : TL) (q0_isSaved : Int32) (q0_past : TP) (q0_rows : TR) (q0_bags : TB) (q0_tally : TY) (q0_sizes : TZ) (q0_text : TT) (q0_line : TN) (q0_latestReason : Int32) (q0_latestDetail : Int32) (a1 : Int32) (r : Int32) (hf : fS_weightAgain q0_letters q0_rows a1 = some r) : cP l E yX8_weightAgain cX8_weightAgain 2 (some .int) rmS_weightAgain [.ref (ad 0), .int a1] (wS E ad q0_letters q0_trial q0_snapshot q0_isSaved q0_past q0_rows q0_bags q0_tally q0_sizes q0_text q0_line q0_latestReason q0_latestDetail) (some (.int r)) := by
  refine Met.ofW (cc := cX8_weightAgain) (maxL := 2) (ret := (some .int)) (by decide) rfl ?_
  intro p e s m args below meth c s₁ B hml hv
  obtain ⟨hargs, hP, hK⟩ := hv
  have hx := B.exec
  have hb := B.bytes
  have hr := B.returns
  have hts := atoms_spec (ws := ws_ yX8_weightAgain cX8_weightAgain 2 (some .int)) B.pre
  have hta : ∀ w ∈ lw_all, w.before args s = true := fun w h => hts w (List.mem_cons_of_mem _ h)
  have hown : s.vm.findClass RX8 = some m.cls := findClass_of_methodNamed B.named
  have hlocks := B.notSynchronized
  have hC : Cx p s m args c cX8_weightAgain 2 RX8 E := ⟨hx, hb, hml, hown, hta, hK⟩
  obtain ⟨ls, he, hl⟩ := entry_ (m := m) (n := 2) hargs (Nat.le_of_ble_eq_true rfl)
  rw [he]
  have hl : lv_has ls 2 [(0, .ref (ad 0)), (1, .int a1)] := hl
  show W p l e rmS_weightAgain s m args below meth c s.heap [] 0 0 (MQ below (qP (some .int) (some (.int r))) args s 0 0 (fun _ => False)) (F0 m 0 ls [])
  rw [fS_weightAgain] at hf
  refine lv_aload_n hx hb dX8_weightAgain_0 rfl (lv_at hl 0 rfl) ?_
  refine gX8_10 hC hP 0 rfl (v := .ref (ad 1)) rfl dX8_weightAgain_1 ?_
  refine lv_iload_n hx hb dX8_weightAgain_4 rfl (lv_at hl 1 rfl) ?_
  refine k_PVi hC LX8_98 ⟨Nat.le_of_ble_eq_true rfl, Nat.le_of_ble_eq_true rfl⟩ ⟨Nat.zero_le _, Nat.zero_le _⟩ (cL_has l E (fun j => ad (1 + j)) q0_letters.1 q0_letters.2.1 q0_letters.2.2.1 q0_letters.2.2.2.1 q0_letters.2.2.2.2.1 q0_letters.2.2.2.2.2 a1 _ rfl) rfl rfl (ss_letters hP) rfl rfl hl.1 rfl (Nat.le_of_ble_eq_true rfl) rfl dX8_weightAgain_5 (fun hz5 => ?_)
  refine lv_if_eq (tgt := 22) hx hb dX8_weightAgain_8 (by decide) (fun c1 => ?_) (fun c1 => ?_)
  · have hf := ite_t hf c1
    refine lv_bipush (v := (-11)) hx hb dX8_weightAgain_22 (by decide) ?_
    have hf := Option.some.inj hf
    exact e_Pi hC hr hlocks hf dX8_weightAgain_24
  · have hf := ite_f hf c1
    refine lv_aload_n hx hb dX8_weightAgain_11 rfl (lv_at hl 0 rfl) ?_
    refine gX8_32 hC hP 0 rfl (v := .ref (ad 25)) rfl dX8_weightAgain_12 ?_
    refine lv_iload_n hx hb dX8_weightAgain_15 rfl (lv_at hl 1 rfl) ?_
    obtain ⟨t2, ht2, hf⟩ := ob hf
    refine k_PVi hC LX8_127 ⟨Nat.le_of_ble_eq_true rfl, Nat.le_of_ble_eq_true rfl⟩ ⟨Nat.zero_le _, Nat.zero_le _⟩ (cR_weightOf l E (fun j => ad (25 + j)) q0_rows.1 q0_rows.2.1 q0_rows.2.2.1 q0_rows.2.2.2.1 q0_rows.2.2.2.2.1 q0_rows.2.2.2.2.2 a1 t2 ht2) rfl rfl (ss_rows hP) rfl rfl hl.1 rfl (Nat.le_of_ble_eq_true rfl) rfl dX8_weightAgain_16 (fun hz16 => ?_)
    refine lv_goto (tgt := 24) hx hb dX8_weightAgain_19 (by decide) ?_
    have hf := Option.some.inj hf
    exact e_Pi hC hr hlocks hf dX8_weightAgain_24
abbrev rmS_bit : Room := { frames := 2, cells := 0, slots := 0, locals := 42 }
set_option maxHeartbeats 4000000 in
set_option maxRecDepth 100000 in
theorem cS_bit (l : Launch) (E : eE) (ad : Nat → Nat) (q0_letters : TL) (q0_trial : TL) (q0_snapshot : TL) (q0_isSaved : Int32) (q0_past : TP) (q0_rows : TR) (q0_bags : TB) (q0_tally : TY) (q0_sizes : TZ) (q0_text : TT) (q0_line : TN) (q0_latestReason : Int32) (q0_latestDetail : Int32) (a1 : Int32) (a2 : Int32) (r : Int32) (hf : fS_bit q0_letters q0_rows a1 a2 = some r) : cP l E yX8_bit cX8_bit 3 (some .int) rmS_bit [.ref (ad 0), .int a1, .int a2] (wS E ad q0_letters q0_trial q0_snapshot q0_isSaved q0_past q0_rows q0_bags q0_tally q0_sizes q0_text q0_line q0_latestReason q0_latestDetail) (some (.int r)) := by
  refine Met.ofW (cc := cX8_bit) (maxL := 3) (ret := (some .int)) (by decide) rfl ?_
  intro p e s m args below meth c s₁ B hml hv
  obtain ⟨hargs, hP, hK⟩ := hv
  have hx := B.exec
  have hb := B.bytes
  have hr := B.returns
  have hts := atoms_spec (ws := ws_ yX8_bit cX8_bit 3 (some .int)) B.pre
  have hta : ∀ w ∈ lw_all, w.before args s = true := fun w h => hts w (List.mem_cons_of_mem _ h)
  have hown : s.vm.findClass RX8 = some m.cls := findClass_of_methodNamed B.named
  have hlocks := B.notSynchronized
  have hC : Cx p s m args c cX8_bit 3 RX8 E := ⟨hx, hb, hml, hown, hta, hK⟩
  obtain ⟨ls, he, hl⟩ := entry_ (m := m) (n := 3) hargs (Nat.le_of_ble_eq_true rfl)
  rw [he]
  have hl : lv_has ls 3 [(0, .ref (ad 0)), (1, .int a1), (2, .int a2)] := hl
  show W p l e rmS_bit s m args below meth c s.heap [] 0 0 (MQ below (qP (some .int) (some (.int r))) args s 0 0 (fun _ => False)) (F0 m 0 ls [])
  rw [fS_bit] at hf
  refine lv_iload_n hx hb dX8_bit_0 rfl (lv_at hl 1 rfl) ?_
  refine k_PSi hC LX8_130 ⟨Nat.le_of_ble_eq_true rfl, Nat.le_of_ble_eq_true rfl⟩ ⟨Nat.zero_le _, Nat.zero_le _⟩ (cS_isRow l E a1 _ rfl) rfl rfl (vP_nil) hl.1 rfl (Nat.le_of_ble_eq_true rfl) rfl dX8_bit_1 (fun hz1 => ?_)
  refine lv_if_eq (tgt := 30) hx hb dX8_bit_4 (by decide) (fun c1 => ?_) (fun c1 => ?_)
  · have hf := ite_t hf c1
    refine lv_bipush (v := (-11)) hx hb dX8_bit_30 (by decide) ?_
    have hf := Option.some.inj hf
    exact e_Pi hC hr hlocks hf dX8_bit_32
  · have hf := ite_f hf c1
    refine lv_aload_n hx hb dX8_bit_7 rfl (lv_at hl 0 rfl) ?_
    refine gX8_10 hC hP 0 rfl (v := .ref (ad 1)) rfl dX8_bit_8 ?_
    refine lv_iload_n hx hb dX8_bit_11 rfl (lv_at hl 2 rfl) ?_
    refine k_PVi hC LX8_98 ⟨Nat.le_of_ble_eq_true rfl, Nat.le_of_ble_eq_true rfl⟩ ⟨Nat.zero_le _, Nat.zero_le _⟩ (cL_has l E (fun j => ad (1 + j)) q0_letters.1 q0_letters.2.1 q0_letters.2.2.1 q0_letters.2.2.2.1 q0_letters.2.2.2.2.1 q0_letters.2.2.2.2.2 a2 _ rfl) rfl rfl (ss_letters hP) rfl rfl hl.1 rfl (Nat.le_of_ble_eq_true rfl) rfl dX8_bit_12 (fun hz12 => ?_)
    refine lv_if_eq (tgt := 30) hx hb dX8_bit_15 (by decide) (fun c2 => ?_) (fun c2 => ?_)
    · have hf := ite_t hf c2
      refine lv_bipush (v := (-11)) hx hb dX8_bit_30 (by decide) ?_
      have hf := Option.some.inj hf
      exact e_Pi hC hr hlocks hf dX8_bit_32
    · have hf := ite_f hf c2
      refine lv_aload_n hx hb dX8_bit_18 rfl (lv_at hl 0 rfl) ?_
      refine gX8_32 hC hP 0 rfl (v := .ref (ad 25)) rfl dX8_bit_19 ?_
      refine lv_iload_n hx hb dX8_bit_22 rfl (lv_at hl 1 rfl) ?_
      refine lv_iload_n hx hb dX8_bit_23 rfl (lv_at hl 2 rfl) ?_
      obtain ⟨t3, ht3, hf⟩ := ob hf
      refine k_PVi hC LX8_133 ⟨Nat.le_of_ble_eq_true rfl, Nat.le_of_ble_eq_true rfl⟩ ⟨Nat.zero_le _, Nat.zero_le _⟩ (cR_bitAt l E (fun j => ad (25 + j)) q0_rows.1 q0_rows.2.1 q0_rows.2.2.1 q0_rows.2.2.2.1 q0_rows.2.2.2.2.1 q0_rows.2.2.2.2.2 a1 a2 t3 ht3) rfl rfl (ss_rows hP) rfl rfl hl.1 rfl (Nat.le_of_ble_eq_true rfl) rfl dX8_bit_24 (fun hz24 => ?_)
      refine lv_goto (tgt := 32) hx hb dX8_bit_27 (by decide) ?_
      have hf := Option.some.inj hf
      exact e_Pi hC hr hlocks hf dX8_bit_32
abbrev rmS_bits : Room := { frames := 2, cells := 0, slots := 0, locals := 41 }
set_option maxHeartbeats 4000000 in
set_option maxRecDepth 100000 in
theorem cS_bits (l : Launch) (E : eE) (ad : Nat → Nat) (q0_letters : TL) (q0_trial : TL) (q0_snapshot : TL) (q0_isSaved : Int32) (q0_past : TP) (q0_rows : TR) (q0_bags : TB) (q0_tally : TY) (q0_sizes : TZ) (q0_text : TT) (q0_line : TN) (q0_latestReason : Int32) (q0_latestDetail : Int32) (a1 : Int32) (r : Int64) (hf : fS_bits q0_rows a1 = some r) : cP l E yX8_bits cX8_bits 2 (some .long) rmS_bits [.ref (ad 0), .int a1] (wS E ad q0_letters q0_trial q0_snapshot q0_isSaved q0_past q0_rows q0_bags q0_tally q0_sizes q0_text q0_line q0_latestReason q0_latestDetail) (some (.long r)) := by
  refine Met.ofW (cc := cX8_bits) (maxL := 2) (ret := (some .long)) (by decide) rfl ?_
  intro p e s m args below meth c s₁ B hml hv
  obtain ⟨hargs, hP, hK⟩ := hv
  have hx := B.exec
  have hb := B.bytes
  have hr := B.returns
  have hts := atoms_spec (ws := ws_ yX8_bits cX8_bits 2 (some .long)) B.pre
  have hta : ∀ w ∈ lw_all, w.before args s = true := fun w h => hts w (List.mem_cons_of_mem _ h)
  have hown : s.vm.findClass RX8 = some m.cls := findClass_of_methodNamed B.named
  have hlocks := B.notSynchronized
  have hC : Cx p s m args c cX8_bits 2 RX8 E := ⟨hx, hb, hml, hown, hta, hK⟩
  obtain ⟨ls, he, hl⟩ := entry_ (m := m) (n := 2) hargs (Nat.le_of_ble_eq_true rfl)
  rw [he]
  have hl : lv_has ls 2 [(0, .ref (ad 0)), (1, .int a1)] := hl
  show W p l e rmS_bits s m args below meth c s.heap [] 0 0 (MQ below (qP (some .long) (some (.long r))) args s 0 0 (fun _ => False)) (F0 m 0 ls [])
  rw [fS_bits] at hf
  refine lv_aload_n hx hb dX8_bits_0 rfl (lv_at hl 0 rfl) ?_
  refine gX8_32 hC hP 0 rfl (v := .ref (ad 25)) rfl dX8_bits_1 ?_
  refine lv_iload_n hx hb dX8_bits_4 rfl (lv_at hl 1 rfl) ?_
  obtain ⟨t1, ht1, hf⟩ := ob hf
  refine k_PVl hC LX8_136 ⟨Nat.le_of_ble_eq_true rfl, Nat.le_of_ble_eq_true rfl⟩ ⟨Nat.zero_le _, Nat.zero_le _⟩ (cR_wholeRow l E (fun j => ad (25 + j)) q0_rows.1 q0_rows.2.1 q0_rows.2.2.1 q0_rows.2.2.2.1 q0_rows.2.2.2.2.1 q0_rows.2.2.2.2.2 a1 t1 ht1) rfl rfl (ss_rows hP) rfl rfl hl.1 rfl (Nat.le_of_ble_eq_true rfl) rfl dX8_bits_5 (fun hz5 => ?_)
  have hf := Option.some.inj hf
  exact e_Pl hC hr hlocks hf dX8_bits_8
abbrev rmS_isEdge : Room := { frames := 1, cells := 0, slots := 0, locals := 20 }
set_option maxHeartbeats 4000000 in
set_option maxRecDepth 100000 in
theorem cS_isEdge (l : Launch) (E : eE) (ad : Nat → Nat) (q0_letters : TL) (q0_trial : TL) (q0_snapshot : TL) (q0_isSaved : Int32) (q0_past : TP) (q0_rows : TR) (q0_bags : TB) (q0_tally : TY) (q0_sizes : TZ) (q0_text : TT) (q0_line : TN) (q0_latestReason : Int32) (q0_latestDetail : Int32) (a1 : Int32) (r : Int32) (hf : fS_isEdge q0_letters a1 = r) : cP l E yX8_isEdge cX8_isEdge 2 (some .boolean) rmS_isEdge [.ref (ad 0), .int a1] (wS E ad q0_letters q0_trial q0_snapshot q0_isSaved q0_past q0_rows q0_bags q0_tally q0_sizes q0_text q0_line q0_latestReason q0_latestDetail) (some (.int r)) := by
  refine Met.ofW (cc := cX8_isEdge) (maxL := 2) (ret := (some .boolean)) (by decide) rfl ?_
  intro p e s m args below meth c s₁ B hml hv
  obtain ⟨hargs, hP, hK⟩ := hv
  have hx := B.exec
  have hb := B.bytes
  have hr := B.returns
  have hts := atoms_spec (ws := ws_ yX8_isEdge cX8_isEdge 2 (some .boolean)) B.pre
  have hta : ∀ w ∈ lw_all, w.before args s = true := fun w h => hts w (List.mem_cons_of_mem _ h)
  have hown : s.vm.findClass RX8 = some m.cls := findClass_of_methodNamed B.named
  have hlocks := B.notSynchronized
  have hC : Cx p s m args c cX8_isEdge 2 RX8 E := ⟨hx, hb, hml, hown, hta, hK⟩
  obtain ⟨ls, he, hl⟩ := entry_ (m := m) (n := 2) hargs (Nat.le_of_ble_eq_true rfl)
  rw [he]
  have hl : lv_has ls 2 [(0, .ref (ad 0)), (1, .int a1)] := hl
  show W p l e rmS_isEdge s m args below meth c s.heap [] 0 0 (MQ below (qP (some .boolean) (some (.int r))) args s 0 0 (fun _ => False)) (F0 m 0 ls [])
  rw [fS_isEdge] at hf
  refine lv_iload_n hx hb dX8_isEdge_0 rfl (lv_at hl 1 rfl) ?_
  refine lv_if_lt (tgt := 19) hx hb dX8_isEdge_1 (by decide) (fun c1 => ?_) (fun c1 => ?_)
  · have hf := ite_t hf c1
    refine lv_iconst (v := 0) hx hb dX8_isEdge_19 (by decide) ?_
    exact e_Pz hC hr hlocks hf rfl dX8_isEdge_20
  · have hf := ite_f hf c1
    refine lv_iload_n hx hb dX8_isEdge_4 rfl (lv_at hl 1 rfl) ?_
    refine lv_aload_n hx hb dX8_isEdge_5 rfl (lv_at hl 0 rfl) ?_
    refine gX8_10 hC hP 0 rfl (v := .ref (ad 1)) rfl dX8_isEdge_6 ?_
    refine k_PVi hC LX8_87 ⟨Nat.le_of_ble_eq_true rfl, Nat.le_of_ble_eq_true rfl⟩ ⟨Nat.zero_le _, Nat.zero_le _⟩ (cL_size l E (fun j => ad (1 + j)) q0_letters.1 q0_letters.2.1 q0_letters.2.2.1 q0_letters.2.2.2.1 q0_letters.2.2.2.2.1 q0_letters.2.2.2.2.2 _ rfl) rfl rfl (ss_letters hP) rfl rfl hl.1 rfl (Nat.le_of_ble_eq_true rfl) rfl dX8_isEdge_9 (fun hz9 => ?_)
    refine lv_icmp_gt (tgt := 19) hx hb dX8_isEdge_12 (by decide) (fun c2 => ?_) (fun c2 => ?_)
    · have hf := ite_t hf c2
      refine lv_iconst (v := 0) hx hb dX8_isEdge_19 (by decide) ?_
      exact e_Pz hC hr hlocks hf rfl dX8_isEdge_20
    · have hf := ite_f hf c2
      refine lv_iconst (v := 1) hx hb dX8_isEdge_15 (by decide) ?_
      refine lv_goto (tgt := 20) hx hb dX8_isEdge_16 (by decide) ?_
      exact e_Pz hC hr hlocks hf rfl dX8_isEdge_20
abbrev rmS_rank : Room := { frames := 2, cells := 0, slots := 0, locals := 48 }
set_option maxHeartbeats 4000000 in
set_option maxRecDepth 100000 in
theorem cS_rank (l : Launch) (E : eE) (ad : Nat → Nat) (q0_letters : TL) (q0_trial : TL) (q0_snapshot : TL) (q0_isSaved : Int32) (q0_past : TP) (q0_rows : TR) (q0_bags : TB) (q0_tally : TY) (q0_sizes : TZ) (q0_text : TT) (q0_line : TN) (q0_latestReason : Int32) (q0_latestDetail : Int32) (a1 : Int32) (a2 : Int32) (a3 : Int32) (r : Int32) (hf : fS_rank q0_letters q0_rows a1 a2 a3 = some r) : cP l E yX8_rank cX8_rank 4 (some .int) rmS_rank [.ref (ad 0), .int a1, .int a2, .int a3] (wS E ad q0_letters q0_trial q0_snapshot q0_isSaved q0_past q0_rows q0_bags q0_tally q0_sizes q0_text q0_line q0_latestReason q0_latestDetail) (some (.int r)) := by
  refine Met.ofW (cc := cX8_rank) (maxL := 4) (ret := (some .int)) (by decide) rfl ?_
  intro p e s m args below meth c s₁ B hml hv
  obtain ⟨hargs, hP, hK⟩ := hv
  have hx := B.exec
  have hb := B.bytes
  have hr := B.returns
  have hts := atoms_spec (ws := ws_ yX8_rank cX8_rank 4 (some .int)) B.pre
  have hta : ∀ w ∈ lw_all, w.before args s = true := fun w h => hts w (List.mem_cons_of_mem _ h)
  have hown : s.vm.findClass RX8 = some m.cls := findClass_of_methodNamed B.named
  have hlocks := B.notSynchronized
  have hC : Cx p s m args c cX8_rank 4 RX8 E := ⟨hx, hb, hml, hown, hta, hK⟩
  obtain ⟨ls, he, hl⟩ := entry_ (m := m) (n := 4) hargs (Nat.le_of_ble_eq_true rfl)
  rw [he]
  have hl : lv_has ls 4 [(0, .ref (ad 0)), (1, .int a1), (2, .int a2), (3, .int a3)] := hl
  show W p l e rmS_rank s m args below meth c s.heap [] 0 0 (MQ below (qP (some .int) (some (.int r))) args s 0 0 (fun _ => False)) (F0 m 0 ls [])
  rw [fS_rank] at hf
  refine lv_iload_n hx hb dX8_rank_0 rfl (lv_at hl 1 rfl) ?_
  refine k_PSi hC LX8_130 ⟨Nat.le_of_ble_eq_true rfl, Nat.le_of_ble_eq_true rfl⟩ ⟨Nat.zero_le _, Nat.zero_le _⟩ (cS_isRow l E a1 _ rfl) rfl rfl (vP_nil) hl.1 rfl (Nat.le_of_ble_eq_true rfl) rfl dX8_rank_1 (fun hz1 => ?_)
  refine lv_if_eq (tgt := 28) hx hb dX8_rank_4 (by decide) (fun c1 => ?_) (fun c1 => ?_)
  · have hf := ite_t hf c1
    refine lv_bipush (v := (-11)) hx hb dX8_rank_28 (by decide) ?_
    have hf := Option.some.inj hf
    exact e_Pi hC hr hlocks hf dX8_rank_30
  · have hf := ite_f hf c1
    refine lv_aload_n hx hb dX8_rank_7 rfl (lv_at hl 0 rfl) ?_
    refine lv_iload_n hx hb dX8_rank_8 rfl (lv_at hl 3 rfl) ?_
    refine k_PVi hC LX8_140 ⟨Nat.le_of_ble_eq_true rfl, Nat.le_of_ble_eq_true rfl⟩ ⟨Nat.zero_le _, Nat.zero_le _⟩ (cS_isEdge l E ad q0_letters q0_trial q0_snapshot q0_isSaved q0_past q0_rows q0_bags q0_tally q0_sizes q0_text q0_line q0_latestReason q0_latestDetail a3 _ rfl) rfl rfl hP rfl rfl hl.1 rfl (Nat.le_of_ble_eq_true rfl) rfl dX8_rank_9 (fun hz9 => ?_)
    refine lv_if_eq (tgt := 28) hx hb dX8_rank_12 (by decide) (fun c2 => ?_) (fun c2 => ?_)
    · have hf := ite_t hf c2
      refine lv_bipush (v := (-11)) hx hb dX8_rank_28 (by decide) ?_
      have hf := Option.some.inj hf
      exact e_Pi hC hr hlocks hf dX8_rank_30
    · have hf := ite_f hf c2
      refine lv_aload_n hx hb dX8_rank_15 rfl (lv_at hl 0 rfl) ?_
      refine gX8_32 hC hP 0 rfl (v := .ref (ad 25)) rfl dX8_rank_16 ?_
      refine lv_iload_n hx hb dX8_rank_19 rfl (lv_at hl 1 rfl) ?_
      refine lv_iload_n hx hb dX8_rank_20 rfl (lv_at hl 2 rfl) ?_
      refine lv_iload_n hx hb dX8_rank_21 rfl (lv_at hl 3 rfl) ?_
      obtain ⟨t3, ht3, hf⟩ := ob hf
      refine k_PVi hC LX8_143 ⟨Nat.le_of_ble_eq_true rfl, Nat.le_of_ble_eq_true rfl⟩ ⟨Nat.zero_le _, Nat.zero_le _⟩ (cR_ahead l E (fun j => ad (25 + j)) q0_rows.1 q0_rows.2.1 q0_rows.2.2.1 q0_rows.2.2.2.1 q0_rows.2.2.2.2.1 q0_rows.2.2.2.2.2 a1 a2 a3 t3 ht3) rfl rfl (ss_rows hP) rfl rfl hl.1 rfl (Nat.le_of_ble_eq_true rfl) rfl dX8_rank_22 (fun hz22 => ?_)
      refine lv_goto (tgt := 30) hx hb dX8_rank_25 (by decide) ?_
      have hf := Option.some.inj hf
      exact e_Pi hC hr hlocks hf dX8_rank_30
abbrev rmS_rankAgain : Room := { frames := 4, cells := 0, slots := 0, locals := 90 }
set_option maxHeartbeats 4000000 in
set_option maxRecDepth 100000 in
theorem cS_rankAgain (l : Launch) (E : eE) (ad : Nat → Nat) (q0_letters : TL) (q0_trial : TL) (q0_snapshot : TL) (q0_isSaved : Int32) (q0_past : TP) (q0_rows : TR) (q0_bags : TB) (q0_tally : TY) (q0_sizes : TZ) (q0_text : TT) (q0_line : TN) (q0_latestReason : Int32) (q0_latestDetail : Int32) (a1 : Int32) (a2 : Int32) (a3 : Int32) (r : Int32) (hf : fS_rankAgain q0_letters q0_rows a1 a2 a3 = some r) : cP l E yX8_rankAgain cX8_rankAgain 4 (some .int) rmS_rankAgain [.ref (ad 0), .int a1, .int a2, .int a3] (wS E ad q0_letters q0_trial q0_snapshot q0_isSaved q0_past q0_rows q0_bags q0_tally q0_sizes q0_text q0_line q0_latestReason q0_latestDetail) (some (.int r)) := by
  refine Met.ofW (cc := cX8_rankAgain) (maxL := 4) (ret := (some .int)) (by decide) rfl ?_
  intro p e s m args below meth c s₁ B hml hv
  obtain ⟨hargs, hP, hK⟩ := hv
  have hx := B.exec
  have hb := B.bytes
  have hr := B.returns
  have hts := atoms_spec (ws := ws_ yX8_rankAgain cX8_rankAgain 4 (some .int)) B.pre
  have hta : ∀ w ∈ lw_all, w.before args s = true := fun w h => hts w (List.mem_cons_of_mem _ h)
  have hown : s.vm.findClass RX8 = some m.cls := findClass_of_methodNamed B.named
  have hlocks := B.notSynchronized
  have hC : Cx p s m args c cX8_rankAgain 4 RX8 E := ⟨hx, hb, hml, hown, hta, hK⟩
  obtain ⟨ls, he, hl⟩ := entry_ (m := m) (n := 4) hargs (Nat.le_of_ble_eq_true rfl)
  rw [he]
  have hl : lv_has ls 4 [(0, .ref (ad 0)), (1, .int a1), (2, .int a2), (3, .int a3)] := hl
  show W p l e rmS_rankAgain s m args below meth c s.heap [] 0 0 (MQ below (qP (some .int) (some (.int r))) args s 0 0 (fun _ => False)) (F0 m 0 ls [])
  rw [fS_rankAgain] at hf
  refine lv_iload_n hx hb dX8_rankAgain_0 rfl (lv_at hl 1 rfl) ?_
  refine k_PSi hC LX8_130 ⟨Nat.le_of_ble_eq_true rfl, Nat.le_of_ble_eq_true rfl⟩ ⟨Nat.zero_le _, Nat.zero_le _⟩ (cS_isRow l E a1 _ rfl) rfl rfl (vP_nil) hl.1 rfl (Nat.le_of_ble_eq_true rfl) rfl dX8_rankAgain_1 (fun hz1 => ?_)
  refine lv_if_eq (tgt := 28) hx hb dX8_rankAgain_4 (by decide) (fun c1 => ?_) (fun c1 => ?_)
  · have hf := ite_t hf c1
    refine lv_bipush (v := (-11)) hx hb dX8_rankAgain_28 (by decide) ?_
    have hf := Option.some.inj hf
    exact e_Pi hC hr hlocks hf dX8_rankAgain_30
  · have hf := ite_f hf c1
    refine lv_aload_n hx hb dX8_rankAgain_7 rfl (lv_at hl 0 rfl) ?_
    refine lv_iload_n hx hb dX8_rankAgain_8 rfl (lv_at hl 3 rfl) ?_
    refine k_PVi hC LX8_140 ⟨Nat.le_of_ble_eq_true rfl, Nat.le_of_ble_eq_true rfl⟩ ⟨Nat.zero_le _, Nat.zero_le _⟩ (cS_isEdge l E ad q0_letters q0_trial q0_snapshot q0_isSaved q0_past q0_rows q0_bags q0_tally q0_sizes q0_text q0_line q0_latestReason q0_latestDetail a3 _ rfl) rfl rfl hP rfl rfl hl.1 rfl (Nat.le_of_ble_eq_true rfl) rfl dX8_rankAgain_9 (fun hz9 => ?_)
    refine lv_if_eq (tgt := 28) hx hb dX8_rankAgain_12 (by decide) (fun c2 => ?_) (fun c2 => ?_)
    · have hf := ite_t hf c2
      refine lv_bipush (v := (-11)) hx hb dX8_rankAgain_28 (by decide) ?_
      have hf := Option.some.inj hf
      exact e_Pi hC hr hlocks hf dX8_rankAgain_30
    · have hf := ite_f hf c2
      refine lv_aload_n hx hb dX8_rankAgain_15 rfl (lv_at hl 0 rfl) ?_
      refine gX8_32 hC hP 0 rfl (v := .ref (ad 25)) rfl dX8_rankAgain_16 ?_
      refine lv_iload_n hx hb dX8_rankAgain_19 rfl (lv_at hl 1 rfl) ?_
      refine lv_iload_n hx hb dX8_rankAgain_20 rfl (lv_at hl 2 rfl) ?_
      refine lv_iload_n hx hb dX8_rankAgain_21 rfl (lv_at hl 3 rfl) ?_
      obtain ⟨t3, ht3, hf⟩ := ob hf
      refine k_PVi hC LX8_147 ⟨Nat.le_of_ble_eq_true rfl, Nat.le_of_ble_eq_true rfl⟩ ⟨Nat.zero_le _, Nat.zero_le _⟩ (cR_aheadOneByOne l E (fun j => ad (25 + j)) q0_rows.1 q0_rows.2.1 q0_rows.2.2.1 q0_rows.2.2.2.1 q0_rows.2.2.2.2.1 q0_rows.2.2.2.2.2 a1 a2 a3 t3 ht3) rfl rfl (ss_rows hP) rfl rfl hl.1 rfl (Nat.le_of_ble_eq_true rfl) rfl dX8_rankAgain_22 (fun hz22 => ?_)
      refine lv_goto (tgt := 30) hx hb dX8_rankAgain_25 (by decide) ?_
      have hf := Option.some.inj hf
      exact e_Pi hC hr hlocks hf dX8_rankAgain_30
abbrev rmS_select : Room := { frames := 4, cells := 0, slots := 0, locals := 91 }
set_option maxHeartbeats 4000000 in
set_option maxRecDepth 100000 in
theorem cS_select (l : Launch) (E : eE) (ad : Nat → Nat) (q0_letters : TL) (q0_trial : TL) (q0_snapshot : TL) (q0_isSaved : Int32) (q0_past : TP) (q0_rows : TR) (q0_bags : TB) (q0_tally : TY) (q0_sizes : TZ) (q0_text : TT) (q0_line : TN) (q0_latestReason : Int32) (q0_latestDetail : Int32) (a1 : Int32) (a2 : Int32) (a3 : Int32) (r : Int32) (hf : fS_select q0_rows a1 a2 a3 = some r) : cP l E yX8_select cX8_select 5 (some .int) rmS_select [.ref (ad 0), .int a1, .int a2, .int a3] (wS E ad q0_letters q0_trial q0_snapshot q0_isSaved q0_past q0_rows q0_bags q0_tally q0_sizes q0_text q0_line q0_latestReason q0_latestDetail) (some (.int r)) := by
  refine Met.ofW (cc := cX8_select) (maxL := 5) (ret := (some .int)) (by decide) rfl ?_
  intro p e s m args below meth c s₁ B hml hv
  obtain ⟨hargs, hP, hK⟩ := hv
  have hx := B.exec
  have hb := B.bytes
  have hr := B.returns
  have hts := atoms_spec (ws := ws_ yX8_select cX8_select 5 (some .int)) B.pre
  have hta : ∀ w ∈ lw_all, w.before args s = true := fun w h => hts w (List.mem_cons_of_mem _ h)
  have hown : s.vm.findClass RX8 = some m.cls := findClass_of_methodNamed B.named
  have hlocks := B.notSynchronized
  have hC : Cx p s m args c cX8_select 5 RX8 E := ⟨hx, hb, hml, hown, hta, hK⟩
  obtain ⟨ls, he, hl⟩ := entry_ (m := m) (n := 5) hargs (Nat.le_of_ble_eq_true rfl)
  rw [he]
  have hl : lv_has ls 5 [(0, .ref (ad 0)), (1, .int a1), (2, .int a2), (3, .int a3)] := hl
  show W p l e rmS_select s m args below meth c s.heap [] 0 0 (MQ below (qP (some .int) (some (.int r))) args s 0 0 (fun _ => False)) (F0 m 0 ls [])
  rw [fS_select] at hf
  refine lv_iload_n hx hb dX8_select_0 rfl (lv_at hl 1 rfl) ?_
  refine k_PSi hC LX8_130 ⟨Nat.le_of_ble_eq_true rfl, Nat.le_of_ble_eq_true rfl⟩ ⟨Nat.zero_le _, Nat.zero_le _⟩ (cS_isRow l E a1 _ rfl) rfl rfl (vP_nil) hl.1 rfl (Nat.le_of_ble_eq_true rfl) rfl dX8_select_1 (fun hz1 => ?_)
  refine lv_if_ne (tgt := 10) hx hb dX8_select_4 (by decide) (fun c1 => ?_) (fun c1 => ?_)
  · have hf := ite_f hf c1
    refine lv_aload_n hx hb dX8_select_10 rfl (lv_at hl 0 rfl) ?_
    refine gX8_32 hC hP 0 rfl (v := .ref (ad 25)) rfl dX8_select_11 ?_
    refine lv_iload_n hx hb dX8_select_14 rfl (lv_at hl 1 rfl) ?_
    refine lv_iload_n hx hb dX8_select_15 rfl (lv_at hl 2 rfl) ?_
    refine lv_iload_n hx hb dX8_select_16 rfl (lv_at hl 3 rfl) ?_
    obtain ⟨t2, ht2, hf⟩ := ob hf
    refine k_PVi hC LX8_150 ⟨Nat.le_of_ble_eq_true rfl, Nat.le_of_ble_eq_true rfl⟩ ⟨Nat.zero_le _, Nat.zero_le _⟩ (cR_placeOf l E (fun j => ad (25 + j)) q0_rows.1 q0_rows.2.1 q0_rows.2.2.1 q0_rows.2.2.2.1 q0_rows.2.2.2.2.1 q0_rows.2.2.2.2.2 a1 a2 a3 t2 ht2) rfl rfl (ss_rows hP) rfl rfl hl.1 rfl (Nat.le_of_ble_eq_true rfl) rfl dX8_select_17 (fun hz17 => ?_)
    refine lv_istore (lv' := [(4, .int t2), (0, .ref (ad 0)), (1, .int a1), (2, .int a2), (3, .int a3)]) hx hb dX8_select_20 hl (by decide) rfl (fun ls hl => ?_)
    refine lv_iload hx hb dX8_select_22 (lv_at hl 0 rfl) ?_
    refine lv_if_ge (tgt := 32) hx hb dX8_select_24 (by decide) (fun c3 => ?_) (fun c3 => ?_)
    · have hf := ite_t hf c3
      refine lv_iload hx hb dX8_select_32 (lv_at hl 0 rfl) ?_
      have hf := Option.some.inj hf
      exact e_Pi hC hr hlocks hf dX8_select_34
    · have hf := ite_f hf c3
      refine lv_bipush (v := (-15)) hx hb dX8_select_27 (by decide) ?_
      refine lv_goto (tgt := 34) hx hb dX8_select_29 (by decide) ?_
      have hf := Option.some.inj hf
      exact e_Pi hC hr hlocks hf dX8_select_34
  · have hf := ite_t hf c1
    refine lv_bipush (v := (-11)) hx hb dX8_select_7 (by decide) ?_
    have hf := Option.some.inj hf
    exact e_Pi hC hr hlocks hf dX8_select_9
abbrev rmS_placeIn : Room := { frames := 4, cells := 0, slots := 0, locals := 96 }
set_option maxHeartbeats 4000000 in
set_option maxRecDepth 100000 in
theorem cS_placeIn (l : Launch) (E : eE) (ad : Nat → Nat) (q0_letters : TL) (q0_trial : TL) (q0_snapshot : TL) (q0_isSaved : Int32) (q0_past : TP) (q0_rows : TR) (q0_bags : TB) (q0_tally : TY) (q0_sizes : TZ) (q0_text : TT) (q0_line : TN) (q0_latestReason : Int32) (q0_latestDetail : Int32) (a1 : Int32) (a2 : Int32) (r : Int32) (hf : fS_placeIn q0_letters q0_rows a1 a2 = some r) : cP l E yX8_placeIn cX8_placeIn 3 (some .int) rmS_placeIn [.ref (ad 0), .int a1, .int a2] (wS E ad q0_letters q0_trial q0_snapshot q0_isSaved q0_past q0_rows q0_bags q0_tally q0_sizes q0_text q0_line q0_latestReason q0_latestDetail) (some (.int r)) := by
  refine Met.ofW (cc := cX8_placeIn) (maxL := 3) (ret := (some .int)) (by decide) rfl ?_
  intro p e s m args below meth c s₁ B hml hv
  obtain ⟨hargs, hP, hK⟩ := hv
  have hx := B.exec
  have hb := B.bytes
  have hr := B.returns
  have hts := atoms_spec (ws := ws_ yX8_placeIn cX8_placeIn 3 (some .int)) B.pre
  have hta : ∀ w ∈ lw_all, w.before args s = true := fun w h => hts w (List.mem_cons_of_mem _ h)
  have hown : s.vm.findClass RX8 = some m.cls := findClass_of_methodNamed B.named
  have hlocks := B.notSynchronized
  have hC : Cx p s m args c cX8_placeIn 3 RX8 E := ⟨hx, hb, hml, hown, hta, hK⟩
  obtain ⟨ls, he, hl⟩ := entry_ (m := m) (n := 3) hargs (Nat.le_of_ble_eq_true rfl)
  rw [he]
  have hl : lv_has ls 3 [(0, .ref (ad 0)), (1, .int a1), (2, .int a2)] := hl
  show W p l e rmS_placeIn s m args below meth c s.heap [] 0 0 (MQ below (qP (some .int) (some (.int r))) args s 0 0 (fun _ => False)) (F0 m 0 ls [])
  rw [fS_placeIn] at hf
  refine lv_iload_n hx hb dX8_placeIn_0 rfl (lv_at hl 1 rfl) ?_
  refine k_PSi hC LX8_130 ⟨Nat.le_of_ble_eq_true rfl, Nat.le_of_ble_eq_true rfl⟩ ⟨Nat.zero_le _, Nat.zero_le _⟩ (cS_isRow l E a1 _ rfl) rfl rfl (vP_nil) hl.1 rfl (Nat.le_of_ble_eq_true rfl) rfl dX8_placeIn_1 (fun hz1 => ?_)
  refine lv_if_eq (tgt := 30) hx hb dX8_placeIn_4 (by decide) (fun c1 => ?_) (fun c1 => ?_)
  · have hf := ite_t hf c1
    refine lv_bipush (v := (-11)) hx hb dX8_placeIn_30 (by decide) ?_
    have hf := Option.some.inj hf
    exact e_Pi hC hr hlocks hf dX8_placeIn_32
  · have hf := ite_f hf c1
    refine lv_aload_n hx hb dX8_placeIn_7 rfl (lv_at hl 0 rfl) ?_
    refine gX8_10 hC hP 0 rfl (v := .ref (ad 1)) rfl dX8_placeIn_8 ?_
    refine lv_iload_n hx hb dX8_placeIn_11 rfl (lv_at hl 2 rfl) ?_
    refine k_PVi hC LX8_98 ⟨Nat.le_of_ble_eq_true rfl, Nat.le_of_ble_eq_true rfl⟩ ⟨Nat.zero_le _, Nat.zero_le _⟩ (cL_has l E (fun j => ad (1 + j)) q0_letters.1 q0_letters.2.1 q0_letters.2.2.1 q0_letters.2.2.2.1 q0_letters.2.2.2.2.1 q0_letters.2.2.2.2.2 a2 _ rfl) rfl rfl (ss_letters hP) rfl rfl hl.1 rfl (Nat.le_of_ble_eq_true rfl) rfl dX8_placeIn_12 (fun hz12 => ?_)
    refine lv_if_eq (tgt := 30) hx hb dX8_placeIn_15 (by decide) (fun c2 => ?_) (fun c2 => ?_)
    · have hf := ite_t hf c2
      refine lv_bipush (v := (-11)) hx hb dX8_placeIn_30 (by decide) ?_
      have hf := Option.some.inj hf
      exact e_Pi hC hr hlocks hf dX8_placeIn_32
    · have hf := ite_f hf c2
      refine lv_aload_n hx hb dX8_placeIn_18 rfl (lv_at hl 0 rfl) ?_
      refine gX8_32 hC hP 0 rfl (v := .ref (ad 25)) rfl dX8_placeIn_19 ?_
      refine lv_iload_n hx hb dX8_placeIn_22 rfl (lv_at hl 1 rfl) ?_
      refine lv_iload_n hx hb dX8_placeIn_23 rfl (lv_at hl 2 rfl) ?_
      obtain ⟨t3, ht3, hf⟩ := ob hf
      refine k_PVi hC LX8_153 ⟨Nat.le_of_ble_eq_true rfl, Nat.le_of_ble_eq_true rfl⟩ ⟨Nat.zero_le _, Nat.zero_le _⟩ (cR_placeDownTo l E (fun j => ad (25 + j)) q0_rows.1 q0_rows.2.1 q0_rows.2.2.1 q0_rows.2.2.2.1 q0_rows.2.2.2.2.1 q0_rows.2.2.2.2.2 a1 a2 t3 ht3) rfl rfl (ss_rows hP) rfl rfl hl.1 rfl (Nat.le_of_ble_eq_true rfl) rfl dX8_placeIn_24 (fun hz24 => ?_)
      refine lv_goto (tgt := 32) hx hb dX8_placeIn_27 (by decide) ?_
      have hf := Option.some.inj hf
      exact e_Pi hC hr hlocks hf dX8_placeIn_32
