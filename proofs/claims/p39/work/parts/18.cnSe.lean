abbrev rmS_areWeightsAlike : Room := { frames := 4, cells := 0, slots := 0, locals := 97 }
set_option maxHeartbeats 4000000 in
set_option maxRecDepth 100000 in
theorem cS_areWeightsAlike (l : Launch) (E : eE) (ad : Nat → Nat) (q0_letters : TL) (q0_trial : TL) (q0_snapshot : TL) (q0_isSaved : Int32) (q0_past : TP) (q0_rows : TR) (q0_bags : TB) (q0_tally : TY) (q0_sizes : TZ) (q0_text : TT) (q0_line : TN) (q0_latestReason : Int32) (q0_latestDetail : Int32) (r : Int32) (hf : fS_areWeightsAlike q0_letters q0_rows = some r) : cP l E yX8_areWeightsAlike cX8_areWeightsAlike 2 (some .boolean) rmS_areWeightsAlike [.ref (ad 0)] (wS E ad q0_letters q0_trial q0_snapshot q0_isSaved q0_past q0_rows q0_bags q0_tally q0_sizes q0_text q0_line q0_latestReason q0_latestDetail) (some (.int r)) := by
  refine Met.ofW (cc := cX8_areWeightsAlike) (maxL := 2) (ret := (some .boolean)) (by decide) rfl ?_
  intro p e s m args below meth c s₁ B hml hv
  obtain ⟨hargs, hP, hK⟩ := hv
  have hx := B.exec
  have hb := B.bytes
  have hr := B.returns
  have hts := atoms_spec (ws := ws_ yX8_areWeightsAlike cX8_areWeightsAlike 2 (some .boolean)) B.pre
  have hta : ∀ w ∈ lw_all, w.before args s = true := fun w h => hts w (List.mem_cons_of_mem _ h)
  have hown : s.vm.findClass RX8 = some m.cls := findClass_of_methodNamed B.named
  have hlocks := B.notSynchronized
  have hC : Cx p s m args c cX8_areWeightsAlike 2 RX8 E := ⟨hx, hb, hml, hown, hta, hK⟩
  obtain ⟨ls, he, hl⟩ := entry_ (m := m) (n := 2) hargs (Nat.le_of_ble_eq_true rfl)
  rw [he]
  have hl : lv_has ls 2 [(0, .ref (ad 0))] := hl
  show W p l e rmS_areWeightsAlike s m args below meth c s.heap [] 0 0 (MQ below (qP (some .boolean) (some (.int r))) args s 0 0 (fun _ => False)) (F0 m 0 ls [])
  have L2 : ∀ (n : Nat) (a1 : Int32) (ls : Array Slot), lv_has ls 2 [(0, .ref (ad 0)), (1, .int a1)] → fS_areWeightsAlike_2 n q0_letters q0_rows a1 = some r → W p l e rmS_areWeightsAlike s m args below meth c s.heap [] 0 0 (MQ below (qP (some .boolean) (some (.int r))) args s 0 0 (fun _ => False)) (F0 m 2 ls []) := by
    intro n
    induction n with
    | zero => intro a1 ls hl hf; cases hf
    | succ n ih =>
      intro a1 ls hl hf
      rw [fS_areWeightsAlike_2] at hf
      refine lv_iload_n hx hb dX8_areWeightsAlike_2 rfl (lv_at hl 1 rfl) ?_
      refine lv_aload_n hx hb dX8_areWeightsAlike_3 rfl (lv_at hl 0 rfl) ?_
      refine gX8_10 hC hP 0 rfl (v := .ref (ad 1)) rfl dX8_areWeightsAlike_4 ?_
      refine k_PVi hC LX8_87 ⟨Nat.le_of_ble_eq_true rfl, Nat.le_of_ble_eq_true rfl⟩ ⟨Nat.zero_le _, Nat.zero_le _⟩ (cL_size l E (fun j => ad (1 + j)) q0_letters.1 q0_letters.2.1 q0_letters.2.2.1 q0_letters.2.2.2.1 q0_letters.2.2.2.2.1 q0_letters.2.2.2.2.2 _ rfl) rfl rfl (ss_letters hP) rfl rfl hl.1 rfl (Nat.le_of_ble_eq_true rfl) rfl dX8_areWeightsAlike_7 (fun hz7 => ?_)
      refine lv_icmp_ge (tgt := 40) hx hb dX8_areWeightsAlike_10 (by decide) (fun c1 => ?_) (fun c1 => ?_)
      · have hf := ite_t hf c1
        refine lv_iconst (v := 1) hx hb dX8_areWeightsAlike_40 (by decide) ?_
        have hf := Option.some.inj hf
        exact e_Pz hC hr hlocks hf rfl dX8_areWeightsAlike_41
      · have hf := ite_f hf c1
        refine lv_aload_n hx hb dX8_areWeightsAlike_13 rfl (lv_at hl 0 rfl) ?_
        refine gX8_10 hC hP 0 rfl (v := .ref (ad 1)) rfl dX8_areWeightsAlike_14 ?_
        refine lv_iload_n hx hb dX8_areWeightsAlike_17 rfl (lv_at hl 1 rfl) ?_
        obtain ⟨t2, ht2, hf⟩ := ob hf
        refine k_PVi hC LX8_101 ⟨Nat.le_of_ble_eq_true rfl, Nat.le_of_ble_eq_true rfl⟩ ⟨Nat.zero_le _, Nat.zero_le _⟩ (cL_at l E (fun j => ad (1 + j)) q0_letters.1 q0_letters.2.1 q0_letters.2.2.1 q0_letters.2.2.2.1 q0_letters.2.2.2.2.1 q0_letters.2.2.2.2.2 a1 t2 ht2) rfl rfl (ss_letters hP) rfl rfl hl.1 rfl (Nat.le_of_ble_eq_true rfl) rfl dX8_areWeightsAlike_18 (fun hz18 => ?_)
        refine lv_aload_n hx hb dX8_areWeightsAlike_21 rfl (lv_at hl 0 rfl) ?_
        refine gX8_32 hC hP 0 rfl (v := .ref (ad 25)) rfl dX8_areWeightsAlike_22 ?_
        refine lv_iload_n hx hb dX8_areWeightsAlike_25 rfl (lv_at hl 1 rfl) ?_
        obtain ⟨t3, ht3, hf⟩ := ob hf
        refine k_PVi hC LX8_127 ⟨Nat.le_of_ble_eq_true rfl, Nat.le_of_ble_eq_true rfl⟩ ⟨Nat.zero_le _, Nat.zero_le _⟩ (cR_weightOf l E (fun j => ad (25 + j)) q0_rows.1 q0_rows.2.1 q0_rows.2.2.1 q0_rows.2.2.2.1 q0_rows.2.2.2.2.1 q0_rows.2.2.2.2.2 a1 t3 ht3) rfl rfl (ss_rows hP) rfl rfl hl.1 rfl (Nat.le_of_ble_eq_true rfl) rfl dX8_areWeightsAlike_26 (fun hz26 => ?_)
        refine lv_icmp_eq (tgt := 34) hx hb dX8_areWeightsAlike_29 (by decide) (fun c4 => ?_) (fun c4 => ?_)
        · have hf := ite_t hf c4
          refine lv_iinc (v := (a1 + (1 : Int32))) (lv' := [(1, .int (a1 + (1 : Int32))), (0, .ref (ad 0))]) hx hb dX8_areWeightsAlike_34 hl (k := 1) rfl rfl (by decide) rfl (fun ls hl => ?_)
          refine lv_goto (tgt := 2) hx hb dX8_areWeightsAlike_37 (by decide) ?_
          exact ih (a1 + (1 : Int32)) ls (lv_sub hl [1, 0] rfl) hf
        · have hf := ite_f hf c4
          refine lv_iconst (v := 0) hx hb dX8_areWeightsAlike_32 (by decide) ?_
          have hf := Option.some.inj hf
          exact e_Pz hC hr hlocks hf rfl dX8_areWeightsAlike_33
  rw [fS_areWeightsAlike] at hf
  refine lv_iconst (v := 0) hx hb dX8_areWeightsAlike_0 (by decide) ?_
  refine lv_istore_n (lv' := [(1, .int (0 : Int32)), (0, .ref (ad 0))]) hx hb dX8_areWeightsAlike_1 rfl hl (by decide) rfl (fun ls hl => ?_)
  exact L2 FU (0 : Int32) ls (lv_sub hl [1, 0] rfl) hf
abbrev rmS_areCountsAlike : Room := { frames := 4, cells := 0, slots := 0, locals := 90 }
set_option maxHeartbeats 4000000 in
set_option maxRecDepth 100000 in
theorem cS_areCountsAlike (l : Launch) (E : eE) (ad : Nat → Nat) (q0_letters : TL) (q0_trial : TL) (q0_snapshot : TL) (q0_isSaved : Int32) (q0_past : TP) (q0_rows : TR) (q0_bags : TB) (q0_tally : TY) (q0_sizes : TZ) (q0_text : TT) (q0_line : TN) (q0_latestReason : Int32) (q0_latestDetail : Int32) (r : Int32) (hf : fS_areCountsAlike q0_letters q0_rows = some r) : cP l E yX8_areCountsAlike cX8_areCountsAlike 3 (some .boolean) rmS_areCountsAlike [.ref (ad 0)] (wS E ad q0_letters q0_trial q0_snapshot q0_isSaved q0_past q0_rows q0_bags q0_tally q0_sizes q0_text q0_line q0_latestReason q0_latestDetail) (some (.int r)) := by
  refine Met.ofW (cc := cX8_areCountsAlike) (maxL := 3) (ret := (some .boolean)) (by decide) rfl ?_
  intro p e s m args below meth c s₁ B hml hv
  obtain ⟨hargs, hP, hK⟩ := hv
  have hx := B.exec
  have hb := B.bytes
  have hr := B.returns
  have hts := atoms_spec (ws := ws_ yX8_areCountsAlike cX8_areCountsAlike 3 (some .boolean)) B.pre
  have hta : ∀ w ∈ lw_all, w.before args s = true := fun w h => hts w (List.mem_cons_of_mem _ h)
  have hown : s.vm.findClass RX8 = some m.cls := findClass_of_methodNamed B.named
  have hlocks := B.notSynchronized
  have hC : Cx p s m args c cX8_areCountsAlike 3 RX8 E := ⟨hx, hb, hml, hown, hta, hK⟩
  obtain ⟨ls, he, hl⟩ := entry_ (m := m) (n := 3) hargs (Nat.le_of_ble_eq_true rfl)
  rw [he]
  have hl : lv_has ls 3 [(0, .ref (ad 0))] := hl
  show W p l e rmS_areCountsAlike s m args below meth c s.heap [] 0 0 (MQ below (qP (some .boolean) (some (.int r))) args s 0 0 (fun _ => False)) (F0 m 0 ls [])
  have L9 : ∀ (n : Nat) (a1 : Int32) (a2 : Int32) (ls : Array Slot), lv_has ls 3 [(0, .ref (ad 0)), (1, .int a1), (2, .int a2)] → ∀ (o : Int32 ⊕ (Unit)), fS_areCountsAlike_9 n q0_letters q0_rows a1 a2 = some o → (∀ r9, o = Sum.inl r9 → r9 = r) → (∀ (oy : (Unit)), o = Sum.inr oy → ∀ (ls : Array Slot), lv_has ls 3 [(0, .ref (ad 0)), (1, .int a1)] → W p l e rmS_areCountsAlike s m args below meth c s.heap [] 0 0 (MQ below (qP (some .boolean) (some (.int r))) args s 0 0 (fun _ => False)) (F0 m 74 ls [])) → W p l e rmS_areCountsAlike s m args below meth c s.heap [] 0 0 (MQ below (qP (some .boolean) (some (.int r))) args s 0 0 (fun _ => False)) (F0 m 9 ls []) := by
    intro n
    induction n with
    | zero => intro a1 a2 ls hl o hf hrt hk; cases hf
    | succ n ih =>
      intro a1 a2 ls hl o hf hrt hk
      rw [fS_areCountsAlike_9] at hf
      refine lv_iload_n hx hb dX8_areCountsAlike_9 rfl (lv_at hl 2 rfl) ?_
      refine lv_aload_n hx hb dX8_areCountsAlike_10 rfl (lv_at hl 0 rfl) ?_
      refine gX8_10 hC hP 0 rfl (v := .ref (ad 1)) rfl dX8_areCountsAlike_11 ?_
      refine k_PVi hC LX8_87 ⟨Nat.le_of_ble_eq_true rfl, Nat.le_of_ble_eq_true rfl⟩ ⟨Nat.zero_le _, Nat.zero_le _⟩ (cL_size l E (fun j => ad (1 + j)) q0_letters.1 q0_letters.2.1 q0_letters.2.2.1 q0_letters.2.2.2.1 q0_letters.2.2.2.2.1 q0_letters.2.2.2.2.2 _ rfl) rfl rfl (ss_letters hP) rfl rfl hl.1 rfl (Nat.le_of_ble_eq_true rfl) rfl dX8_areCountsAlike_14 (fun hz14 => ?_)
      refine lv_icmp_gt (tgt := 74) hx hb dX8_areCountsAlike_17 (by decide) (fun c2 => ?_) (fun c2 => ?_)
      · have hf := ite_t hf c2
        cases hf
        exact hk _ rfl ls (lv_sub hl [0, 1] rfl)
      · have hf := ite_f hf c2
        refine lv_aload_n hx hb dX8_areCountsAlike_20 rfl (lv_at hl 0 rfl) ?_
        refine gX8_32 hC hP 0 rfl (v := .ref (ad 25)) rfl dX8_areCountsAlike_21 ?_
        refine lv_iload_n hx hb dX8_areCountsAlike_24 rfl (lv_at hl 1 rfl) ?_
        refine lv_iconst (v := 1) hx hb dX8_areCountsAlike_25 (by decide) ?_
        refine lv_iload_n hx hb dX8_areCountsAlike_26 rfl (lv_at hl 2 rfl) ?_
        obtain ⟨t3, ht3, hf⟩ := ob hf
        refine k_PVi hC LX8_143 ⟨Nat.le_of_ble_eq_true rfl, Nat.le_of_ble_eq_true rfl⟩ ⟨Nat.zero_le _, Nat.zero_le _⟩ (cR_ahead l E (fun j => ad (25 + j)) q0_rows.1 q0_rows.2.1 q0_rows.2.2.1 q0_rows.2.2.2.1 q0_rows.2.2.2.2.1 q0_rows.2.2.2.2.2 a1 (1 : Int32) a2 t3 ht3) rfl rfl (ss_rows hP) rfl rfl hl.1 rfl (Nat.le_of_ble_eq_true rfl) rfl dX8_areCountsAlike_27 (fun hz27 => ?_)
        refine lv_aload_n hx hb dX8_areCountsAlike_30 rfl (lv_at hl 0 rfl) ?_
        refine gX8_32 hC hP 0 rfl (v := .ref (ad 25)) rfl dX8_areCountsAlike_31 ?_
        refine lv_iload_n hx hb dX8_areCountsAlike_34 rfl (lv_at hl 1 rfl) ?_
        refine lv_iconst (v := 1) hx hb dX8_areCountsAlike_35 (by decide) ?_
        refine lv_iload_n hx hb dX8_areCountsAlike_36 rfl (lv_at hl 2 rfl) ?_
        obtain ⟨t4, ht4, hf⟩ := ob hf
        refine k_PVi hC LX8_147 ⟨Nat.le_of_ble_eq_true rfl, Nat.le_of_ble_eq_true rfl⟩ ⟨Nat.zero_le _, Nat.zero_le _⟩ (cR_aheadOneByOne l E (fun j => ad (25 + j)) q0_rows.1 q0_rows.2.1 q0_rows.2.2.1 q0_rows.2.2.2.1 q0_rows.2.2.2.2.1 q0_rows.2.2.2.2.2 a1 (1 : Int32) a2 t4 ht4) rfl rfl (ss_rows hP) rfl rfl hl.1 rfl (Nat.le_of_ble_eq_true rfl) rfl dX8_areCountsAlike_37 (fun hz37 => ?_)
        refine lv_icmp_ne (tgt := 66) hx hb dX8_areCountsAlike_40 (by decide) (fun c5 => ?_) (fun c5 => ?_)
        · have hf := ite_f hf c5
          refine lv_iconst (v := 0) hx hb dX8_areCountsAlike_66 (by decide) ?_
          cases hf
          have hf := hrt _ rfl
          exact e_Pz hC hr hlocks hf rfl dX8_areCountsAlike_67
        · have hf := ite_t hf c5
          refine lv_aload_n hx hb dX8_areCountsAlike_43 rfl (lv_at hl 0 rfl) ?_
          refine gX8_32 hC hP 0 rfl (v := .ref (ad 25)) rfl dX8_areCountsAlike_44 ?_
          refine lv_iload_n hx hb dX8_areCountsAlike_47 rfl (lv_at hl 1 rfl) ?_
          refine lv_iconst (v := 0) hx hb dX8_areCountsAlike_48 (by decide) ?_
          refine lv_iload_n hx hb dX8_areCountsAlike_49 rfl (lv_at hl 2 rfl) ?_
          obtain ⟨t6, ht6, hf⟩ := ob hf
          refine k_PVi hC LX8_143 ⟨Nat.le_of_ble_eq_true rfl, Nat.le_of_ble_eq_true rfl⟩ ⟨Nat.zero_le _, Nat.zero_le _⟩ (cR_ahead l E (fun j => ad (25 + j)) q0_rows.1 q0_rows.2.1 q0_rows.2.2.1 q0_rows.2.2.2.1 q0_rows.2.2.2.2.1 q0_rows.2.2.2.2.2 a1 (0 : Int32) a2 t6 ht6) rfl rfl (ss_rows hP) rfl rfl hl.1 rfl (Nat.le_of_ble_eq_true rfl) rfl dX8_areCountsAlike_50 (fun hz50 => ?_)
          refine lv_aload_n hx hb dX8_areCountsAlike_53 rfl (lv_at hl 0 rfl) ?_
          refine gX8_32 hC hP 0 rfl (v := .ref (ad 25)) rfl dX8_areCountsAlike_54 ?_
          refine lv_iload_n hx hb dX8_areCountsAlike_57 rfl (lv_at hl 1 rfl) ?_
          refine lv_iconst (v := 0) hx hb dX8_areCountsAlike_58 (by decide) ?_
          refine lv_iload_n hx hb dX8_areCountsAlike_59 rfl (lv_at hl 2 rfl) ?_
          obtain ⟨t7, ht7, hf⟩ := ob hf
          refine k_PVi hC LX8_147 ⟨Nat.le_of_ble_eq_true rfl, Nat.le_of_ble_eq_true rfl⟩ ⟨Nat.zero_le _, Nat.zero_le _⟩ (cR_aheadOneByOne l E (fun j => ad (25 + j)) q0_rows.1 q0_rows.2.1 q0_rows.2.2.1 q0_rows.2.2.2.1 q0_rows.2.2.2.2.1 q0_rows.2.2.2.2.2 a1 (0 : Int32) a2 t7 ht7) rfl rfl (ss_rows hP) rfl rfl hl.1 rfl (Nat.le_of_ble_eq_true rfl) rfl dX8_areCountsAlike_60 (fun hz60 => ?_)
          refine lv_icmp_eq (tgt := 68) hx hb dX8_areCountsAlike_63 (by decide) (fun c8 => ?_) (fun c8 => ?_)
          · have hf := ite_t hf c8
            refine lv_iinc (v := (a2 + (8 : Int32))) (lv' := [(2, .int (a2 + (8 : Int32))), (0, .ref (ad 0)), (1, .int a1)]) hx hb dX8_areCountsAlike_68 hl (k := 2) rfl rfl (by decide) rfl (fun ls hl => ?_)
            refine lv_goto (tgt := 9) hx hb dX8_areCountsAlike_71 (by decide) ?_
            exact ih a1 (a2 + (8 : Int32)) ls (lv_sub hl [1, 2, 0] rfl) _ hf hrt hk
          · have hf := ite_f hf c8
            refine lv_iconst (v := 0) hx hb dX8_areCountsAlike_66 (by decide) ?_
            cases hf
            have hf := hrt _ rfl
            exact e_Pz hC hr hlocks hf rfl dX8_areCountsAlike_67
  have L2 : ∀ (n : Nat) (a1 : Int32) (ls : Array Slot), lv_has ls 3 [(0, .ref (ad 0)), (1, .int a1)] → fS_areCountsAlike_2 n q0_letters q0_rows a1 = some r → W p l e rmS_areCountsAlike s m args below meth c s.heap [] 0 0 (MQ below (qP (some .boolean) (some (.int r))) args s 0 0 (fun _ => False)) (F0 m 2 ls []) := by
    intro n
    induction n with
    | zero => intro a1 ls hl hf; cases hf
    | succ n ih =>
      intro a1 ls hl hf
      rw [fS_areCountsAlike_2] at hf
      refine lv_iload_n hx hb dX8_areCountsAlike_2 rfl (lv_at hl 1 rfl) ?_
      refine lv_iconst (v := 5) hx hb dX8_areCountsAlike_3 (by decide) ?_
      refine lv_icmp_ge (tgt := 80) hx hb dX8_areCountsAlike_4 (by decide) (fun c1 => ?_) (fun c1 => ?_)
      · have hf := ite_t hf c1
        refine lv_iconst (v := 1) hx hb dX8_areCountsAlike_80 (by decide) ?_
        have hf := Option.some.inj hf
        exact e_Pz hC hr hlocks hf rfl dX8_areCountsAlike_81
      · have hf := ite_f hf c1
        refine lv_iconst (v := 0) hx hb dX8_areCountsAlike_7 (by decide) ?_
        refine lv_istore_n (lv' := [(2, .int (0 : Int32)), (0, .ref (ad 0)), (1, .int a1)]) hx hb dX8_areCountsAlike_8 rfl hl (by decide) rfl (fun ls hl => ?_)
        obtain ⟨o9, ho9, hf⟩ := ob hf
        refine L9 FU a1 (0 : Int32) ls (lv_sub hl [1, 2, 0] rfl) o9 ho9 (fun r9 e9 => by subst e9; exact Option.some.inj hf) (fun o9x e9 ls hl => ?_)
        subst e9
        have hf := sum_r hf
        refine lv_iinc (v := (a1 + (1 : Int32))) (lv' := [(1, .int (a1 + (1 : Int32))), (0, .ref (ad 0))]) hx hb dX8_areCountsAlike_74 hl (k := 1) rfl rfl (by decide) rfl (fun ls hl => ?_)
        refine lv_goto (tgt := 2) hx hb dX8_areCountsAlike_77 (by decide) ?_
        exact ih (a1 + (1 : Int32)) ls (lv_sub hl [1, 0] rfl) hf
  rw [fS_areCountsAlike] at hf
  refine lv_iconst (v := 0) hx hb dX8_areCountsAlike_0 (by decide) ?_
  refine lv_istore_n (lv' := [(1, .int (0 : Int32)), (0, .ref (ad 0))]) hx hb dX8_areCountsAlike_1 rfl hl (by decide) rfl (fun ls hl => ?_)
  exact L2 FU (0 : Int32) ls (lv_sub hl [1, 0] rfl) hf
abbrev rmS_areSizesAlike : Room := { frames := 4, cells := 0, slots := 0, locals := 102 }
set_option maxHeartbeats 4000000 in
set_option maxRecDepth 100000 in
theorem cS_areSizesAlike (l : Launch) (E : eE) (ad : Nat → Nat) (q0_letters : TL) (q0_trial : TL) (q0_snapshot : TL) (q0_isSaved : Int32) (q0_past : TP) (q0_rows : TR) (q0_bags : TB) (q0_tally : TY) (q0_sizes : TZ) (q0_text : TT) (q0_line : TN) (q0_latestReason : Int32) (q0_latestDetail : Int32) (t : Int32 × TZ) (hf : fS_areSizesAlike q0_letters q0_rows q0_sizes = some t) : cW l E yX8_areSizesAlike cX8_areSizesAlike 3 (some .boolean) rmS_areSizesAlike [.ref (ad 0)] (wS E ad q0_letters q0_trial q0_snapshot q0_isSaved q0_past q0_rows q0_bags q0_tally q0_sizes q0_text q0_line q0_latestReason q0_latestDetail) (some (.int t.1)) (wS E ad q0_letters q0_trial q0_snapshot q0_isSaved q0_past q0_rows q0_bags q0_tally t.2 q0_text q0_line q0_latestReason q0_latestDetail) := by
  refine Met.ofW (cc := cX8_areSizesAlike) (maxL := 3) (ret := (some .boolean)) (by decide) rfl ?_
  intro p e s m args below meth c s₁ B hml hv
  obtain ⟨hargs, hP, hK, hD0⟩ := hv
  have hx := B.exec
  have hb := B.bytes
  have hr := B.returns
  have hts := atoms_spec (ws := ws_ yX8_areSizesAlike cX8_areSizesAlike 3 (some .boolean)) B.pre
  have hta : ∀ w ∈ lw_all, w.before args s = true := fun w h => hts w (List.mem_cons_of_mem _ h)
  have hown : s.vm.findClass RX8 = some m.cls := findClass_of_methodNamed B.named
  have hlocks := B.notSynchronized
  have hC : Cx p s m args c cX8_areSizesAlike 3 RX8 E := ⟨hx, hb, hml, hown, hta, hK⟩
  have hH : Hp E (adr (wS E ad q0_letters q0_trial q0_snapshot q0_isSaved q0_past q0_rows q0_bags q0_tally q0_sizes q0_text q0_line q0_latestReason q0_latestDetail)) (wS E ad q0_letters q0_trial q0_snapshot q0_isSaved q0_past q0_rows q0_bags q0_tally q0_sizes q0_text q0_line q0_latestReason q0_latestDetail) s.heap s.heap [] := Hp.start hP hD0
  obtain ⟨ls, he, hl⟩ := entry_ (m := m) (n := 3) hargs (Nat.le_of_ble_eq_true rfl)
  rw [he]
  have hl : lv_has ls 3 [(0, .ref (ad 0))] := hl
  show W p l e rmS_areSizesAlike s m args below meth c s.heap [] 0 0 (MQ below (qW E (some .boolean) (some (.int t.1)) (wS E ad q0_letters q0_trial q0_snapshot q0_isSaved q0_past q0_rows q0_bags q0_tally q0_sizes q0_text q0_line q0_latestReason q0_latestDetail) (wS E ad q0_letters q0_trial q0_snapshot q0_isSaved q0_past q0_rows q0_bags q0_tally t.2 q0_text q0_line q0_latestReason q0_latestDetail)) args s 0 0 (adr (wS E ad q0_letters q0_trial q0_snapshot q0_isSaved q0_past q0_rows q0_bags q0_tally q0_sizes q0_text q0_line q0_latestReason q0_latestDetail))) (F0 m 0 ls [])
  suffices hmain : ∀ (H : Heap) (locs : List Loc), Hp E (adr (wS E ad q0_letters q0_trial q0_snapshot q0_isSaved q0_past q0_rows q0_bags q0_tally q0_sizes q0_text q0_line q0_latestReason q0_latestDetail)) (wS E ad q0_letters q0_trial q0_snapshot q0_isSaved q0_past q0_rows q0_bags q0_tally q0_sizes q0_text q0_line q0_latestReason q0_latestDetail) s.heap H locs → W p l e rmS_areSizesAlike s m args below meth c H locs 0 0 (MQ below (qW E (some .boolean) (some (.int t.1)) (wS E ad q0_letters q0_trial q0_snapshot q0_isSaved q0_past q0_rows q0_bags q0_tally q0_sizes q0_text q0_line q0_latestReason q0_latestDetail) (wS E ad q0_letters q0_trial q0_snapshot q0_isSaved q0_past q0_rows q0_bags q0_tally t.2 q0_text q0_line q0_latestReason q0_latestDetail)) args s 0 0 (adr (wS E ad q0_letters q0_trial q0_snapshot q0_isSaved q0_past q0_rows q0_bags q0_tally q0_sizes q0_text q0_line q0_latestReason q0_latestDetail))) (F0 m 0 ls []) from hmain _ _ hH
  clear hH
  have L23 : ∀ (n : Nat) (y0_8 : TZ) (a1 : Int32) (a2 : Int32) (ls : Array Slot), lv_has ls 3 [(0, .ref (ad 0)), (1, .int a1), (2, .int a2)] → ∀ (H : Heap) (locs : List Loc), Hp E (adr (wS E ad q0_letters q0_trial q0_snapshot q0_isSaved q0_past q0_rows q0_bags q0_tally q0_sizes q0_text q0_line q0_latestReason q0_latestDetail)) (wS E ad q0_letters q0_trial q0_snapshot q0_isSaved q0_past q0_rows q0_bags q0_tally y0_8 q0_text q0_line q0_latestReason q0_latestDetail) s.heap H locs → fS_areSizesAlike_23 n q0_letters q0_rows y0_8 a1 a2 = some t → W p l e rmS_areSizesAlike s m args below meth c H locs 0 0 (MQ below (qW E (some .boolean) (some (.int t.1)) (wS E ad q0_letters q0_trial q0_snapshot q0_isSaved q0_past q0_rows q0_bags q0_tally q0_sizes q0_text q0_line q0_latestReason q0_latestDetail) (wS E ad q0_letters q0_trial q0_snapshot q0_isSaved q0_past q0_rows q0_bags q0_tally t.2 q0_text q0_line q0_latestReason q0_latestDetail)) args s 0 0 (adr (wS E ad q0_letters q0_trial q0_snapshot q0_isSaved q0_past q0_rows q0_bags q0_tally q0_sizes q0_text q0_line q0_latestReason q0_latestDetail))) (F0 m 23 ls []) := by
    intro n
    induction n with
    | zero => intro y0_8 a1 a2 ls hl H locs hH hf; cases hf
    | succ n ih =>
      intro y0_8 a1 a2 ls hl H locs hH hf
      rw [fS_areSizesAlike_23] at hf
      refine lv_iload_n hx hb dX8_areSizesAlike_23 rfl (lv_at hl 2 rfl) ?_
      refine lv_iload_n hx hb dX8_areSizesAlike_24 rfl (lv_at hl 1 rfl) ?_
      refine lv_icmp_ge (tgt := 57) hx hb dX8_areSizesAlike_25 (by decide) (fun c2 => ?_) (fun c2 => ?_)
      · have hf := ite_t hf c2
        refine lv_iconst (v := 1) hx hb dX8_areSizesAlike_57 (by decide) ?_
        have hf := Option.some.inj hf
        subst hf
        exact e_Wz hC hH hr hlocks rfl rfl rfl dX8_areSizesAlike_58
      · have hf := ite_f hf c2
        refine lv_aload_n hx hb dX8_areSizesAlike_28 rfl (lv_at hl 0 rfl) ?_
        refine gX8_53 hC hH.1 0 rfl (v := .ref (ad 41)) rfl dX8_areSizesAlike_29 ?_
        refine lv_iload_n hx hb dX8_areSizesAlike_32 rfl (lv_at hl 2 rfl) ?_
        obtain ⟨t3, ht3, hf⟩ := ob hf
        refine k_PVi hC LX8_168 ⟨Nat.le_of_ble_eq_true rfl, Nat.le_of_ble_eq_true rfl⟩ ⟨Nat.zero_le _, Nat.zero_le _⟩ (cZ_at l E (fun j => ad (41 + j)) y0_8.1 y0_8.2 a2 t3 ht3) rfl rfl (ss_sizes hH.1) rfl rfl hl.1 rfl (Nat.le_of_ble_eq_true rfl) rfl dX8_areSizesAlike_33 (fun hz33 => ?_)
        refine lv_aload_n hx hb dX8_areSizesAlike_36 rfl (lv_at hl 0 rfl) ?_
        refine gX8_32 hC hH.1 0 rfl (v := .ref (ad 25)) rfl dX8_areSizesAlike_37 ?_
        refine lv_iconst (v := 0) hx hb dX8_areSizesAlike_40 (by decide) ?_
        refine lv_iload_n hx hb dX8_areSizesAlike_41 rfl (lv_at hl 1 rfl) ?_
        refine lv_iload_n hx hb dX8_areSizesAlike_42 rfl (lv_at hl 2 rfl) ?_
        obtain ⟨t4, ht4, hf⟩ := ob hf
        refine k_PVi hC LX8_160 ⟨Nat.le_of_ble_eq_true rfl, Nat.le_of_ble_eq_true rfl⟩ ⟨Nat.zero_le _, Nat.zero_le _⟩ (cR_weightBySize l E (fun j => ad (25 + j)) q0_rows.1 q0_rows.2.1 q0_rows.2.2.1 q0_rows.2.2.2.1 q0_rows.2.2.2.2.1 q0_rows.2.2.2.2.2 (0 : Int32) a1 a2 t4 ht4) rfl rfl (ss_rows hH.1) rfl rfl hl.1 rfl (Nat.le_of_ble_eq_true rfl) rfl dX8_areSizesAlike_43 (fun hz43 => ?_)
        refine lv_icmp_eq (tgt := 51) hx hb dX8_areSizesAlike_46 (by decide) (fun c5 => ?_) (fun c5 => ?_)
        · have hf := ite_t hf c5
          refine lv_iinc (v := (a2 + (1 : Int32))) (lv' := [(2, .int (a2 + (1 : Int32))), (0, .ref (ad 0)), (1, .int a1)]) hx hb dX8_areSizesAlike_51 hl (k := 2) rfl rfl (by decide) rfl (fun ls hl => ?_)
          refine lv_goto (tgt := 23) hx hb dX8_areSizesAlike_54 (by decide) ?_
          exact ih y0_8 a1 (a2 + (1 : Int32)) ls (lv_sub hl [1, 2, 0] rfl) _ _ hH hf
        · have hf := ite_f hf c5
          refine lv_iconst (v := 0) hx hb dX8_areSizesAlike_49 (by decide) ?_
          have hf := Option.some.inj hf
          subst hf
          exact e_Wz hC hH hr hlocks rfl rfl rfl dX8_areSizesAlike_50
  intro H locs hH
  rw [fS_areSizesAlike] at hf
  refine lv_aload_n hx hb dX8_areSizesAlike_0 rfl (lv_at hl 0 rfl) ?_
  refine gX8_10 hC hH.1 0 rfl (v := .ref (ad 1)) rfl dX8_areSizesAlike_1 ?_
  refine k_PVi hC LX8_87 ⟨Nat.le_of_ble_eq_true rfl, Nat.le_of_ble_eq_true rfl⟩ ⟨Nat.zero_le _, Nat.zero_le _⟩ (cL_size l E (fun j => ad (1 + j)) q0_letters.1 q0_letters.2.1 q0_letters.2.2.1 q0_letters.2.2.2.1 q0_letters.2.2.2.2.1 q0_letters.2.2.2.2.2 _ rfl) rfl rfl (ss_letters hH.1) rfl rfl hl.1 rfl (Nat.le_of_ble_eq_true rfl) rfl dX8_areSizesAlike_4 (fun hz4 => ?_)
  refine lv_istore_n (lv' := [(1, .int (fL_size q0_letters.2.1)), (0, .ref (ad 0))]) hx hb dX8_areSizesAlike_7 rfl hl (by decide) rfl (fun ls hl => ?_)
  refine lv_aload_n hx hb dX8_areSizesAlike_8 rfl (lv_at hl 1 rfl) ?_
  refine gX8_53 hC hH.1 0 rfl (v := .ref (ad 41)) rfl dX8_areSizesAlike_9 ?_
  refine lv_aload_n hx hb dX8_areSizesAlike_12 rfl (lv_at hl 1 rfl) ?_
  refine gX8_10 hC hH.1 0 rfl (v := .ref (ad 1)) rfl dX8_areSizesAlike_13 ?_
  refine lv_iconst (v := 0) hx hb dX8_areSizesAlike_16 (by decide) ?_
  refine lv_iload_n hx hb dX8_areSizesAlike_17 rfl (lv_at hl 0 rfl) ?_
  obtain ⟨t1, ht1, hf⟩ := ob hf
  refine k_WVpv hC LX8_164 ⟨Nat.le_of_ble_eq_true rfl, Nat.le_of_ble_eq_true rfl⟩ ⟨Nat.zero_le _, Nat.zero_le _⟩ (cZ_fill l E (fun j => ad (41 + j)) q0_sizes.1 q0_sizes.2 (fun j => ad (1 + j)) q0_letters.1 q0_letters.2.1 q0_letters.2.2.1 q0_letters.2.2.2.1 q0_letters.2.2.2.2.1 q0_letters.2.2.2.2.2 (0 : Int32) (fL_size q0_letters.2.1) t1 ht1) rfl rfl hH (W1 := wS E ad q0_letters q0_trial q0_snapshot q0_isSaved q0_past q0_rows q0_bags q0_tally (t1.1, t1.2) q0_text q0_line q0_latestReason q0_latestDetail) (sp_sizes_letters E ad q0_letters q0_trial q0_snapshot q0_isSaved q0_past q0_rows q0_bags q0_tally q0_sizes q0_text q0_line q0_latestReason q0_latestDetail) (sq_sizes_letters E ad q0_letters q0_trial q0_snapshot q0_isSaved q0_past q0_rows q0_bags q0_tally q0_sizes q0_text q0_line q0_latestReason q0_latestDetail t1.1 t1.2 q0_letters.1 q0_letters.2.1 q0_letters.2.2.1 q0_letters.2.2.2.1 q0_letters.2.2.2.2.1 q0_letters.2.2.2.2.2) rfl rfl rfl hl.1 rfl (Nat.le_of_ble_eq_true rfl) rfl dX8_areSizesAlike_18 (fun H locs hz18 hH => ?_)
  refine lv_iconst (v := 0) hx hb dX8_areSizesAlike_21 (by decide) ?_
  refine lv_istore_n (lv' := [(2, .int (0 : Int32)), (1, .int (fL_size q0_letters.2.1)), (0, .ref (ad 0))]) hx hb dX8_areSizesAlike_22 rfl hl (by decide) rfl (fun ls hl => ?_)
  exact L23 FU (t1.1, t1.2) (fL_size q0_letters.2.1) (0 : Int32) ls (lv_sub hl [2, 1, 0] rfl) _ _ hH hf
abbrev rmS_lettersOfBags : Room := { frames := 2, cells := 0, slots := 0, locals := 42 }
set_option maxHeartbeats 4000000 in
set_option maxRecDepth 100000 in
theorem cS_lettersOfBags (l : Launch) (E : eE) (ad : Nat → Nat) (q0_letters : TL) (q0_trial : TL) (q0_snapshot : TL) (q0_isSaved : Int32) (q0_past : TP) (q0_rows : TR) (q0_bags : TB) (q0_tally : TY) (q0_sizes : TZ) (q0_text : TT) (q0_line : TN) (q0_latestReason : Int32) (q0_latestDetail : Int32) (r : Int32) (hf : fS_lettersOfBags q0_bags = some r) : cP l E yX8_lettersOfBags cX8_lettersOfBags 3 (some .int) rmS_lettersOfBags [.ref (ad 0)] (wS E ad q0_letters q0_trial q0_snapshot q0_isSaved q0_past q0_rows q0_bags q0_tally q0_sizes q0_text q0_line q0_latestReason q0_latestDetail) (some (.int r)) := by
  refine Met.ofW (cc := cX8_lettersOfBags) (maxL := 3) (ret := (some .int)) (by decide) rfl ?_
  intro p e s m args below meth c s₁ B hml hv
  obtain ⟨hargs, hP, hK⟩ := hv
  have hx := B.exec
  have hb := B.bytes
  have hr := B.returns
  have hts := atoms_spec (ws := ws_ yX8_lettersOfBags cX8_lettersOfBags 3 (some .int)) B.pre
  have hta : ∀ w ∈ lw_all, w.before args s = true := fun w h => hts w (List.mem_cons_of_mem _ h)
  have hown : s.vm.findClass RX8 = some m.cls := findClass_of_methodNamed B.named
  have hlocks := B.notSynchronized
  have hC : Cx p s m args c cX8_lettersOfBags 3 RX8 E := ⟨hx, hb, hml, hown, hta, hK⟩
  obtain ⟨ls, he, hl⟩ := entry_ (m := m) (n := 3) hargs (Nat.le_of_ble_eq_true rfl)
  rw [he]
  have hl : lv_has ls 3 [(0, .ref (ad 0))] := hl
  show W p l e rmS_lettersOfBags s m args below meth c s.heap [] 0 0 (MQ below (qP (some .int) (some (.int r))) args s 0 0 (fun _ => False)) (F0 m 0 ls [])
  have L4 : ∀ (n : Nat) (a1 : Int32) (a2 : Int32) (ls : Array Slot), lv_has ls 3 [(0, .ref (ad 0)), (1, .int a1), (2, .int a2)] → fS_lettersOfBags_4 n q0_bags a1 a2 = some r → W p l e rmS_lettersOfBags s m args below meth c s.heap [] 0 0 (MQ below (qP (some .int) (some (.int r))) args s 0 0 (fun _ => False)) (F0 m 4 ls []) := by
    intro n
    induction n with
    | zero => intro a1 a2 ls hl hf; cases hf
    | succ n ih =>
      intro a1 a2 ls hl hf
      rw [fS_lettersOfBags_4] at hf
      refine lv_iload_n hx hb dX8_lettersOfBags_4 rfl (lv_at hl 2 rfl) ?_
      refine lv_aload_n hx hb dX8_lettersOfBags_5 rfl (lv_at hl 0 rfl) ?_
      refine gX8_39 hC hP 0 rfl (v := .ref (ad 36)) rfl dX8_lettersOfBags_6 ?_
      refine k_PVi hC LX8_185 ⟨Nat.le_of_ble_eq_true rfl, Nat.le_of_ble_eq_true rfl⟩ ⟨Nat.zero_le _, Nat.zero_le _⟩ (cB_number l E (fun j => ad (36 + j)) q0_bags.1 q0_bags.2.1 q0_bags.2.2.1 q0_bags.2.2.2 _ rfl) rfl rfl (ss_bags hP) rfl rfl hl.1 rfl (Nat.le_of_ble_eq_true rfl) rfl dX8_lettersOfBags_9 (fun hz9 => ?_)
      refine lv_icmp_ge (tgt := 41) hx hb dX8_lettersOfBags_12 (by decide) (fun c1 => ?_) (fun c1 => ?_)
      · have hf := ite_t hf c1
        refine lv_iload_n hx hb dX8_lettersOfBags_41 rfl (lv_at hl 1 rfl) ?_
        have hf := Option.some.inj hf
        exact e_Pi hC hr hlocks hf dX8_lettersOfBags_42
      · have hf := ite_f hf c1
        refine lv_iload_n hx hb dX8_lettersOfBags_15 rfl (lv_at hl 1 rfl) ?_
        refine lv_aload_n hx hb dX8_lettersOfBags_16 rfl (lv_at hl 0 rfl) ?_
        refine gX8_39 hC hP 0 rfl (v := .ref (ad 36)) rfl dX8_lettersOfBags_17 ?_
        refine lv_iload_n hx hb dX8_lettersOfBags_20 rfl (lv_at hl 2 rfl) ?_
        obtain ⟨t2, ht2, hf⟩ := ob hf
        refine k_PVi hC LX8_191 ⟨Nat.le_of_ble_eq_true rfl, Nat.le_of_ble_eq_true rfl⟩ ⟨Nat.zero_le _, Nat.zero_le _⟩ (cB_endOf l E (fun j => ad (36 + j)) q0_bags.1 q0_bags.2.1 q0_bags.2.2.1 q0_bags.2.2.2 a2 t2 ht2) rfl rfl (ss_bags hP) rfl rfl hl.1 rfl (Nat.le_of_ble_eq_true rfl) rfl dX8_lettersOfBags_21 (fun hz21 => ?_)
        refine lv_aload_n hx hb dX8_lettersOfBags_24 rfl (lv_at hl 0 rfl) ?_
        refine gX8_39 hC hP 0 rfl (v := .ref (ad 36)) rfl dX8_lettersOfBags_25 ?_
        refine lv_iload_n hx hb dX8_lettersOfBags_28 rfl (lv_at hl 2 rfl) ?_
        obtain ⟨t3, ht3, hf⟩ := ob hf
        refine k_PVi hC LX8_188 ⟨Nat.le_of_ble_eq_true rfl, Nat.le_of_ble_eq_true rfl⟩ ⟨Nat.zero_le _, Nat.zero_le _⟩ (cB_beginOf l E (fun j => ad (36 + j)) q0_bags.1 q0_bags.2.1 q0_bags.2.2.1 q0_bags.2.2.2 a2 t3 ht3) rfl rfl (ss_bags hP) rfl rfl hl.1 rfl (Nat.le_of_ble_eq_true rfl) rfl dX8_lettersOfBags_29 (fun hz29 => ?_)
        refine lv_isub hx hb dX8_lettersOfBags_32 ?_
        refine lv_iadd hx hb dX8_lettersOfBags_33 ?_
        refine lv_istore_n (lv' := [(1, .int (a1 + (t2 - t3))), (0, .ref (ad 0)), (2, .int a2)]) hx hb dX8_lettersOfBags_34 rfl hl (by decide) rfl (fun ls hl => ?_)
        refine lv_iinc (v := (a2 + (1 : Int32))) (lv' := [(2, .int (a2 + (1 : Int32))), (1, .int (a1 + (t2 - t3))), (0, .ref (ad 0))]) hx hb dX8_lettersOfBags_35 hl (k := 2) rfl rfl (by decide) rfl (fun ls hl => ?_)
        refine lv_goto (tgt := 4) hx hb dX8_lettersOfBags_38 (by decide) ?_
        exact ih (a1 + (t2 - t3)) (a2 + (1 : Int32)) ls (lv_sub hl [2, 1, 0] rfl) hf
  rw [fS_lettersOfBags] at hf
  refine lv_iconst (v := 0) hx hb dX8_lettersOfBags_0 (by decide) ?_
  refine lv_istore_n (lv' := [(1, .int (0 : Int32)), (0, .ref (ad 0))]) hx hb dX8_lettersOfBags_1 rfl hl (by decide) rfl (fun ls hl => ?_)
  refine lv_iconst (v := 0) hx hb dX8_lettersOfBags_2 (by decide) ?_
  refine lv_istore_n (lv' := [(2, .int (0 : Int32)), (1, .int (0 : Int32)), (0, .ref (ad 0))]) hx hb dX8_lettersOfBags_3 rfl hl (by decide) rfl (fun ls hl => ?_)
  exact L4 FU (0 : Int32) (0 : Int32) ls (lv_sub hl [2, 1, 0] rfl) hf
abbrev rmS_isBalanced : Room := { frames := 5, cells := 0, slots := 0, locals := 124 }
set_option maxHeartbeats 4000000 in
set_option maxRecDepth 100000 in
theorem cS_isBalanced (l : Launch) (E : eE) (ad : Nat → Nat) (q0_letters : TL) (q0_trial : TL) (q0_snapshot : TL) (q0_isSaved : Int32) (q0_past : TP) (q0_rows : TR) (q0_bags : TB) (q0_tally : TY) (q0_sizes : TZ) (q0_text : TT) (q0_line : TN) (q0_latestReason : Int32) (q0_latestDetail : Int32) (t : Int32 × TZ) (hf : fS_isBalanced q0_letters q0_rows q0_bags q0_sizes = some t) : cW l E yX8_isBalanced cX8_isBalanced 2 (some .int) rmS_isBalanced [.ref (ad 0)] (wS E ad q0_letters q0_trial q0_snapshot q0_isSaved q0_past q0_rows q0_bags q0_tally q0_sizes q0_text q0_line q0_latestReason q0_latestDetail) (some (.int t.1)) (wS E ad q0_letters q0_trial q0_snapshot q0_isSaved q0_past q0_rows q0_bags q0_tally t.2 q0_text q0_line q0_latestReason q0_latestDetail) := by
  refine Met.ofW (cc := cX8_isBalanced) (maxL := 2) (ret := (some .int)) (by decide) rfl ?_
  intro p e s m args below meth c s₁ B hml hv
  obtain ⟨hargs, hP, hK, hD0⟩ := hv
  have hx := B.exec
  have hb := B.bytes
  have hr := B.returns
  have hts := atoms_spec (ws := ws_ yX8_isBalanced cX8_isBalanced 2 (some .int)) B.pre
  have hta : ∀ w ∈ lw_all, w.before args s = true := fun w h => hts w (List.mem_cons_of_mem _ h)
  have hown : s.vm.findClass RX8 = some m.cls := findClass_of_methodNamed B.named
  have hlocks := B.notSynchronized
  have hC : Cx p s m args c cX8_isBalanced 2 RX8 E := ⟨hx, hb, hml, hown, hta, hK⟩
  have hH : Hp E (adr (wS E ad q0_letters q0_trial q0_snapshot q0_isSaved q0_past q0_rows q0_bags q0_tally q0_sizes q0_text q0_line q0_latestReason q0_latestDetail)) (wS E ad q0_letters q0_trial q0_snapshot q0_isSaved q0_past q0_rows q0_bags q0_tally q0_sizes q0_text q0_line q0_latestReason q0_latestDetail) s.heap s.heap [] := Hp.start hP hD0
  obtain ⟨ls, he, hl⟩ := entry_ (m := m) (n := 2) hargs (Nat.le_of_ble_eq_true rfl)
  rw [he]
  have hl : lv_has ls 2 [(0, .ref (ad 0))] := hl
  show W p l e rmS_isBalanced s m args below meth c s.heap [] 0 0 (MQ below (qW E (some .int) (some (.int t.1)) (wS E ad q0_letters q0_trial q0_snapshot q0_isSaved q0_past q0_rows q0_bags q0_tally q0_sizes q0_text q0_line q0_latestReason q0_latestDetail) (wS E ad q0_letters q0_trial q0_snapshot q0_isSaved q0_past q0_rows q0_bags q0_tally t.2 q0_text q0_line q0_latestReason q0_latestDetail)) args s 0 0 (adr (wS E ad q0_letters q0_trial q0_snapshot q0_isSaved q0_past q0_rows q0_bags q0_tally q0_sizes q0_text q0_line q0_latestReason q0_latestDetail))) (F0 m 0 ls [])
  suffices hmain : ∀ (H : Heap) (locs : List Loc), Hp E (adr (wS E ad q0_letters q0_trial q0_snapshot q0_isSaved q0_past q0_rows q0_bags q0_tally q0_sizes q0_text q0_line q0_latestReason q0_latestDetail)) (wS E ad q0_letters q0_trial q0_snapshot q0_isSaved q0_past q0_rows q0_bags q0_tally q0_sizes q0_text q0_line q0_latestReason q0_latestDetail) s.heap H locs → W p l e rmS_isBalanced s m args below meth c H locs 0 0 (MQ below (qW E (some .int) (some (.int t.1)) (wS E ad q0_letters q0_trial q0_snapshot q0_isSaved q0_past q0_rows q0_bags q0_tally q0_sizes q0_text q0_line q0_latestReason q0_latestDetail) (wS E ad q0_letters q0_trial q0_snapshot q0_isSaved q0_past q0_rows q0_bags q0_tally t.2 q0_text q0_line q0_latestReason q0_latestDetail)) args s 0 0 (adr (wS E ad q0_letters q0_trial q0_snapshot q0_isSaved q0_past q0_rows q0_bags q0_tally q0_sizes q0_text q0_line q0_latestReason q0_latestDetail))) (F0 m 0 ls []) from hmain _ _ hH
  clear hH
  intro H locs hH
  rw [fS_isBalanced] at hf
  refine lv_aload_n hx hb dX8_isBalanced_0 rfl (lv_at hl 0 rfl) ?_
  refine gX8_10 hC hH.1 0 rfl (v := .ref (ad 1)) rfl dX8_isBalanced_1 ?_
  refine k_PVi hC LX8_87 ⟨Nat.le_of_ble_eq_true rfl, Nat.le_of_ble_eq_true rfl⟩ ⟨Nat.zero_le _, Nat.zero_le _⟩ (cL_size l E (fun j => ad (1 + j)) q0_letters.1 q0_letters.2.1 q0_letters.2.2.1 q0_letters.2.2.2.1 q0_letters.2.2.2.2.1 q0_letters.2.2.2.2.2 _ rfl) rfl rfl (ss_letters hH.1) rfl rfl hl.1 rfl (Nat.le_of_ble_eq_true rfl) rfl dX8_isBalanced_4 (fun hz4 => ?_)
  refine lv_aload_n hx hb dX8_isBalanced_7 rfl (lv_at hl 0 rfl) ?_
  refine gX8_10 hC hH.1 0 rfl (v := .ref (ad 1)) rfl dX8_isBalanced_8 ?_
  refine k_PVi hC LX8_248 ⟨Nat.le_of_ble_eq_true rfl, Nat.le_of_ble_eq_true rfl⟩ ⟨Nat.zero_le _, Nat.zero_le _⟩ (cL_came l E (fun j => ad (1 + j)) q0_letters.1 q0_letters.2.1 q0_letters.2.2.1 q0_letters.2.2.2.1 q0_letters.2.2.2.2.1 q0_letters.2.2.2.2.2 _ rfl) rfl rfl (ss_letters hH.1) rfl rfl hl.1 rfl (Nat.le_of_ble_eq_true rfl) rfl dX8_isBalanced_11 (fun hz11 => ?_)
  refine lv_aload_n hx hb dX8_isBalanced_14 rfl (lv_at hl 0 rfl) ?_
  refine gX8_10 hC hH.1 0 rfl (v := .ref (ad 1)) rfl dX8_isBalanced_15 ?_
  refine k_PVi hC LX8_251 ⟨Nat.le_of_ble_eq_true rfl, Nat.le_of_ble_eq_true rfl⟩ ⟨Nat.zero_le _, Nat.zero_le _⟩ (cL_left l E (fun j => ad (1 + j)) q0_letters.1 q0_letters.2.1 q0_letters.2.2.1 q0_letters.2.2.2.1 q0_letters.2.2.2.2.1 q0_letters.2.2.2.2.2 _ rfl) rfl rfl (ss_letters hH.1) rfl rfl hl.1 rfl (Nat.le_of_ble_eq_true rfl) rfl dX8_isBalanced_18 (fun hz18 => ?_)
  refine lv_isub hx hb dX8_isBalanced_21 ?_
  refine lv_icmp_ne (tgt := 64) hx hb dX8_isBalanced_22 (by decide) (fun c1 => ?_) (fun c1 => ?_)
  · have hf := ite_f hf c1
    refine lv_iconst (v := 0) hx hb dX8_isBalanced_64 (by decide) ?_
    refine lv_istore_n (lv' := [(1, .int (0 : Int32)), (0, .ref (ad 0))]) hx hb dX8_isBalanced_65 rfl hl (by decide) rfl (fun ls hl => ?_)
    refine lv_iload_n hx hb dX8_isBalanced_66 rfl (lv_at hl 0 rfl) ?_
    refine lv_if_eq (tgt := 74) hx hb dX8_isBalanced_67 (by decide) (fun _ => ?_) (fun c => absurd c (by decide))
    refine lv_iconst (v := 0) hx hb dX8_isBalanced_74 (by decide) ?_
    have hf := Option.some.inj hf
    subst hf
    exact e_Wi hC hH hr hlocks rfl rfl dX8_isBalanced_75
  · have hf := ite_t hf c1
    refine lv_aload_n hx hb dX8_isBalanced_25 rfl (lv_at hl 0 rfl) ?_
    obtain ⟨t2, ht2, hf⟩ := ob hf
    refine k_PVi hC LX8_261 ⟨Nat.le_of_ble_eq_true rfl, Nat.le_of_ble_eq_true rfl⟩ ⟨Nat.zero_le _, Nat.zero_le _⟩ (cS_areWeightsAlike l E ad q0_letters q0_trial q0_snapshot q0_isSaved q0_past q0_rows q0_bags q0_tally q0_sizes q0_text q0_line q0_latestReason q0_latestDetail t2 ht2) rfl rfl hH.1 rfl rfl hl.1 rfl (Nat.le_of_ble_eq_true rfl) rfl dX8_isBalanced_26 (fun hz26 => ?_)
    refine lv_if_eq (tgt := 64) hx hb dX8_isBalanced_29 (by decide) (fun c3 => ?_) (fun c3 => ?_)
    · have hf := ite_t hf c3
      refine lv_iconst (v := 0) hx hb dX8_isBalanced_64 (by decide) ?_
      refine lv_istore_n (lv' := [(1, .int (0 : Int32)), (0, .ref (ad 0))]) hx hb dX8_isBalanced_65 rfl hl (by decide) rfl (fun ls hl => ?_)
      refine lv_iload_n hx hb dX8_isBalanced_66 rfl (lv_at hl 0 rfl) ?_
      refine lv_if_eq (tgt := 74) hx hb dX8_isBalanced_67 (by decide) (fun _ => ?_) (fun c => absurd c (by decide))
      refine lv_iconst (v := 0) hx hb dX8_isBalanced_74 (by decide) ?_
      have hf := Option.some.inj hf
      subst hf
      exact e_Wi hC hH hr hlocks rfl rfl dX8_isBalanced_75
    · have hf := ite_f hf c3
      refine lv_aload_n hx hb dX8_isBalanced_32 rfl (lv_at hl 0 rfl) ?_
      obtain ⟨t4, ht4, hf⟩ := ob hf
      refine k_PVi hC LX8_264 ⟨Nat.le_of_ble_eq_true rfl, Nat.le_of_ble_eq_true rfl⟩ ⟨Nat.zero_le _, Nat.zero_le _⟩ (cS_areCountsAlike l E ad q0_letters q0_trial q0_snapshot q0_isSaved q0_past q0_rows q0_bags q0_tally q0_sizes q0_text q0_line q0_latestReason q0_latestDetail t4 ht4) rfl rfl hH.1 rfl rfl hl.1 rfl (Nat.le_of_ble_eq_true rfl) rfl dX8_isBalanced_33 (fun hz33 => ?_)
      refine lv_if_eq (tgt := 64) hx hb dX8_isBalanced_36 (by decide) (fun c5 => ?_) (fun c5 => ?_)
      · have hf := ite_t hf c5
        refine lv_iconst (v := 0) hx hb dX8_isBalanced_64 (by decide) ?_
        refine lv_istore_n (lv' := [(1, .int (0 : Int32)), (0, .ref (ad 0))]) hx hb dX8_isBalanced_65 rfl hl (by decide) rfl (fun ls hl => ?_)
        refine lv_iload_n hx hb dX8_isBalanced_66 rfl (lv_at hl 0 rfl) ?_
        refine lv_if_eq (tgt := 74) hx hb dX8_isBalanced_67 (by decide) (fun _ => ?_) (fun c => absurd c (by decide))
        refine lv_iconst (v := 0) hx hb dX8_isBalanced_74 (by decide) ?_
        have hf := Option.some.inj hf
        subst hf
        exact e_Wi hC hH hr hlocks rfl rfl dX8_isBalanced_75
      · have hf := ite_f hf c5
        refine lv_aload_n hx hb dX8_isBalanced_39 rfl (lv_at hl 0 rfl) ?_
        obtain ⟨t6, ht6, hf⟩ := ob hf
        refine k_WVsi hC LX8_267 ⟨Nat.le_of_ble_eq_true rfl, Nat.le_of_ble_eq_true rfl⟩ ⟨Nat.zero_le _, Nat.zero_le _⟩ (cS_areSizesAlike l E ad q0_letters q0_trial q0_snapshot q0_isSaved q0_past q0_rows q0_bags q0_tally q0_sizes q0_text q0_line q0_latestReason q0_latestDetail t6 ht6) rfl rfl hH rfl rfl rfl hl.1 rfl (Nat.le_of_ble_eq_true rfl) rfl dX8_isBalanced_40 (fun H locs hz40 hH => ?_)
        have hH : Hp E (adr (wS E ad q0_letters q0_trial q0_snapshot q0_isSaved q0_past q0_rows q0_bags q0_tally q0_sizes q0_text q0_line q0_latestReason q0_latestDetail)) (wS E ad q0_letters q0_trial q0_snapshot q0_isSaved q0_past q0_rows q0_bags q0_tally t6.2 q0_text q0_line q0_latestReason q0_latestDetail) s.heap H locs := hH
        refine lv_if_eq (tgt := 64) hx hb dX8_isBalanced_43 (by decide) (fun c7 => ?_) (fun c7 => ?_)
        · have hf := ite_t hf c7
          refine lv_iconst (v := 0) hx hb dX8_isBalanced_64 (by decide) ?_
          refine lv_istore_n (lv' := [(1, .int (0 : Int32)), (0, .ref (ad 0))]) hx hb dX8_isBalanced_65 rfl hl (by decide) rfl (fun ls hl => ?_)
          refine lv_iload_n hx hb dX8_isBalanced_66 rfl (lv_at hl 0 rfl) ?_
          refine lv_if_eq (tgt := 74) hx hb dX8_isBalanced_67 (by decide) (fun _ => ?_) (fun c => absurd c (by decide))
          refine lv_iconst (v := 0) hx hb dX8_isBalanced_74 (by decide) ?_
          have hf := Option.some.inj hf
          subst hf
          exact e_Wi hC hH hr hlocks rfl rfl dX8_isBalanced_75
        · have hf := ite_f hf c7
          refine lv_aload_n hx hb dX8_isBalanced_46 rfl (lv_at hl 0 rfl) ?_
          obtain ⟨t8, ht8, hf⟩ := ob hf
          refine k_PVi hC LX8_270 ⟨Nat.le_of_ble_eq_true rfl, Nat.le_of_ble_eq_true rfl⟩ ⟨Nat.zero_le _, Nat.zero_le _⟩ (cS_lettersOfBags l E ad q0_letters q0_trial q0_snapshot q0_isSaved q0_past q0_rows q0_bags q0_tally t6.2 q0_text q0_line q0_latestReason q0_latestDetail t8 ht8) rfl rfl hH.1 rfl rfl hl.1 rfl (Nat.le_of_ble_eq_true rfl) rfl dX8_isBalanced_47 (fun hz47 => ?_)
          refine lv_aload_n hx hb dX8_isBalanced_50 rfl (lv_at hl 0 rfl) ?_
          refine gX8_10 hC hH.1 0 rfl (v := .ref (ad 1)) rfl dX8_isBalanced_51 ?_
          refine k_PVi hC LX8_87 ⟨Nat.le_of_ble_eq_true rfl, Nat.le_of_ble_eq_true rfl⟩ ⟨Nat.zero_le _, Nat.zero_le _⟩ (cL_size l E (fun j => ad (1 + j)) q0_letters.1 q0_letters.2.1 q0_letters.2.2.1 q0_letters.2.2.2.1 q0_letters.2.2.2.2.1 q0_letters.2.2.2.2.2 _ rfl) rfl rfl (ss_letters hH.1) rfl rfl hl.1 rfl (Nat.le_of_ble_eq_true rfl) rfl dX8_isBalanced_54 (fun hz54 => ?_)
          refine lv_icmp_ne (tgt := 64) hx hb dX8_isBalanced_57 (by decide) (fun c9 => ?_) (fun c9 => ?_)
          · have hf := ite_f hf c9
            refine lv_iconst (v := 0) hx hb dX8_isBalanced_64 (by decide) ?_
            refine lv_istore_n (lv' := [(1, .int (0 : Int32)), (0, .ref (ad 0))]) hx hb dX8_isBalanced_65 rfl hl (by decide) rfl (fun ls hl => ?_)
            refine lv_iload_n hx hb dX8_isBalanced_66 rfl (lv_at hl 0 rfl) ?_
            refine lv_if_eq (tgt := 74) hx hb dX8_isBalanced_67 (by decide) (fun _ => ?_) (fun c => absurd c (by decide))
            refine lv_iconst (v := 0) hx hb dX8_isBalanced_74 (by decide) ?_
            have hf := Option.some.inj hf
            subst hf
            exact e_Wi hC hH hr hlocks rfl rfl dX8_isBalanced_75
          · have hf := ite_t hf c9
            refine lv_iconst (v := 1) hx hb dX8_isBalanced_60 (by decide) ?_
            refine lv_goto (tgt := 65) hx hb dX8_isBalanced_61 (by decide) ?_
            refine lv_istore_n (lv' := [(1, .int (1 : Int32)), (0, .ref (ad 0))]) hx hb dX8_isBalanced_65 rfl hl (by decide) rfl (fun ls hl => ?_)
            refine lv_iload_n hx hb dX8_isBalanced_66 rfl (lv_at hl 0 rfl) ?_
            refine lv_if_eq (tgt := 74) hx hb dX8_isBalanced_67 (by decide) (fun c => absurd c (by decide)) (fun _ => ?_)
            refine lv_iconst (v := 1) hx hb dX8_isBalanced_70 (by decide) ?_
            refine lv_goto (tgt := 75) hx hb dX8_isBalanced_71 (by decide) ?_
            have hf := Option.some.inj hf
            subst hf
            exact e_Wi hC hH hr hlocks rfl rfl dX8_isBalanced_75
abbrev rmS_undo : Room := { frames := 5, cells := 0, slots := 0, locals := 111 }
set_option maxHeartbeats 4000000 in
set_option maxRecDepth 100000 in
theorem cS_undo (l : Launch) (E : eE) (ad : Nat → Nat) (q0_letters : TL) (q0_trial : TL) (q0_snapshot : TL) (q0_isSaved : Int32) (q0_past : TP) (q0_rows : TR) (q0_bags : TB) (q0_tally : TY) (q0_sizes : TZ) (q0_text : TT) (q0_line : TN) (q0_latestReason : Int32) (q0_latestDetail : Int32) (t : Int32 × TL × TP × TR × TB) (hf : fS_undo q0_letters q0_past q0_rows q0_bags = some t) : cW l E yX8_undo cX8_undo 1 (some .int) rmS_undo [.ref (ad 0)] (wS E ad q0_letters q0_trial q0_snapshot q0_isSaved q0_past q0_rows q0_bags q0_tally q0_sizes q0_text q0_line q0_latestReason q0_latestDetail) (some (.int t.1)) (wS E ad t.2.1 q0_trial q0_snapshot q0_isSaved t.2.2.1 t.2.2.2.1 t.2.2.2.2 q0_tally q0_sizes q0_text q0_line q0_latestReason q0_latestDetail) := by
  refine Met.ofW (cc := cX8_undo) (maxL := 1) (ret := (some .int)) (by decide) rfl ?_
  intro p e s m args below meth c s₁ B hml hv
  obtain ⟨hargs, hP, hK, hD0⟩ := hv
  have hx := B.exec
  have hb := B.bytes
  have hr := B.returns
  have hts := atoms_spec (ws := ws_ yX8_undo cX8_undo 1 (some .int)) B.pre
  have hta : ∀ w ∈ lw_all, w.before args s = true := fun w h => hts w (List.mem_cons_of_mem _ h)
  have hown : s.vm.findClass RX8 = some m.cls := findClass_of_methodNamed B.named
  have hlocks := B.notSynchronized
  have hC : Cx p s m args c cX8_undo 1 RX8 E := ⟨hx, hb, hml, hown, hta, hK⟩
  have hH : Hp E (adr (wS E ad q0_letters q0_trial q0_snapshot q0_isSaved q0_past q0_rows q0_bags q0_tally q0_sizes q0_text q0_line q0_latestReason q0_latestDetail)) (wS E ad q0_letters q0_trial q0_snapshot q0_isSaved q0_past q0_rows q0_bags q0_tally q0_sizes q0_text q0_line q0_latestReason q0_latestDetail) s.heap s.heap [] := Hp.start hP hD0
  obtain ⟨ls, he, hl⟩ := entry_ (m := m) (n := 1) hargs (Nat.le_of_ble_eq_true rfl)
  rw [he]
  have hl : lv_has ls 1 [(0, .ref (ad 0))] := hl
  show W p l e rmS_undo s m args below meth c s.heap [] 0 0 (MQ below (qW E (some .int) (some (.int t.1)) (wS E ad q0_letters q0_trial q0_snapshot q0_isSaved q0_past q0_rows q0_bags q0_tally q0_sizes q0_text q0_line q0_latestReason q0_latestDetail) (wS E ad t.2.1 q0_trial q0_snapshot q0_isSaved t.2.2.1 t.2.2.2.1 t.2.2.2.2 q0_tally q0_sizes q0_text q0_line q0_latestReason q0_latestDetail)) args s 0 0 (adr (wS E ad q0_letters q0_trial q0_snapshot q0_isSaved q0_past q0_rows q0_bags q0_tally q0_sizes q0_text q0_line q0_latestReason q0_latestDetail))) (F0 m 0 ls [])
  suffices hmain : ∀ (H : Heap) (locs : List Loc), Hp E (adr (wS E ad q0_letters q0_trial q0_snapshot q0_isSaved q0_past q0_rows q0_bags q0_tally q0_sizes q0_text q0_line q0_latestReason q0_latestDetail)) (wS E ad q0_letters q0_trial q0_snapshot q0_isSaved q0_past q0_rows q0_bags q0_tally q0_sizes q0_text q0_line q0_latestReason q0_latestDetail) s.heap H locs → W p l e rmS_undo s m args below meth c H locs 0 0 (MQ below (qW E (some .int) (some (.int t.1)) (wS E ad q0_letters q0_trial q0_snapshot q0_isSaved q0_past q0_rows q0_bags q0_tally q0_sizes q0_text q0_line q0_latestReason q0_latestDetail) (wS E ad t.2.1 q0_trial q0_snapshot q0_isSaved t.2.2.1 t.2.2.2.1 t.2.2.2.2 q0_tally q0_sizes q0_text q0_line q0_latestReason q0_latestDetail)) args s 0 0 (adr (wS E ad q0_letters q0_trial q0_snapshot q0_isSaved q0_past q0_rows q0_bags q0_tally q0_sizes q0_text q0_line q0_latestReason q0_latestDetail))) (F0 m 0 ls []) from hmain _ _ hH
  clear hH
  intro H locs hH
  rw [fS_undo] at hf
  refine lv_aload_n hx hb dX8_undo_0 rfl (lv_at hl 0 rfl) ?_
  refine gX8_25 hC hH.1 0 rfl (v := .ref (ad 7)) rfl dX8_undo_1 ?_
  refine lv_aload_n hx hb dX8_undo_4 rfl (lv_at hl 0 rfl) ?_
  refine gX8_10 hC hH.1 0 rfl (v := .ref (ad 1)) rfl dX8_undo_5 ?_
  obtain ⟨t1, ht1, hf⟩ := ob hf
  refine k_WVpi hC LX8_276 ⟨Nat.le_of_ble_eq_true rfl, Nat.le_of_ble_eq_true rfl⟩ ⟨Nat.zero_le _, Nat.zero_le _⟩ (cP_giveBack l E (fun j => ad (7 + j)) q0_past.1 q0_past.2.1 q0_past.2.2 (fun j => ad (1 + j)) q0_letters.1 q0_letters.2.1 q0_letters.2.2.1 q0_letters.2.2.2.1 q0_letters.2.2.2.2.1 q0_letters.2.2.2.2.2 t1 ht1) rfl rfl hH (W1 := wS E ad (t1.2.2.1, t1.2.2.2.1, t1.2.2.2.2.1, t1.2.2.2.2.2.1, t1.2.2.2.2.2.2.1, t1.2.2.2.2.2.2.2) q0_trial q0_snapshot q0_isSaved (q0_past.1, q0_past.2.1, t1.2.1) q0_rows q0_bags q0_tally q0_sizes q0_text q0_line q0_latestReason q0_latestDetail) (sp_past_letters E ad q0_letters q0_trial q0_snapshot q0_isSaved q0_past q0_rows q0_bags q0_tally q0_sizes q0_text q0_line q0_latestReason q0_latestDetail) (sq_past_letters E ad q0_letters q0_trial q0_snapshot q0_isSaved q0_past q0_rows q0_bags q0_tally q0_sizes q0_text q0_line q0_latestReason q0_latestDetail q0_past.1 q0_past.2.1 t1.2.1 t1.2.2.1 t1.2.2.2.1 t1.2.2.2.2.1 t1.2.2.2.2.2.1 t1.2.2.2.2.2.2.1 t1.2.2.2.2.2.2.2) rfl rfl rfl hl.1 rfl (Nat.le_of_ble_eq_true rfl) rfl dX8_undo_8 (fun H locs hz8 hH => ?_)
  refine lv_if_ne (tgt := 17) hx hb dX8_undo_11 (by decide) (fun c2 => ?_) (fun c2 => ?_)
  · have hf := ite_f hf c2
    refine lv_aload_n hx hb dX8_undo_17 rfl (lv_at hl 0 rfl) ?_
    obtain ⟨t3, ht3, hf⟩ := ob hf
    refine k_WVsv hC LX8_95 ⟨Nat.le_of_ble_eq_true rfl, Nat.le_of_ble_eq_true rfl⟩ ⟨Nat.zero_le _, Nat.zero_le _⟩ (cS_follow l E ad (t1.2.2.1, t1.2.2.2.1, t1.2.2.2.2.1, t1.2.2.2.2.2.1, t1.2.2.2.2.2.2.1, t1.2.2.2.2.2.2.2) q0_trial q0_snapshot q0_isSaved (q0_past.1, q0_past.2.1, t1.2.1) q0_rows q0_bags q0_tally q0_sizes q0_text q0_line q0_latestReason q0_latestDetail t3 ht3) rfl rfl hH rfl rfl rfl hl.1 rfl (Nat.le_of_ble_eq_true rfl) rfl dX8_undo_18 (fun H locs hz18 hH => ?_)
    have hH : Hp E (adr (wS E ad q0_letters q0_trial q0_snapshot q0_isSaved q0_past q0_rows q0_bags q0_tally q0_sizes q0_text q0_line q0_latestReason q0_latestDetail)) (wS E ad (t1.2.2.1, t1.2.2.2.1, t1.2.2.2.2.1, t1.2.2.2.2.2.1, t1.2.2.2.2.2.2.1, t1.2.2.2.2.2.2.2) q0_trial q0_snapshot q0_isSaved (q0_past.1, q0_past.2.1, t1.2.1) t3.1 t3.2 q0_tally q0_sizes q0_text q0_line q0_latestReason q0_latestDetail) s.heap H locs := hH
    refine lv_aload_n hx hb dX8_undo_21 rfl (lv_at hl 0 rfl) ?_
    refine gX8_25 hC hH.1 0 rfl (v := .ref (ad 7)) rfl dX8_undo_22 ?_
    refine k_PVi hC LX8_260 ⟨Nat.le_of_ble_eq_true rfl, Nat.le_of_ble_eq_true rfl⟩ ⟨Nat.zero_le _, Nat.zero_le _⟩ (cP_size l E (fun j => ad (7 + j)) q0_past.1 q0_past.2.1 t1.2.1 _ rfl) rfl rfl (ss_past hH.1) rfl rfl hl.1 rfl (Nat.le_of_ble_eq_true rfl) rfl dX8_undo_25 (fun hz25 => ?_)
    have hf := Option.some.inj hf
    subst hf
    exact e_Wi hC hH hr hlocks rfl rfl dX8_undo_28
  · have hf := ite_t hf c2
    refine lv_bipush (v := (-15)) hx hb dX8_undo_14 (by decide) ?_
    have hf := Option.some.inj hf
    subst hf
    exact e_Wi hC hH hr hlocks rfl rfl dX8_undo_16
abbrev rmS_save : Room := { frames := 2, cells := 0, slots := 0, locals := 44 }
set_option maxHeartbeats 4000000 in
set_option maxRecDepth 100000 in
theorem cS_save (l : Launch) (E : eE) (ad : Nat → Nat) (q0_letters : TL) (q0_trial : TL) (q0_snapshot : TL) (q0_isSaved : Int32) (q0_past : TP) (q0_rows : TR) (q0_bags : TB) (q0_tally : TY) (q0_sizes : TZ) (q0_text : TT) (q0_line : TN) (q0_latestReason : Int32) (q0_latestDetail : Int32) (t : Int32 × TL × Int32) (hf : fS_save q0_letters q0_snapshot q0_isSaved = some t) : cW l E yX8_save cX8_save 1 (some .int) rmS_save [.ref (ad 0)] (wS E ad q0_letters q0_trial q0_snapshot q0_isSaved q0_past q0_rows q0_bags q0_tally q0_sizes q0_text q0_line q0_latestReason q0_latestDetail) (some (.int t.1)) (wS E ad q0_letters q0_trial t.2.1 t.2.2 q0_past q0_rows q0_bags q0_tally q0_sizes q0_text q0_line q0_latestReason q0_latestDetail) := by
  refine Met.ofW (cc := cX8_save) (maxL := 1) (ret := (some .int)) (by decide) rfl ?_
  intro p e s m args below meth c s₁ B hml hv
  obtain ⟨hargs, hP, hK, hD0⟩ := hv
  have hx := B.exec
  have hb := B.bytes
  have hr := B.returns
  have hts := atoms_spec (ws := ws_ yX8_save cX8_save 1 (some .int)) B.pre
  have hta : ∀ w ∈ lw_all, w.before args s = true := fun w h => hts w (List.mem_cons_of_mem _ h)
  have hown : s.vm.findClass RX8 = some m.cls := findClass_of_methodNamed B.named
  have hlocks := B.notSynchronized
  have hC : Cx p s m args c cX8_save 1 RX8 E := ⟨hx, hb, hml, hown, hta, hK⟩
  have hH : Hp E (adr (wS E ad q0_letters q0_trial q0_snapshot q0_isSaved q0_past q0_rows q0_bags q0_tally q0_sizes q0_text q0_line q0_latestReason q0_latestDetail)) (wS E ad q0_letters q0_trial q0_snapshot q0_isSaved q0_past q0_rows q0_bags q0_tally q0_sizes q0_text q0_line q0_latestReason q0_latestDetail) s.heap s.heap [] := Hp.start hP hD0
  obtain ⟨ls, he, hl⟩ := entry_ (m := m) (n := 1) hargs (Nat.le_of_ble_eq_true rfl)
  rw [he]
  have hl : lv_has ls 1 [(0, .ref (ad 0))] := hl
  show W p l e rmS_save s m args below meth c s.heap [] 0 0 (MQ below (qW E (some .int) (some (.int t.1)) (wS E ad q0_letters q0_trial q0_snapshot q0_isSaved q0_past q0_rows q0_bags q0_tally q0_sizes q0_text q0_line q0_latestReason q0_latestDetail) (wS E ad q0_letters q0_trial t.2.1 t.2.2 q0_past q0_rows q0_bags q0_tally q0_sizes q0_text q0_line q0_latestReason q0_latestDetail)) args s 0 0 (adr (wS E ad q0_letters q0_trial q0_snapshot q0_isSaved q0_past q0_rows q0_bags q0_tally q0_sizes q0_text q0_line q0_latestReason q0_latestDetail))) (F0 m 0 ls [])
  suffices hmain : ∀ (H : Heap) (locs : List Loc), Hp E (adr (wS E ad q0_letters q0_trial q0_snapshot q0_isSaved q0_past q0_rows q0_bags q0_tally q0_sizes q0_text q0_line q0_latestReason q0_latestDetail)) (wS E ad q0_letters q0_trial q0_snapshot q0_isSaved q0_past q0_rows q0_bags q0_tally q0_sizes q0_text q0_line q0_latestReason q0_latestDetail) s.heap H locs → W p l e rmS_save s m args below meth c H locs 0 0 (MQ below (qW E (some .int) (some (.int t.1)) (wS E ad q0_letters q0_trial q0_snapshot q0_isSaved q0_past q0_rows q0_bags q0_tally q0_sizes q0_text q0_line q0_latestReason q0_latestDetail) (wS E ad q0_letters q0_trial t.2.1 t.2.2 q0_past q0_rows q0_bags q0_tally q0_sizes q0_text q0_line q0_latestReason q0_latestDetail)) args s 0 0 (adr (wS E ad q0_letters q0_trial q0_snapshot q0_isSaved q0_past q0_rows q0_bags q0_tally q0_sizes q0_text q0_line q0_latestReason q0_latestDetail))) (F0 m 0 ls []) from hmain _ _ hH
  clear hH
  intro H locs hH
  rw [fS_save] at hf
  refine lv_aload_n hx hb dX8_save_0 rfl (lv_at hl 0 rfl) ?_
  refine gX8_19 hC hH.1 0 rfl (v := .ref (ad 5)) rfl dX8_save_1 ?_
  refine lv_aload_n hx hb dX8_save_4 rfl (lv_at hl 0 rfl) ?_
  refine gX8_10 hC hH.1 0 rfl (v := .ref (ad 1)) rfl dX8_save_5 ?_
  obtain ⟨t1, ht1, hf⟩ := ob hf
  refine k_WVpv hC LX8_221 ⟨Nat.le_of_ble_eq_true rfl, Nat.le_of_ble_eq_true rfl⟩ ⟨Nat.zero_le _, Nat.zero_le _⟩ (cL_becomeLike l E (fun j => ad (5 + j)) q0_snapshot.1 q0_snapshot.2.1 q0_snapshot.2.2.1 q0_snapshot.2.2.2.1 q0_snapshot.2.2.2.2.1 q0_snapshot.2.2.2.2.2 (fun j => ad (1 + j)) q0_letters.1 q0_letters.2.1 q0_letters.2.2.1 q0_letters.2.2.2.1 q0_letters.2.2.2.2.1 q0_letters.2.2.2.2.2 t1 ht1) rfl rfl hH (W1 := wS E ad q0_letters q0_trial (t1.1, t1.2.1, t1.2.2.1, t1.2.2.2.1, t1.2.2.2.2.1, t1.2.2.2.2.2) q0_isSaved q0_past q0_rows q0_bags q0_tally q0_sizes q0_text q0_line q0_latestReason q0_latestDetail) (sp_snapshot_letters E ad q0_letters q0_trial q0_snapshot q0_isSaved q0_past q0_rows q0_bags q0_tally q0_sizes q0_text q0_line q0_latestReason q0_latestDetail) (sq_snapshot_letters E ad q0_letters q0_trial q0_snapshot q0_isSaved q0_past q0_rows q0_bags q0_tally q0_sizes q0_text q0_line q0_latestReason q0_latestDetail t1.1 t1.2.1 t1.2.2.1 t1.2.2.2.1 t1.2.2.2.2.1 t1.2.2.2.2.2 q0_letters.1 q0_letters.2.1 q0_letters.2.2.1 q0_letters.2.2.2.1 q0_letters.2.2.2.2.1 q0_letters.2.2.2.2.2) rfl rfl rfl hl.1 rfl (Nat.le_of_ble_eq_true rfl) rfl dX8_save_8 (fun H locs hz8 hH => ?_)
  refine lv_aload_n hx hb dX8_save_11 rfl (lv_at hl 0 rfl) ?_
  refine lv_iconst (v := 1) hx hb dX8_save_12 (by decide) ?_
  refine pX8_280 hC hH 0 rfl (v := .int (1 : Int32)) rfl rfl (Nat.le_of_ble_eq_true rfl) (W1 := wS E ad q0_letters q0_trial (t1.1, t1.2.1, t1.2.2.1, t1.2.2.2.1, t1.2.2.2.2.1, t1.2.2.2.2.2) (1 : Int32) q0_past q0_rows q0_bags q0_tally q0_sizes q0_text q0_line q0_latestReason q0_latestDetail) rfl dX8_save_13 (fun H locs hH => ?_)
  refine lv_aload_n hx hb dX8_save_16 rfl (lv_at hl 0 rfl) ?_
  refine gX8_10 hC hH.1 0 rfl (v := .ref (ad 1)) rfl dX8_save_17 ?_
  refine k_PVi hC LX8_87 ⟨Nat.le_of_ble_eq_true rfl, Nat.le_of_ble_eq_true rfl⟩ ⟨Nat.zero_le _, Nat.zero_le _⟩ (cL_size l E (fun j => ad (1 + j)) q0_letters.1 q0_letters.2.1 q0_letters.2.2.1 q0_letters.2.2.2.1 q0_letters.2.2.2.2.1 q0_letters.2.2.2.2.2 _ rfl) rfl rfl (ss_letters hH.1) rfl rfl hl.1 rfl (Nat.le_of_ble_eq_true rfl) rfl dX8_save_20 (fun hz20 => ?_)
  have hf := Option.some.inj hf
  subst hf
  exact e_Wi hC hH hr hlocks rfl rfl dX8_save_23
abbrev rmS_restore : Room := { frames := 5, cells := 0, slots := 0, locals := 111 }
set_option maxHeartbeats 4000000 in
set_option maxRecDepth 100000 in
theorem cS_restore (l : Launch) (E : eE) (ad : Nat → Nat) (q0_letters : TL) (q0_trial : TL) (q0_snapshot : TL) (q0_isSaved : Int32) (q0_past : TP) (q0_rows : TR) (q0_bags : TB) (q0_tally : TY) (q0_sizes : TZ) (q0_text : TT) (q0_line : TN) (q0_latestReason : Int32) (q0_latestDetail : Int32) (t : Int32 × TL × TP × TR × TB) (hf : fS_restore q0_letters q0_snapshot q0_isSaved q0_past q0_rows q0_bags = some t) : cW l E yX8_restore cX8_restore 1 (some .int) rmS_restore [.ref (ad 0)] (wS E ad q0_letters q0_trial q0_snapshot q0_isSaved q0_past q0_rows q0_bags q0_tally q0_sizes q0_text q0_line q0_latestReason q0_latestDetail) (some (.int t.1)) (wS E ad t.2.1 q0_trial q0_snapshot q0_isSaved t.2.2.1 t.2.2.2.1 t.2.2.2.2 q0_tally q0_sizes q0_text q0_line q0_latestReason q0_latestDetail) := by
  refine Met.ofW (cc := cX8_restore) (maxL := 1) (ret := (some .int)) (by decide) rfl ?_
  intro p e s m args below meth c s₁ B hml hv
  obtain ⟨hargs, hP, hK, hD0⟩ := hv
  have hx := B.exec
  have hb := B.bytes
  have hr := B.returns
  have hts := atoms_spec (ws := ws_ yX8_restore cX8_restore 1 (some .int)) B.pre
  have hta : ∀ w ∈ lw_all, w.before args s = true := fun w h => hts w (List.mem_cons_of_mem _ h)
  have hown : s.vm.findClass RX8 = some m.cls := findClass_of_methodNamed B.named
  have hlocks := B.notSynchronized
  have hC : Cx p s m args c cX8_restore 1 RX8 E := ⟨hx, hb, hml, hown, hta, hK⟩
  have hH : Hp E (adr (wS E ad q0_letters q0_trial q0_snapshot q0_isSaved q0_past q0_rows q0_bags q0_tally q0_sizes q0_text q0_line q0_latestReason q0_latestDetail)) (wS E ad q0_letters q0_trial q0_snapshot q0_isSaved q0_past q0_rows q0_bags q0_tally q0_sizes q0_text q0_line q0_latestReason q0_latestDetail) s.heap s.heap [] := Hp.start hP hD0
  obtain ⟨ls, he, hl⟩ := entry_ (m := m) (n := 1) hargs (Nat.le_of_ble_eq_true rfl)
  rw [he]
  have hl : lv_has ls 1 [(0, .ref (ad 0))] := hl
  show W p l e rmS_restore s m args below meth c s.heap [] 0 0 (MQ below (qW E (some .int) (some (.int t.1)) (wS E ad q0_letters q0_trial q0_snapshot q0_isSaved q0_past q0_rows q0_bags q0_tally q0_sizes q0_text q0_line q0_latestReason q0_latestDetail) (wS E ad t.2.1 q0_trial q0_snapshot q0_isSaved t.2.2.1 t.2.2.2.1 t.2.2.2.2 q0_tally q0_sizes q0_text q0_line q0_latestReason q0_latestDetail)) args s 0 0 (adr (wS E ad q0_letters q0_trial q0_snapshot q0_isSaved q0_past q0_rows q0_bags q0_tally q0_sizes q0_text q0_line q0_latestReason q0_latestDetail))) (F0 m 0 ls [])
  suffices hmain : ∀ (H : Heap) (locs : List Loc), Hp E (adr (wS E ad q0_letters q0_trial q0_snapshot q0_isSaved q0_past q0_rows q0_bags q0_tally q0_sizes q0_text q0_line q0_latestReason q0_latestDetail)) (wS E ad q0_letters q0_trial q0_snapshot q0_isSaved q0_past q0_rows q0_bags q0_tally q0_sizes q0_text q0_line q0_latestReason q0_latestDetail) s.heap H locs → W p l e rmS_restore s m args below meth c H locs 0 0 (MQ below (qW E (some .int) (some (.int t.1)) (wS E ad q0_letters q0_trial q0_snapshot q0_isSaved q0_past q0_rows q0_bags q0_tally q0_sizes q0_text q0_line q0_latestReason q0_latestDetail) (wS E ad t.2.1 q0_trial q0_snapshot q0_isSaved t.2.2.1 t.2.2.2.1 t.2.2.2.2 q0_tally q0_sizes q0_text q0_line q0_latestReason q0_latestDetail)) args s 0 0 (adr (wS E ad q0_letters q0_trial q0_snapshot q0_isSaved q0_past q0_rows q0_bags q0_tally q0_sizes q0_text q0_line q0_latestReason q0_latestDetail))) (F0 m 0 ls []) from hmain _ _ hH
  clear hH
  intro H locs hH
  rw [fS_restore] at hf
  refine lv_aload_n hx hb dX8_restore_0 rfl (lv_at hl 0 rfl) ?_
  refine gX8_280 hC hH.1 0 rfl (v := .int q0_isSaved) rfl dX8_restore_1 ?_
  refine lv_if_ne (tgt := 10) hx hb dX8_restore_4 (by decide) (fun c1 => ?_) (fun c1 => ?_)
  · have hf := ite_f hf c1
    refine lv_aload_n hx hb dX8_restore_10 rfl (lv_at hl 0 rfl) ?_
    refine gX8_10 hC hH.1 0 rfl (v := .ref (ad 1)) rfl dX8_restore_11 ?_
    refine lv_aload_n hx hb dX8_restore_14 rfl (lv_at hl 0 rfl) ?_
    refine gX8_19 hC hH.1 0 rfl (v := .ref (ad 5)) rfl dX8_restore_15 ?_
    obtain ⟨t2, ht2, hf⟩ := ob hf
    refine k_WVpv hC LX8_221 ⟨Nat.le_of_ble_eq_true rfl, Nat.le_of_ble_eq_true rfl⟩ ⟨Nat.zero_le _, Nat.zero_le _⟩ (cL_becomeLike l E (fun j => ad (1 + j)) q0_letters.1 q0_letters.2.1 q0_letters.2.2.1 q0_letters.2.2.2.1 q0_letters.2.2.2.2.1 q0_letters.2.2.2.2.2 (fun j => ad (5 + j)) q0_snapshot.1 q0_snapshot.2.1 q0_snapshot.2.2.1 q0_snapshot.2.2.2.1 q0_snapshot.2.2.2.2.1 q0_snapshot.2.2.2.2.2 t2 ht2) rfl rfl hH (W1 := wS E ad (t2.1, t2.2.1, t2.2.2.1, t2.2.2.2.1, t2.2.2.2.2.1, t2.2.2.2.2.2) q0_trial q0_snapshot q0_isSaved q0_past q0_rows q0_bags q0_tally q0_sizes q0_text q0_line q0_latestReason q0_latestDetail) (sp_letters_snapshot E ad q0_letters q0_trial q0_snapshot q0_isSaved q0_past q0_rows q0_bags q0_tally q0_sizes q0_text q0_line q0_latestReason q0_latestDetail) (sq_letters_snapshot E ad q0_letters q0_trial q0_snapshot q0_isSaved q0_past q0_rows q0_bags q0_tally q0_sizes q0_text q0_line q0_latestReason q0_latestDetail t2.1 t2.2.1 t2.2.2.1 t2.2.2.2.1 t2.2.2.2.2.1 t2.2.2.2.2.2 q0_snapshot.1 q0_snapshot.2.1 q0_snapshot.2.2.1 q0_snapshot.2.2.2.1 q0_snapshot.2.2.2.2.1 q0_snapshot.2.2.2.2.2) rfl rfl rfl hl.1 rfl (Nat.le_of_ble_eq_true rfl) rfl dX8_restore_18 (fun H locs hz18 hH => ?_)
    refine lv_aload_n hx hb dX8_restore_21 rfl (lv_at hl 0 rfl) ?_
    refine gX8_25 hC hH.1 0 rfl (v := .ref (ad 7)) rfl dX8_restore_22 ?_
    obtain ⟨t3, ht3, hf⟩ := ob hf
    refine k_WVpv hC LX8_284 ⟨Nat.le_of_ble_eq_true rfl, Nat.le_of_ble_eq_true rfl⟩ ⟨Nat.zero_le _, Nat.zero_le _⟩ (cP_forget l E (fun j => ad (7 + j)) q0_past.1 q0_past.2.1 q0_past.2.2 t3 ht3) rfl rfl hH (W1 := wS E ad (t2.1, t2.2.1, t2.2.2.1, t2.2.2.2.1, t2.2.2.2.2.1, t2.2.2.2.2.2) q0_trial q0_snapshot q0_isSaved (q0_past.1, q0_past.2.1, t3) q0_rows q0_bags q0_tally q0_sizes q0_text q0_line q0_latestReason q0_latestDetail) (sp_past E ad (t2.1, t2.2.1, t2.2.2.1, t2.2.2.2.1, t2.2.2.2.2.1, t2.2.2.2.2.2) q0_trial q0_snapshot q0_isSaved q0_past q0_rows q0_bags q0_tally q0_sizes q0_text q0_line q0_latestReason q0_latestDetail) (sq_past E ad (t2.1, t2.2.1, t2.2.2.1, t2.2.2.2.1, t2.2.2.2.2.1, t2.2.2.2.2.2) q0_trial q0_snapshot q0_isSaved q0_past q0_rows q0_bags q0_tally q0_sizes q0_text q0_line q0_latestReason q0_latestDetail q0_past.1 q0_past.2.1 t3) rfl rfl rfl hl.1 rfl (Nat.le_of_ble_eq_true rfl) rfl dX8_restore_25 (fun H locs hz25 hH => ?_)
    refine lv_aload_n hx hb dX8_restore_28 rfl (lv_at hl 0 rfl) ?_
    obtain ⟨t4, ht4, hf⟩ := ob hf
    refine k_WVsv hC LX8_95 ⟨Nat.le_of_ble_eq_true rfl, Nat.le_of_ble_eq_true rfl⟩ ⟨Nat.zero_le _, Nat.zero_le _⟩ (cS_follow l E ad (t2.1, t2.2.1, t2.2.2.1, t2.2.2.2.1, t2.2.2.2.2.1, t2.2.2.2.2.2) q0_trial q0_snapshot q0_isSaved (q0_past.1, q0_past.2.1, t3) q0_rows q0_bags q0_tally q0_sizes q0_text q0_line q0_latestReason q0_latestDetail t4 ht4) rfl rfl hH rfl rfl rfl hl.1 rfl (Nat.le_of_ble_eq_true rfl) rfl dX8_restore_29 (fun H locs hz29 hH => ?_)
    have hH : Hp E (adr (wS E ad q0_letters q0_trial q0_snapshot q0_isSaved q0_past q0_rows q0_bags q0_tally q0_sizes q0_text q0_line q0_latestReason q0_latestDetail)) (wS E ad (t2.1, t2.2.1, t2.2.2.1, t2.2.2.2.1, t2.2.2.2.2.1, t2.2.2.2.2.2) q0_trial q0_snapshot q0_isSaved (q0_past.1, q0_past.2.1, t3) t4.1 t4.2 q0_tally q0_sizes q0_text q0_line q0_latestReason q0_latestDetail) s.heap H locs := hH
    refine lv_aload_n hx hb dX8_restore_32 rfl (lv_at hl 0 rfl) ?_
    refine gX8_10 hC hH.1 0 rfl (v := .ref (ad 1)) rfl dX8_restore_33 ?_
    refine k_PVi hC LX8_87 ⟨Nat.le_of_ble_eq_true rfl, Nat.le_of_ble_eq_true rfl⟩ ⟨Nat.zero_le _, Nat.zero_le _⟩ (cL_size l E (fun j => ad (1 + j)) t2.1 t2.2.1 t2.2.2.1 t2.2.2.2.1 t2.2.2.2.2.1 t2.2.2.2.2.2 _ rfl) rfl rfl (ss_letters hH.1) rfl rfl hl.1 rfl (Nat.le_of_ble_eq_true rfl) rfl dX8_restore_36 (fun hz36 => ?_)
    have hf := Option.some.inj hf
    subst hf
    exact e_Wi hC hH hr hlocks rfl rfl dX8_restore_39
  · have hf := ite_t hf c1
    refine lv_bipush (v := (-15)) hx hb dX8_restore_7 (by decide) ?_
    have hf := Option.some.inj hf
    subst hf
    exact e_Wi hC hH hr hlocks rfl rfl dX8_restore_9
