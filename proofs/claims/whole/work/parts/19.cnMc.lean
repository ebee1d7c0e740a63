abbrev rmM_isAhead : Room := { frames := 5, cells := 0, slots := 0, locals := 108 }
set_option maxHeartbeats 4000000 in
set_option maxRecDepth 100000 in
theorem cM_isAhead (l : Launch) (E : eE) (ad : Nat → Nat) (x : TM) (a1 : Int32) (a2 : Int32) (r : Int32) (hf : fM_isAhead x.2.2.2.2.1 a1 a2 = some r) : cP l E yX9_isAhead cX9_isAhead 3 (some .boolean) rmM_isAhead [.ref (ad 0), .int a1, .int a2] (wM E ad x) (some (.int r)) := by
  refine Met.ofW (cc := cX9_isAhead) (maxL := 3) (ret := (some .boolean)) (by decide) rfl ?_
  intro p e s m args below meth c s₁ B hml hv
  obtain ⟨hargs, hP, hK⟩ := hv
  have hx := B.exec
  have hb := B.bytes
  have hr := B.returns
  have hts := atoms_spec (ws := ws_ yX9_isAhead cX9_isAhead 3 (some .boolean)) B.pre
  have hta : ∀ w ∈ lw_all, w.before args s = true := fun w h => hts w (List.mem_cons_of_mem _ h)
  have hown : s.vm.findClass RX9 = some m.cls := findClass_of_methodNamed B.named
  have hlocks := B.notSynchronized
  have hC : Cx p s m args c cX9_isAhead 3 RX9 E := ⟨hx, hb, hml, hown, hta, hK⟩
  obtain ⟨ls, he, hl⟩ := entry_ (m := m) (n := 3) hargs (Nat.le_of_ble_eq_true rfl)
  rw [he]
  have hl : lv_has ls 3 [(0, .ref (ad 0)), (1, .int a1), (2, .int a2)] := hl
  show W p l e rmM_isAhead s m args below meth c s.heap [] 0 0 (MQ below (qP (some .boolean) (some (.int r))) args s 0 0 (fun _ => False)) (F0 m 0 ls [])
  rw [fM_isAhead] at hf
  refine lv_aload_n hx hb dX9_isAhead_0 rfl (lv_at hl 0 rfl) ?_
  refine lv_iload_n hx hb dX9_isAhead_1 rfl (lv_at hl 1 rfl) ?_
  obtain ⟨t1, ht1, hf⟩ := ob hf
  refine k_PVi hC LX9_179 ⟨Nat.le_of_ble_eq_true rfl, Nat.le_of_ble_eq_true rfl⟩ ⟨Nat.zero_le _, Nat.zero_le _⟩ (cM_sumOf l E ad x a1 t1 ht1) rfl rfl hP rfl rfl hl.1 rfl (Nat.le_of_ble_eq_true rfl) rfl dX9_isAhead_2 (fun hz2 => ?_)
  refine lv_aload_n hx hb dX9_isAhead_5 rfl (lv_at hl 0 rfl) ?_
  refine lv_iload_n hx hb dX9_isAhead_6 rfl (lv_at hl 2 rfl) ?_
  obtain ⟨t2, ht2, hf⟩ := ob hf
  refine k_PVi hC LX9_179 ⟨Nat.le_of_ble_eq_true rfl, Nat.le_of_ble_eq_true rfl⟩ ⟨Nat.zero_le _, Nat.zero_le _⟩ (cM_sumOf l E ad x a2 t2 ht2) rfl rfl hP rfl rfl hl.1 rfl (Nat.le_of_ble_eq_true rfl) rfl dX9_isAhead_7 (fun hz7 => ?_)
  refine lv_icmp_eq (tgt := 32) hx hb dX9_isAhead_10 (by decide) (fun c3 => ?_) (fun c3 => ?_)
  · have hf := ite_t hf c3
    refine lv_aload_n hx hb dX9_isAhead_32 rfl (lv_at hl 0 rfl) ?_
    refine lv_iload_n hx hb dX9_isAhead_33 rfl (lv_at hl 1 rfl) ?_
    obtain ⟨t4, ht4, hf⟩ := ob hf
    refine k_PVi hC LX9_182 ⟨Nat.le_of_ble_eq_true rfl, Nat.le_of_ble_eq_true rfl⟩ ⟨Nat.zero_le _, Nat.zero_le _⟩ (cM_sizeOf l E ad x a1 t4 ht4) rfl rfl hP rfl rfl hl.1 rfl (Nat.le_of_ble_eq_true rfl) rfl dX9_isAhead_34 (fun hz34 => ?_)
    refine lv_aload_n hx hb dX9_isAhead_37 rfl (lv_at hl 0 rfl) ?_
    refine lv_iload_n hx hb dX9_isAhead_38 rfl (lv_at hl 2 rfl) ?_
    obtain ⟨t5, ht5, hf⟩ := ob hf
    refine k_PVi hC LX9_182 ⟨Nat.le_of_ble_eq_true rfl, Nat.le_of_ble_eq_true rfl⟩ ⟨Nat.zero_le _, Nat.zero_le _⟩ (cM_sizeOf l E ad x a2 t5 ht5) rfl rfl hP rfl rfl hl.1 rfl (Nat.le_of_ble_eq_true rfl) rfl dX9_isAhead_39 (fun hz39 => ?_)
    refine lv_icmp_eq (tgt := 66) hx hb dX9_isAhead_42 (by decide) (fun c6 => ?_) (fun c6 => ?_)
    · have hf := ite_t hf c6
      refine lv_iload_n hx hb dX9_isAhead_66 rfl (lv_at hl 1 rfl) ?_
      refine lv_iload_n hx hb dX9_isAhead_67 rfl (lv_at hl 2 rfl) ?_
      refine lv_icmp_ge (tgt := 75) hx hb dX9_isAhead_68 (by decide) (fun c7 => ?_) (fun c7 => ?_)
      · have hf := ite_t hf c7
        refine lv_iconst (v := 0) hx hb dX9_isAhead_75 (by decide) ?_
        have hf := Option.some.inj hf
        exact e_Pz hC hr hlocks hf rfl dX9_isAhead_76
      · have hf := ite_f hf c7
        refine lv_iconst (v := 1) hx hb dX9_isAhead_71 (by decide) ?_
        refine lv_goto (tgt := 76) hx hb dX9_isAhead_72 (by decide) ?_
        have hf := Option.some.inj hf
        exact e_Pz hC hr hlocks hf rfl dX9_isAhead_76
    · have hf := ite_f hf c6
      refine lv_aload_n hx hb dX9_isAhead_45 rfl (lv_at hl 0 rfl) ?_
      refine lv_iload_n hx hb dX9_isAhead_46 rfl (lv_at hl 1 rfl) ?_
      obtain ⟨t8, ht8, hf⟩ := ob hf
      refine k_PVi hC LX9_182 ⟨Nat.le_of_ble_eq_true rfl, Nat.le_of_ble_eq_true rfl⟩ ⟨Nat.zero_le _, Nat.zero_le _⟩ (cM_sizeOf l E ad x a1 t8 ht8) rfl rfl hP rfl rfl hl.1 rfl (Nat.le_of_ble_eq_true rfl) rfl dX9_isAhead_47 (fun hz47 => ?_)
      refine lv_aload_n hx hb dX9_isAhead_50 rfl (lv_at hl 0 rfl) ?_
      refine lv_iload_n hx hb dX9_isAhead_51 rfl (lv_at hl 2 rfl) ?_
      obtain ⟨t9, ht9, hf⟩ := ob hf
      refine k_PVi hC LX9_182 ⟨Nat.le_of_ble_eq_true rfl, Nat.le_of_ble_eq_true rfl⟩ ⟨Nat.zero_le _, Nat.zero_le _⟩ (cM_sizeOf l E ad x a2 t9 ht9) rfl rfl hP rfl rfl hl.1 rfl (Nat.le_of_ble_eq_true rfl) rfl dX9_isAhead_52 (fun hz52 => ?_)
      refine lv_icmp_ge (tgt := 62) hx hb dX9_isAhead_55 (by decide) (fun c10 => ?_) (fun c10 => ?_)
      · have hf := ite_t hf c10
        refine lv_iconst (v := 0) hx hb dX9_isAhead_62 (by decide) ?_
        refine lv_goto (tgt := 76) hx hb dX9_isAhead_63 (by decide) ?_
        have hf := Option.some.inj hf
        exact e_Pz hC hr hlocks hf rfl dX9_isAhead_76
      · have hf := ite_f hf c10
        refine lv_iconst (v := 1) hx hb dX9_isAhead_58 (by decide) ?_
        refine lv_goto (tgt := 76) hx hb dX9_isAhead_59 (by decide) ?_
        have hf := Option.some.inj hf
        exact e_Pz hC hr hlocks hf rfl dX9_isAhead_76
  · have hf := ite_f hf c3
    refine lv_aload_n hx hb dX9_isAhead_13 rfl (lv_at hl 0 rfl) ?_
    refine lv_iload_n hx hb dX9_isAhead_14 rfl (lv_at hl 1 rfl) ?_
    obtain ⟨t11, ht11, hf⟩ := ob hf
    refine k_PVi hC LX9_179 ⟨Nat.le_of_ble_eq_true rfl, Nat.le_of_ble_eq_true rfl⟩ ⟨Nat.zero_le _, Nat.zero_le _⟩ (cM_sumOf l E ad x a1 t11 ht11) rfl rfl hP rfl rfl hl.1 rfl (Nat.le_of_ble_eq_true rfl) rfl dX9_isAhead_15 (fun hz15 => ?_)
    refine lv_aload_n hx hb dX9_isAhead_18 rfl (lv_at hl 0 rfl) ?_
    refine lv_iload_n hx hb dX9_isAhead_19 rfl (lv_at hl 2 rfl) ?_
    obtain ⟨t12, ht12, hf⟩ := ob hf
    refine k_PVi hC LX9_179 ⟨Nat.le_of_ble_eq_true rfl, Nat.le_of_ble_eq_true rfl⟩ ⟨Nat.zero_le _, Nat.zero_le _⟩ (cM_sumOf l E ad x a2 t12 ht12) rfl rfl hP rfl rfl hl.1 rfl (Nat.le_of_ble_eq_true rfl) rfl dX9_isAhead_20 (fun hz20 => ?_)
    refine lv_icmp_le (tgt := 30) hx hb dX9_isAhead_23 (by decide) (fun c13 => ?_) (fun c13 => ?_)
    · have hf := ite_t hf c13
      refine lv_iconst (v := 0) hx hb dX9_isAhead_30 (by decide) ?_
      have hf := Option.some.inj hf
      exact e_Pz hC hr hlocks hf rfl dX9_isAhead_31
    · have hf := ite_f hf c13
      refine lv_iconst (v := 1) hx hb dX9_isAhead_26 (by decide) ?_
      refine lv_goto (tgt := 31) hx hb dX9_isAhead_27 (by decide) ?_
      have hf := Option.some.inj hf
      exact e_Pz hC hr hlocks hf rfl dX9_isAhead_31
abbrev rmM_ranked : Room := { frames := 6, cells := 0, slots := 0, locals := 130 }
set_option maxHeartbeats 4000000 in
set_option maxRecDepth 100000 in
theorem cM_ranked (l : Launch) (E : eE) (ad : Nat → Nat) (x : TM) (a1 : Int32) (r : Int32) (hf : fM_ranked x.2.2.2.2.1 a1 = some r) : cP l E yX9_ranked cX9_ranked 6 (some .int) rmM_ranked [.ref (ad 0), .int a1] (wM E ad x) (some (.int r)) := by
  refine Met.ofW (cc := cX9_ranked) (maxL := 6) (ret := (some .int)) (by decide) rfl ?_
  intro p e s m args below meth c s₁ B hml hv
  obtain ⟨hargs, hP, hK⟩ := hv
  have hx := B.exec
  have hb := B.bytes
  have hr := B.returns
  have hts := atoms_spec (ws := ws_ yX9_ranked cX9_ranked 6 (some .int)) B.pre
  have hta : ∀ w ∈ lw_all, w.before args s = true := fun w h => hts w (List.mem_cons_of_mem _ h)
  have hown : s.vm.findClass RX9 = some m.cls := findClass_of_methodNamed B.named
  have hlocks := B.notSynchronized
  have hC : Cx p s m args c cX9_ranked 6 RX9 E := ⟨hx, hb, hml, hown, hta, hK⟩
  obtain ⟨ls, he, hl⟩ := entry_ (m := m) (n := 6) hargs (Nat.le_of_ble_eq_true rfl)
  rw [he]
  have hl : lv_has ls 6 [(0, .ref (ad 0)), (1, .int a1)] := hl
  show W p l e rmM_ranked s m args below meth c s.heap [] 0 0 (MQ below (qP (some .int) (some (.int r))) args s 0 0 (fun _ => False)) (F0 m 0 ls [])
  have L18 : ∀ (n : Nat) (a1 : Int32) (a2 : Int32) (a3 : Int32) (a4 : Int32) (a5 : Int32) (ls : Array Slot), lv_has ls 6 [(0, .ref (ad 0)), (1, .int a1), (2, .int a2), (3, .int a3), (4, .int a4), (5, .int a5)] → ∀ (o : Int32), fM_ranked_18 n x.2.2.2.2.1 a1 a2 a3 a4 a5 = some o → (∀ (ls : Array Slot), lv_has ls 6 [(0, .ref (ad 0)), (1, .int a1), (2, .int a2), (3, .int a3), (4, .int o)] → W p l e rmM_ranked s m args below meth c s.heap [] 0 0 (MQ below (qP (some .int) (some (.int r))) args s 0 0 (fun _ => False)) (F0 m 50 ls [])) → W p l e rmM_ranked s m args below meth c s.heap [] 0 0 (MQ below (qP (some .int) (some (.int r))) args s 0 0 (fun _ => False)) (F0 m 18 ls []) := by
    intro n
    induction n with
    | zero => intro a1 a2 a3 a4 a5 ls hl o hf hk; cases hf
    | succ n ih =>
      intro a1 a2 a3 a4 a5 ls hl o hf hk
      rw [fM_ranked_18] at hf
      refine lv_iload hx hb dX9_ranked_18 (lv_at hl 5 rfl) ?_
      refine lv_iload_n hx hb dX9_ranked_20 rfl (lv_at hl 2 rfl) ?_
      refine lv_icmp_ge (tgt := 50) hx hb dX9_ranked_21 (by decide) (fun c3 => ?_) (fun c3 => ?_)
      · have hf := ite_t hf c3
        cases hf
        exact hk ls (lv_sub hl [0, 1, 2, 3, 4] rfl)
      · have hf := ite_f hf c3
        refine lv_iload hx hb dX9_ranked_24 (lv_at hl 4 rfl) ?_
        refine lv_aload_n hx hb dX9_ranked_26 rfl (lv_at hl 0 rfl) ?_
        refine lv_iload hx hb dX9_ranked_27 (lv_at hl 5 rfl) ?_
        refine lv_iload_n hx hb dX9_ranked_29 rfl (lv_at hl 3 rfl) ?_
        obtain ⟨t4, ht4, hf⟩ := ob hf
        refine k_PVi hC LX9_185 ⟨Nat.le_of_ble_eq_true rfl, Nat.le_of_ble_eq_true rfl⟩ ⟨Nat.zero_le _, Nat.zero_le _⟩ (cM_isAhead l E ad x a5 a3 t4 ht4) rfl rfl hP rfl rfl hl.1 rfl (Nat.le_of_ble_eq_true rfl) rfl dX9_ranked_30 (fun hz30 => ?_)
        refine lv_if_eq (tgt := 40) hx hb dX9_ranked_33 (by decide) (fun c5 => ?_) (fun c5 => ?_)
        · have hf := ite_t hf c5
          refine lv_iconst (v := 0) hx hb dX9_ranked_40 (by decide) ?_
          refine lv_iadd hx hb dX9_ranked_41 ?_
          refine lv_istore (lv' := [(4, .int (a4 + (0 : Int32))), (0, .ref (ad 0)), (1, .int a1), (2, .int a2), (3, .int a3), (5, .int a5)]) hx hb dX9_ranked_42 hl (by decide) rfl (fun ls hl => ?_)
          refine lv_iinc (v := (a5 + (1 : Int32))) (lv' := [(5, .int (a5 + (1 : Int32))), (4, .int (a4 + (0 : Int32))), (0, .ref (ad 0)), (1, .int a1), (2, .int a2), (3, .int a3)]) hx hb dX9_ranked_44 hl (k := 5) rfl rfl (by decide) rfl (fun ls hl => ?_)
          refine lv_goto (tgt := 18) hx hb dX9_ranked_47 (by decide) ?_
          exact ih a1 a2 a3 (a4 + (0 : Int32)) (a5 + (1 : Int32)) ls (lv_sub hl [2, 3, 4, 5, 1, 0] rfl) _ hf hk
        · have hf := ite_f hf c5
          refine lv_iconst (v := 1) hx hb dX9_ranked_36 (by decide) ?_
          refine lv_goto (tgt := 41) hx hb dX9_ranked_37 (by decide) ?_
          refine lv_iadd hx hb dX9_ranked_41 ?_
          refine lv_istore (lv' := [(4, .int (a4 + (1 : Int32))), (0, .ref (ad 0)), (1, .int a1), (2, .int a2), (3, .int a3), (5, .int a5)]) hx hb dX9_ranked_42 hl (by decide) rfl (fun ls hl => ?_)
          refine lv_iinc (v := (a5 + (1 : Int32))) (lv' := [(5, .int (a5 + (1 : Int32))), (4, .int (a4 + (1 : Int32))), (0, .ref (ad 0)), (1, .int a1), (2, .int a2), (3, .int a3)]) hx hb dX9_ranked_44 hl (k := 5) rfl rfl (by decide) rfl (fun ls hl => ?_)
          refine lv_goto (tgt := 18) hx hb dX9_ranked_47 (by decide) ?_
          exact ih a1 a2 a3 (a4 + (1 : Int32)) (a5 + (1 : Int32)) ls (lv_sub hl [2, 3, 4, 5, 1, 0] rfl) _ hf hk
  have L7 : ∀ (n : Nat) (a1 : Int32) (a2 : Int32) (a3 : Int32) (ls : Array Slot), lv_has ls 6 [(0, .ref (ad 0)), (1, .int a1), (2, .int a2), (3, .int a3)] → fM_ranked_7 n x.2.2.2.2.1 a1 a2 a3 = some r → W p l e rmM_ranked s m args below meth c s.heap [] 0 0 (MQ below (qP (some .int) (some (.int r))) args s 0 0 (fun _ => False)) (F0 m 7 ls []) := by
    intro n
    induction n with
    | zero => intro a1 a2 a3 ls hl hf; cases hf
    | succ n ih =>
      intro a1 a2 a3 ls hl hf
      rw [fM_ranked_7] at hf
      refine lv_iload_n hx hb dX9_ranked_7 rfl (lv_at hl 3 rfl) ?_
      refine lv_iload_n hx hb dX9_ranked_8 rfl (lv_at hl 2 rfl) ?_
      refine lv_icmp_ge (tgt := 64) hx hb dX9_ranked_9 (by decide) (fun c2 => ?_) (fun c2 => ?_)
      · have hf := ite_t hf c2
        refine lv_bipush (v := (-11)) hx hb dX9_ranked_64 (by decide) ?_
        have hf := Option.some.inj hf
        exact e_Pi hC hr hlocks hf dX9_ranked_66
      · have hf := ite_f hf c2
        refine lv_iconst (v := 0) hx hb dX9_ranked_12 (by decide) ?_
        refine lv_istore (lv' := [(4, .int (0 : Int32)), (0, .ref (ad 0)), (1, .int a1), (2, .int a2), (3, .int a3)]) hx hb dX9_ranked_13 hl (by decide) rfl (fun ls hl => ?_)
        refine lv_iconst (v := 0) hx hb dX9_ranked_15 (by decide) ?_
        refine lv_istore (lv' := [(5, .int (0 : Int32)), (4, .int (0 : Int32)), (0, .ref (ad 0)), (1, .int a1), (2, .int a2), (3, .int a3)]) hx hb dX9_ranked_16 hl (by decide) rfl (fun ls hl => ?_)
        obtain ⟨o6, ho6, hf⟩ := ob hf
        refine L18 FU a1 a2 a3 (0 : Int32) (0 : Int32) ls (lv_sub hl [2, 3, 4, 5, 1, 0] rfl) o6 ho6 (fun ls hl => ?_)
        refine lv_iload hx hb dX9_ranked_50 (lv_at hl 4 rfl) ?_
        refine lv_iload_n hx hb dX9_ranked_52 rfl (lv_at hl 1 rfl) ?_
        refine lv_icmp_ne (tgt := 58) hx hb dX9_ranked_53 (by decide) (fun c7 => ?_) (fun c7 => ?_)
        · have hf := ite_f hf c7
          refine lv_iinc (v := (a3 + (1 : Int32))) (lv' := [(3, .int (a3 + (1 : Int32))), (0, .ref (ad 0)), (1, .int a1), (2, .int a2), (4, .int o6)]) hx hb dX9_ranked_58 hl (k := 3) rfl rfl (by decide) rfl (fun ls hl => ?_)
          refine lv_goto (tgt := 7) hx hb dX9_ranked_61 (by decide) ?_
          exact ih a1 a2 (a3 + (1 : Int32)) ls (lv_sub hl [1, 2, 3, 0] rfl) hf
        · have hf := ite_t hf c7
          refine lv_iload_n hx hb dX9_ranked_56 rfl (lv_at hl 3 rfl) ?_
          have hf := Option.some.inj hf
          exact e_Pi hC hr hlocks hf dX9_ranked_57
  rw [fM_ranked] at hf
  refine lv_aload_n hx hb dX9_ranked_0 rfl (lv_at hl 0 rfl) ?_
  obtain ⟨t1, ht1, hf⟩ := ob hf
  refine k_PVi hC LX9_164 ⟨Nat.le_of_ble_eq_true rfl, Nat.le_of_ble_eq_true rfl⟩ ⟨Nat.zero_le _, Nat.zero_le _⟩ (cM_bags l E ad x t1 ht1) rfl rfl hP rfl rfl hl.1 rfl (Nat.le_of_ble_eq_true rfl) rfl dX9_ranked_1 (fun hz1 => ?_)
  refine lv_istore_n (lv' := [(2, .int t1), (0, .ref (ad 0)), (1, .int a1)]) hx hb dX9_ranked_4 rfl hl (by decide) rfl (fun ls hl => ?_)
  refine lv_iconst (v := 0) hx hb dX9_ranked_5 (by decide) ?_
  refine lv_istore_n (lv' := [(3, .int (0 : Int32)), (2, .int t1), (0, .ref (ad 0)), (1, .int a1)]) hx hb dX9_ranked_6 rfl hl (by decide) rfl (fun ls hl => ?_)
  exact L7 FU a1 t1 (0 : Int32) ls (lv_sub hl [2, 3, 1, 0] rfl) hf
abbrev rmM_writes : Room := { frames := 0, cells := 0, slots := 0, locals := 0 }
set_option maxHeartbeats 4000000 in
set_option maxRecDepth 100000 in
theorem cM_writes (l : Launch) (E : eE) (ad : Nat → Nat) (x : TM) (a1 : Int32) (t : (Nat → Int32) × Int32) (hf : fM_writes x.2.2.2.2.2.2.2.2.2.2.2.2.1 x.2.2.2.2.2.2.2.2.2.2.2.2.2.1 a1 = some t) : cW l E yX9_writes cX9_writes 2 none rmM_writes [.ref (ad 0), .int a1] (wM E ad x) none (wM E ad (x.1, x.2.1, x.2.2.1, x.2.2.2.1, x.2.2.2.2.1, x.2.2.2.2.2.1, x.2.2.2.2.2.2.1, x.2.2.2.2.2.2.2.1, x.2.2.2.2.2.2.2.2.1, x.2.2.2.2.2.2.2.2.2.1, x.2.2.2.2.2.2.2.2.2.2.1, x.2.2.2.2.2.2.2.2.2.2.2.1, t.1, t.2, x.2.2.2.2.2.2.2.2.2.2.2.2.2.2)) := by
  refine Met.ofW (cc := cX9_writes) (maxL := 2) (ret := none) (by decide) rfl ?_
  intro p e s m args below meth c s₁ B hml hv
  obtain ⟨hargs, hP, hK, hD0⟩ := hv
  have hx := B.exec
  have hb := B.bytes
  have hr := B.returns
  have hts := atoms_spec (ws := ws_ yX9_writes cX9_writes 2 none) B.pre
  have hta : ∀ w ∈ lw_all, w.before args s = true := fun w h => hts w (List.mem_cons_of_mem _ h)
  have hown : s.vm.findClass RX9 = some m.cls := findClass_of_methodNamed B.named
  have hlocks := B.notSynchronized
  have hC : Cx p s m args c cX9_writes 2 RX9 E := ⟨hx, hb, hml, hown, hta, hK⟩
  have hH : Hp E (adr (wM E ad x)) (wM E ad x) s.heap s.heap [] := Hp.start hP hD0
  obtain ⟨ls, he, hl⟩ := entry_ (m := m) (n := 2) hargs (Nat.le_of_ble_eq_true rfl)
  rw [he]
  have hl : lv_has ls 2 [(0, .ref (ad 0)), (1, .int a1)] := hl
  show W p l e rmM_writes s m args below meth c s.heap [] 0 0 (MQ below (qW E none none (wM E ad x) (wM E ad (x.1, x.2.1, x.2.2.1, x.2.2.2.1, x.2.2.2.2.1, x.2.2.2.2.2.1, x.2.2.2.2.2.2.1, x.2.2.2.2.2.2.2.1, x.2.2.2.2.2.2.2.2.1, x.2.2.2.2.2.2.2.2.2.1, x.2.2.2.2.2.2.2.2.2.2.1, x.2.2.2.2.2.2.2.2.2.2.2.1, t.1, t.2, x.2.2.2.2.2.2.2.2.2.2.2.2.2.2))) args s 0 0 (adr (wM E ad x))) (F0 m 0 ls [])
  suffices hmain : ∀ (H : Heap) (locs : List Loc), Hp E (adr (wM E ad x)) (wM E ad x) s.heap H locs → W p l e rmM_writes s m args below meth c H locs 0 0 (MQ below (qW E none none (wM E ad x) (wM E ad (x.1, x.2.1, x.2.2.1, x.2.2.2.1, x.2.2.2.2.1, x.2.2.2.2.2.1, x.2.2.2.2.2.2.1, x.2.2.2.2.2.2.2.1, x.2.2.2.2.2.2.2.2.1, x.2.2.2.2.2.2.2.2.2.1, x.2.2.2.2.2.2.2.2.2.2.1, x.2.2.2.2.2.2.2.2.2.2.2.1, t.1, t.2, x.2.2.2.2.2.2.2.2.2.2.2.2.2.2))) args s 0 0 (adr (wM E ad x))) (F0 m 0 ls []) from hmain _ _ hH
  clear hH
  intro H locs hH
  rw [fM_writes] at hf
  refine lv_aload_n hx hb dX9_writes_0 rfl (lv_at hl 0 rfl) ?_
  refine gX9_25 hC hH.1 0 rfl (v := .ref (ad 6)) rfl dX9_writes_1 ?_
  refine lv_aload_n hx hb dX9_writes_4 rfl (lv_at hl 0 rfl) ?_
  refine gX9_188 hC hH.1 0 rfl (v := .int x.2.2.2.2.2.2.2.2.2.2.2.2.2.1) rfl dX9_writes_5 ?_
  refine lv_iload_n hx hb dX9_writes_8 rfl (lv_at hl 1 rfl) ?_
  refine lv_i2c hx hb dX9_writes_9 rfl ?_
  obtain ⟨g1, hg1, hf⟩ := ob hf
  obtain ⟨hg1a, hg1b⟩ := stA_ok hg1
  refine a_cst hC hH 6 rfl hg1a hg1b (W1 := wM E ad (x.1, x.2.1, x.2.2.1, x.2.2.2.1, x.2.2.2.2.1, x.2.2.2.2.2.1, x.2.2.2.2.2.2.1, x.2.2.2.2.2.2.2.1, x.2.2.2.2.2.2.2.2.1, x.2.2.2.2.2.2.2.2.2.1, x.2.2.2.2.2.2.2.2.2.2.1, x.2.2.2.2.2.2.2.2.2.2.2.1, g1, x.2.2.2.2.2.2.2.2.2.2.2.2.2)) rfl dX9_writes_10 (pk_vc _) (fun H locs hH => ?_)
  refine lv_aload_n hx hb dX9_writes_11 rfl (lv_at hl 0 rfl) ?_
  refine lv_dup hx hb dX9_writes_12 rfl ?_
  refine gX9_188 hC hH.1 0 rfl (v := .int x.2.2.2.2.2.2.2.2.2.2.2.2.2.1) rfl dX9_writes_13 ?_
  refine lv_iconst (v := 1) hx hb dX9_writes_16 (by decide) ?_
  refine lv_iadd hx hb dX9_writes_17 ?_
  refine pX9_188 hC hH 0 rfl (v := .int (x.2.2.2.2.2.2.2.2.2.2.2.2.2.1 + (1 : Int32))) rfl rfl (Nat.le_of_ble_eq_true rfl) (W1 := wM E ad (x.1, x.2.1, x.2.2.1, x.2.2.2.1, x.2.2.2.2.1, x.2.2.2.2.2.1, x.2.2.2.2.2.2.1, x.2.2.2.2.2.2.2.1, x.2.2.2.2.2.2.2.2.1, x.2.2.2.2.2.2.2.2.2.1, x.2.2.2.2.2.2.2.2.2.2.1, x.2.2.2.2.2.2.2.2.2.2.2.1, g1, (x.2.2.2.2.2.2.2.2.2.2.2.2.2.1 + (1 : Int32)), x.2.2.2.2.2.2.2.2.2.2.2.2.2.2)) rfl dX9_writes_18 (fun H locs hH => ?_)
  cases hf
  exact e_Wv hC hH hr hlocks rfl dX9_writes_21
abbrev rmM_tell : Room := { frames := 2, cells := 0, slots := 0, locals := 42 }
set_option maxHeartbeats 4000000 in
set_option maxRecDepth 100000 in
theorem cM_tell (l : Launch) (E : eE) (ad : Nat → Nat) (x : TM) (t : Int32 × (Nat → Int32) × Int32) (hf : fM_tell x.2.2.2.2.1 x.2.2.2.2.2.2.2.2.2.2.2.2.1 x.2.2.2.2.2.2.2.2.2.2.2.2.2.1 = some t) : cW l E yX9_tell cX9_tell 2 (some .int) rmM_tell [.ref (ad 0)] (wM E ad x) (some (.int t.1)) (wM E ad (x.1, x.2.1, x.2.2.1, x.2.2.2.1, x.2.2.2.2.1, x.2.2.2.2.2.1, x.2.2.2.2.2.2.1, x.2.2.2.2.2.2.2.1, x.2.2.2.2.2.2.2.2.1, x.2.2.2.2.2.2.2.2.2.1, x.2.2.2.2.2.2.2.2.2.2.1, x.2.2.2.2.2.2.2.2.2.2.2.1, t.2.1, t.2.2, x.2.2.2.2.2.2.2.2.2.2.2.2.2.2)) := by
  refine Met.ofW (cc := cX9_tell) (maxL := 2) (ret := (some .int)) (by decide) rfl ?_
  intro p e s m args below meth c s₁ B hml hv
  obtain ⟨hargs, hP, hK, hD0⟩ := hv
  have hx := B.exec
  have hb := B.bytes
  have hr := B.returns
  have hts := atoms_spec (ws := ws_ yX9_tell cX9_tell 2 (some .int)) B.pre
  have hta : ∀ w ∈ lw_all, w.before args s = true := fun w h => hts w (List.mem_cons_of_mem _ h)
  have hown : s.vm.findClass RX9 = some m.cls := findClass_of_methodNamed B.named
  have hlocks := B.notSynchronized
  have hC : Cx p s m args c cX9_tell 2 RX9 E := ⟨hx, hb, hml, hown, hta, hK⟩
  have hH : Hp E (adr (wM E ad x)) (wM E ad x) s.heap s.heap [] := Hp.start hP hD0
  obtain ⟨ls, he, hl⟩ := entry_ (m := m) (n := 2) hargs (Nat.le_of_ble_eq_true rfl)
  rw [he]
  have hl : lv_has ls 2 [(0, .ref (ad 0))] := hl
  show W p l e rmM_tell s m args below meth c s.heap [] 0 0 (MQ below (qW E (some .int) (some (.int t.1)) (wM E ad x) (wM E ad (x.1, x.2.1, x.2.2.1, x.2.2.2.1, x.2.2.2.2.1, x.2.2.2.2.2.1, x.2.2.2.2.2.2.1, x.2.2.2.2.2.2.2.1, x.2.2.2.2.2.2.2.2.1, x.2.2.2.2.2.2.2.2.2.1, x.2.2.2.2.2.2.2.2.2.2.1, x.2.2.2.2.2.2.2.2.2.2.2.1, t.2.1, t.2.2, x.2.2.2.2.2.2.2.2.2.2.2.2.2.2))) args s 0 0 (adr (wM E ad x))) (F0 m 0 ls [])
  suffices hmain : ∀ (H : Heap) (locs : List Loc), Hp E (adr (wM E ad x)) (wM E ad x) s.heap H locs → W p l e rmM_tell s m args below meth c H locs 0 0 (MQ below (qW E (some .int) (some (.int t.1)) (wM E ad x) (wM E ad (x.1, x.2.1, x.2.2.1, x.2.2.2.1, x.2.2.2.2.1, x.2.2.2.2.2.1, x.2.2.2.2.2.2.1, x.2.2.2.2.2.2.2.1, x.2.2.2.2.2.2.2.2.1, x.2.2.2.2.2.2.2.2.2.1, x.2.2.2.2.2.2.2.2.2.2.1, x.2.2.2.2.2.2.2.2.2.2.2.1, t.2.1, t.2.2, x.2.2.2.2.2.2.2.2.2.2.2.2.2.2))) args s 0 0 (adr (wM E ad x))) (F0 m 0 ls []) from hmain _ _ hH
  clear hH
  have L7 : ∀ (n : Nat) (y0_12 : (Nat → Int32)) (y0_13 : Int32) (a1 : Int32) (ls : Array Slot), lv_has ls 2 [(0, .ref (ad 0)), (1, .int a1)] → ∀ (H : Heap) (locs : List Loc), Hp E (adr (wM E ad x)) (wM E ad (x.1, x.2.1, x.2.2.1, x.2.2.2.1, x.2.2.2.2.1, x.2.2.2.2.2.1, x.2.2.2.2.2.2.1, x.2.2.2.2.2.2.2.1, x.2.2.2.2.2.2.2.2.1, x.2.2.2.2.2.2.2.2.2.1, x.2.2.2.2.2.2.2.2.2.2.1, x.2.2.2.2.2.2.2.2.2.2.2.1, y0_12, y0_13, x.2.2.2.2.2.2.2.2.2.2.2.2.2.2)) s.heap H locs → fM_tell_7 n x.2.2.2.2.1 y0_12 y0_13 a1 = some t → W p l e rmM_tell s m args below meth c H locs 0 0 (MQ below (qW E (some .int) (some (.int t.1)) (wM E ad x) (wM E ad (x.1, x.2.1, x.2.2.1, x.2.2.2.1, x.2.2.2.2.1, x.2.2.2.2.2.1, x.2.2.2.2.2.2.1, x.2.2.2.2.2.2.2.1, x.2.2.2.2.2.2.2.2.1, x.2.2.2.2.2.2.2.2.2.1, x.2.2.2.2.2.2.2.2.2.2.1, x.2.2.2.2.2.2.2.2.2.2.2.1, t.2.1, t.2.2, x.2.2.2.2.2.2.2.2.2.2.2.2.2.2))) args s 0 0 (adr (wM E ad x))) (F0 m 7 ls []) := by
    intro n
    induction n with
    | zero => intro y0_12 y0_13 a1 ls hl H locs hH hf; cases hf
    | succ n ih =>
      intro y0_12 y0_13 a1 ls hl H locs hH hf
      rw [fM_tell_7] at hf
      refine lv_iload_n hx hb dX9_tell_7 rfl (lv_at hl 1 rfl) ?_
      refine lv_aload_n hx hb dX9_tell_8 rfl (lv_at hl 0 rfl) ?_
      refine gX9_7 hC hH.1 0 rfl (v := .ref (ad 1)) rfl dX9_tell_9 ?_
      refine lv_iconst (v := 0) hx hb dX9_tell_12 (by decide) ?_
      obtain ⟨v1, hv1, hf⟩ := ob hf
      obtain ⟨hv1a, hv1b⟩ := ldA_ok hv1
      refine a_ild hC hH.1 1 rfl hv1a hv1b dX9_tell_13 ?_
      refine lv_icmp_ge (tgt := 77) hx hb dX9_tell_14 (by decide) (fun c2 => ?_) (fun c2 => ?_)
      · have hf := ite_t hf c2
        refine lv_aload_n hx hb dX9_tell_77 rfl (lv_at hl 0 rfl) ?_
        refine gX9_188 hC hH.1 0 rfl (v := .int y0_13) rfl dX9_tell_78 ?_
        cases hf
        exact e_Wi hC hH hr hlocks rfl rfl dX9_tell_81
      · have hf := ite_f hf c2
        refine lv_iload_n hx hb dX9_tell_17 rfl (lv_at hl 1 rfl) ?_
        refine lv_if_le (tgt := 35) hx hb dX9_tell_18 (by decide) (fun c3 => ?_) (fun c3 => ?_)
        · have hf := ite_t hf c3
          refine lv_aload_n hx hb dX9_tell_35 rfl (lv_at hl 0 rfl) ?_
          refine lv_aload_n hx hb dX9_tell_36 rfl (lv_at hl 0 rfl) ?_
          refine lv_iload_n hx hb dX9_tell_37 rfl (lv_at hl 1 rfl) ?_
          obtain ⟨t4, ht4, hf⟩ := ob hf
          refine k_PVi hC LX9_86 ⟨Nat.le_of_ble_eq_true rfl, Nat.le_of_ble_eq_true rfl⟩ ⟨Nat.zero_le _, Nat.zero_le _⟩ (cM_is l E ad (x.1, x.2.1, x.2.2.1, x.2.2.2.1, x.2.2.2.2.1, x.2.2.2.2.2.1, x.2.2.2.2.2.2.1, x.2.2.2.2.2.2.2.1, x.2.2.2.2.2.2.2.2.1, x.2.2.2.2.2.2.2.2.2.1, x.2.2.2.2.2.2.2.2.2.2.1, x.2.2.2.2.2.2.2.2.2.2.2.1, y0_12, y0_13, x.2.2.2.2.2.2.2.2.2.2.2.2.2.2) a1 t4 ht4) rfl rfl hH.1 rfl rfl hl.1 rfl (Nat.le_of_ble_eq_true rfl) rfl dX9_tell_38 (fun hz38 => ?_)
          refine lv_bipush (v := 10) hx hb dX9_tell_41 (by decide) ?_
          refine lv_icmp_ge (tgt := 57) hx hb dX9_tell_43 (by decide) (fun c5 => ?_) (fun c5 => ?_)
          · have hf := ite_t hf c5
            refine lv_bipush (v := 97) hx hb dX9_tell_57 (by decide) ?_
            refine lv_aload_n hx hb dX9_tell_59 rfl (lv_at hl 0 rfl) ?_
            refine lv_iload_n hx hb dX9_tell_60 rfl (lv_at hl 1 rfl) ?_
            obtain ⟨t6, ht6, hf⟩ := ob hf
            refine k_PVi hC LX9_86 ⟨Nat.le_of_ble_eq_true rfl, Nat.le_of_ble_eq_true rfl⟩ ⟨Nat.zero_le _, Nat.zero_le _⟩ (cM_is l E ad (x.1, x.2.1, x.2.2.1, x.2.2.2.1, x.2.2.2.2.1, x.2.2.2.2.2.1, x.2.2.2.2.2.2.1, x.2.2.2.2.2.2.2.1, x.2.2.2.2.2.2.2.2.1, x.2.2.2.2.2.2.2.2.2.1, x.2.2.2.2.2.2.2.2.2.2.1, x.2.2.2.2.2.2.2.2.2.2.2.1, y0_12, y0_13, x.2.2.2.2.2.2.2.2.2.2.2.2.2.2) a1 t6 ht6) rfl rfl hH.1 rfl rfl hl.1 rfl (Nat.le_of_ble_eq_true rfl) rfl dX9_tell_61 (fun hz61 => ?_)
            refine lv_iadd hx hb dX9_tell_64 ?_
            refine lv_bipush (v := 10) hx hb dX9_tell_65 (by decide) ?_
            refine lv_isub hx hb dX9_tell_67 ?_
            obtain ⟨t7, ht7, hf⟩ := ob hf
            refine k_WVsv hC LX9_191 ⟨Nat.le_of_ble_eq_true rfl, Nat.le_of_ble_eq_true rfl⟩ ⟨Nat.zero_le _, Nat.zero_le _⟩ (cM_writes l E ad (x.1, x.2.1, x.2.2.1, x.2.2.2.1, x.2.2.2.2.1, x.2.2.2.2.2.1, x.2.2.2.2.2.2.1, x.2.2.2.2.2.2.2.1, x.2.2.2.2.2.2.2.2.1, x.2.2.2.2.2.2.2.2.2.1, x.2.2.2.2.2.2.2.2.2.2.1, x.2.2.2.2.2.2.2.2.2.2.2.1, y0_12, y0_13, x.2.2.2.2.2.2.2.2.2.2.2.2.2.2) (((97 : Int32) + t6) - (10 : Int32)) t7 ht7) rfl rfl hH rfl rfl rfl hl.1 rfl (Nat.le_of_ble_eq_true rfl) rfl dX9_tell_68 (fun H locs hz68 hH => ?_)
            have hH : Hp E (adr (wM E ad x)) (wM E ad (x.1, x.2.1, x.2.2.1, x.2.2.2.1, x.2.2.2.2.1, x.2.2.2.2.2.1, x.2.2.2.2.2.2.1, x.2.2.2.2.2.2.2.1, x.2.2.2.2.2.2.2.2.1, x.2.2.2.2.2.2.2.2.2.1, x.2.2.2.2.2.2.2.2.2.2.1, x.2.2.2.2.2.2.2.2.2.2.2.1, t7.1, t7.2, x.2.2.2.2.2.2.2.2.2.2.2.2.2.2)) s.heap H locs := hH
            refine lv_iinc (v := (a1 + (1 : Int32))) (lv' := [(1, .int (a1 + (1 : Int32))), (0, .ref (ad 0))]) hx hb dX9_tell_71 hl (k := 1) rfl rfl (by decide) rfl (fun ls hl => ?_)
            refine lv_goto (tgt := 7) hx hb dX9_tell_74 (by decide) ?_
            exact ih t7.1 t7.2 (a1 + (1 : Int32)) ls (lv_sub hl [1, 0] rfl) _ _ hH hf
          · have hf := ite_f hf c5
            refine lv_bipush (v := 48) hx hb dX9_tell_46 (by decide) ?_
            refine lv_aload_n hx hb dX9_tell_48 rfl (lv_at hl 0 rfl) ?_
            refine lv_iload_n hx hb dX9_tell_49 rfl (lv_at hl 1 rfl) ?_
            obtain ⟨t8, ht8, hf⟩ := ob hf
            refine k_PVi hC LX9_86 ⟨Nat.le_of_ble_eq_true rfl, Nat.le_of_ble_eq_true rfl⟩ ⟨Nat.zero_le _, Nat.zero_le _⟩ (cM_is l E ad (x.1, x.2.1, x.2.2.1, x.2.2.2.1, x.2.2.2.2.1, x.2.2.2.2.2.1, x.2.2.2.2.2.2.1, x.2.2.2.2.2.2.2.1, x.2.2.2.2.2.2.2.2.1, x.2.2.2.2.2.2.2.2.2.1, x.2.2.2.2.2.2.2.2.2.2.1, x.2.2.2.2.2.2.2.2.2.2.2.1, y0_12, y0_13, x.2.2.2.2.2.2.2.2.2.2.2.2.2.2) a1 t8 ht8) rfl rfl hH.1 rfl rfl hl.1 rfl (Nat.le_of_ble_eq_true rfl) rfl dX9_tell_50 (fun hz50 => ?_)
            refine lv_iadd hx hb dX9_tell_53 ?_
            refine lv_goto (tgt := 68) hx hb dX9_tell_54 (by decide) ?_
            obtain ⟨t9, ht9, hf⟩ := ob hf
            refine k_WVsv hC LX9_191 ⟨Nat.le_of_ble_eq_true rfl, Nat.le_of_ble_eq_true rfl⟩ ⟨Nat.zero_le _, Nat.zero_le _⟩ (cM_writes l E ad (x.1, x.2.1, x.2.2.1, x.2.2.2.1, x.2.2.2.2.1, x.2.2.2.2.2.1, x.2.2.2.2.2.2.1, x.2.2.2.2.2.2.2.1, x.2.2.2.2.2.2.2.2.1, x.2.2.2.2.2.2.2.2.2.1, x.2.2.2.2.2.2.2.2.2.2.1, x.2.2.2.2.2.2.2.2.2.2.2.1, y0_12, y0_13, x.2.2.2.2.2.2.2.2.2.2.2.2.2.2) ((48 : Int32) + t8) t9 ht9) rfl rfl hH rfl rfl rfl hl.1 rfl (Nat.le_of_ble_eq_true rfl) rfl dX9_tell_68 (fun H locs hz68 hH => ?_)
            have hH : Hp E (adr (wM E ad x)) (wM E ad (x.1, x.2.1, x.2.2.1, x.2.2.2.1, x.2.2.2.2.1, x.2.2.2.2.2.1, x.2.2.2.2.2.2.1, x.2.2.2.2.2.2.2.1, x.2.2.2.2.2.2.2.2.1, x.2.2.2.2.2.2.2.2.2.1, x.2.2.2.2.2.2.2.2.2.2.1, x.2.2.2.2.2.2.2.2.2.2.2.1, t9.1, t9.2, x.2.2.2.2.2.2.2.2.2.2.2.2.2.2)) s.heap H locs := hH
            refine lv_iinc (v := (a1 + (1 : Int32))) (lv' := [(1, .int (a1 + (1 : Int32))), (0, .ref (ad 0))]) hx hb dX9_tell_71 hl (k := 1) rfl rfl (by decide) rfl (fun ls hl => ?_)
            refine lv_goto (tgt := 7) hx hb dX9_tell_74 (by decide) ?_
            exact ih t9.1 t9.2 (a1 + (1 : Int32)) ls (lv_sub hl [1, 0] rfl) _ _ hH hf
        · have hf := ite_f hf c3
          refine lv_aload_n hx hb dX9_tell_21 rfl (lv_at hl 0 rfl) ?_
          refine lv_iload_n hx hb dX9_tell_22 rfl (lv_at hl 1 rfl) ?_
          obtain ⟨t10, ht10, hf⟩ := ob hf
          refine k_PVi hC LX9_115 ⟨Nat.le_of_ble_eq_true rfl, Nat.le_of_ble_eq_true rfl⟩ ⟨Nat.zero_le _, Nat.zero_le _⟩ (cM_begins l E ad (x.1, x.2.1, x.2.2.1, x.2.2.2.1, x.2.2.2.2.1, x.2.2.2.2.2.1, x.2.2.2.2.2.2.1, x.2.2.2.2.2.2.2.1, x.2.2.2.2.2.2.2.2.1, x.2.2.2.2.2.2.2.2.2.1, x.2.2.2.2.2.2.2.2.2.2.1, x.2.2.2.2.2.2.2.2.2.2.2.1, y0_12, y0_13, x.2.2.2.2.2.2.2.2.2.2.2.2.2.2) a1 t10 ht10) rfl rfl hH.1 rfl rfl hl.1 rfl (Nat.le_of_ble_eq_true rfl) rfl dX9_tell_23 (fun hz23 => ?_)
          refine lv_if_eq (tgt := 35) hx hb dX9_tell_26 (by decide) (fun c11 => ?_) (fun c11 => ?_)
          · have hf := ite_t hf c11
            refine lv_aload_n hx hb dX9_tell_35 rfl (lv_at hl 0 rfl) ?_
            refine lv_aload_n hx hb dX9_tell_36 rfl (lv_at hl 0 rfl) ?_
            refine lv_iload_n hx hb dX9_tell_37 rfl (lv_at hl 1 rfl) ?_
            obtain ⟨t12, ht12, hf⟩ := ob hf
            refine k_PVi hC LX9_86 ⟨Nat.le_of_ble_eq_true rfl, Nat.le_of_ble_eq_true rfl⟩ ⟨Nat.zero_le _, Nat.zero_le _⟩ (cM_is l E ad (x.1, x.2.1, x.2.2.1, x.2.2.2.1, x.2.2.2.2.1, x.2.2.2.2.2.1, x.2.2.2.2.2.2.1, x.2.2.2.2.2.2.2.1, x.2.2.2.2.2.2.2.2.1, x.2.2.2.2.2.2.2.2.2.1, x.2.2.2.2.2.2.2.2.2.2.1, x.2.2.2.2.2.2.2.2.2.2.2.1, y0_12, y0_13, x.2.2.2.2.2.2.2.2.2.2.2.2.2.2) a1 t12 ht12) rfl rfl hH.1 rfl rfl hl.1 rfl (Nat.le_of_ble_eq_true rfl) rfl dX9_tell_38 (fun hz38 => ?_)
            refine lv_bipush (v := 10) hx hb dX9_tell_41 (by decide) ?_
            refine lv_icmp_ge (tgt := 57) hx hb dX9_tell_43 (by decide) (fun c13 => ?_) (fun c13 => ?_)
            · have hf := ite_t hf c13
              refine lv_bipush (v := 97) hx hb dX9_tell_57 (by decide) ?_
              refine lv_aload_n hx hb dX9_tell_59 rfl (lv_at hl 0 rfl) ?_
              refine lv_iload_n hx hb dX9_tell_60 rfl (lv_at hl 1 rfl) ?_
              obtain ⟨t14, ht14, hf⟩ := ob hf
              refine k_PVi hC LX9_86 ⟨Nat.le_of_ble_eq_true rfl, Nat.le_of_ble_eq_true rfl⟩ ⟨Nat.zero_le _, Nat.zero_le _⟩ (cM_is l E ad (x.1, x.2.1, x.2.2.1, x.2.2.2.1, x.2.2.2.2.1, x.2.2.2.2.2.1, x.2.2.2.2.2.2.1, x.2.2.2.2.2.2.2.1, x.2.2.2.2.2.2.2.2.1, x.2.2.2.2.2.2.2.2.2.1, x.2.2.2.2.2.2.2.2.2.2.1, x.2.2.2.2.2.2.2.2.2.2.2.1, y0_12, y0_13, x.2.2.2.2.2.2.2.2.2.2.2.2.2.2) a1 t14 ht14) rfl rfl hH.1 rfl rfl hl.1 rfl (Nat.le_of_ble_eq_true rfl) rfl dX9_tell_61 (fun hz61 => ?_)
              refine lv_iadd hx hb dX9_tell_64 ?_
              refine lv_bipush (v := 10) hx hb dX9_tell_65 (by decide) ?_
              refine lv_isub hx hb dX9_tell_67 ?_
              obtain ⟨t15, ht15, hf⟩ := ob hf
              refine k_WVsv hC LX9_191 ⟨Nat.le_of_ble_eq_true rfl, Nat.le_of_ble_eq_true rfl⟩ ⟨Nat.zero_le _, Nat.zero_le _⟩ (cM_writes l E ad (x.1, x.2.1, x.2.2.1, x.2.2.2.1, x.2.2.2.2.1, x.2.2.2.2.2.1, x.2.2.2.2.2.2.1, x.2.2.2.2.2.2.2.1, x.2.2.2.2.2.2.2.2.1, x.2.2.2.2.2.2.2.2.2.1, x.2.2.2.2.2.2.2.2.2.2.1, x.2.2.2.2.2.2.2.2.2.2.2.1, y0_12, y0_13, x.2.2.2.2.2.2.2.2.2.2.2.2.2.2) (((97 : Int32) + t14) - (10 : Int32)) t15 ht15) rfl rfl hH rfl rfl rfl hl.1 rfl (Nat.le_of_ble_eq_true rfl) rfl dX9_tell_68 (fun H locs hz68 hH => ?_)
              have hH : Hp E (adr (wM E ad x)) (wM E ad (x.1, x.2.1, x.2.2.1, x.2.2.2.1, x.2.2.2.2.1, x.2.2.2.2.2.1, x.2.2.2.2.2.2.1, x.2.2.2.2.2.2.2.1, x.2.2.2.2.2.2.2.2.1, x.2.2.2.2.2.2.2.2.2.1, x.2.2.2.2.2.2.2.2.2.2.1, x.2.2.2.2.2.2.2.2.2.2.2.1, t15.1, t15.2, x.2.2.2.2.2.2.2.2.2.2.2.2.2.2)) s.heap H locs := hH
              refine lv_iinc (v := (a1 + (1 : Int32))) (lv' := [(1, .int (a1 + (1 : Int32))), (0, .ref (ad 0))]) hx hb dX9_tell_71 hl (k := 1) rfl rfl (by decide) rfl (fun ls hl => ?_)
              refine lv_goto (tgt := 7) hx hb dX9_tell_74 (by decide) ?_
              exact ih t15.1 t15.2 (a1 + (1 : Int32)) ls (lv_sub hl [1, 0] rfl) _ _ hH hf
            · have hf := ite_f hf c13
              refine lv_bipush (v := 48) hx hb dX9_tell_46 (by decide) ?_
              refine lv_aload_n hx hb dX9_tell_48 rfl (lv_at hl 0 rfl) ?_
              refine lv_iload_n hx hb dX9_tell_49 rfl (lv_at hl 1 rfl) ?_
              obtain ⟨t16, ht16, hf⟩ := ob hf
              refine k_PVi hC LX9_86 ⟨Nat.le_of_ble_eq_true rfl, Nat.le_of_ble_eq_true rfl⟩ ⟨Nat.zero_le _, Nat.zero_le _⟩ (cM_is l E ad (x.1, x.2.1, x.2.2.1, x.2.2.2.1, x.2.2.2.2.1, x.2.2.2.2.2.1, x.2.2.2.2.2.2.1, x.2.2.2.2.2.2.2.1, x.2.2.2.2.2.2.2.2.1, x.2.2.2.2.2.2.2.2.2.1, x.2.2.2.2.2.2.2.2.2.2.1, x.2.2.2.2.2.2.2.2.2.2.2.1, y0_12, y0_13, x.2.2.2.2.2.2.2.2.2.2.2.2.2.2) a1 t16 ht16) rfl rfl hH.1 rfl rfl hl.1 rfl (Nat.le_of_ble_eq_true rfl) rfl dX9_tell_50 (fun hz50 => ?_)
              refine lv_iadd hx hb dX9_tell_53 ?_
              refine lv_goto (tgt := 68) hx hb dX9_tell_54 (by decide) ?_
              obtain ⟨t17, ht17, hf⟩ := ob hf
              refine k_WVsv hC LX9_191 ⟨Nat.le_of_ble_eq_true rfl, Nat.le_of_ble_eq_true rfl⟩ ⟨Nat.zero_le _, Nat.zero_le _⟩ (cM_writes l E ad (x.1, x.2.1, x.2.2.1, x.2.2.2.1, x.2.2.2.2.1, x.2.2.2.2.2.1, x.2.2.2.2.2.2.1, x.2.2.2.2.2.2.2.1, x.2.2.2.2.2.2.2.2.1, x.2.2.2.2.2.2.2.2.2.1, x.2.2.2.2.2.2.2.2.2.2.1, x.2.2.2.2.2.2.2.2.2.2.2.1, y0_12, y0_13, x.2.2.2.2.2.2.2.2.2.2.2.2.2.2) ((48 : Int32) + t16) t17 ht17) rfl rfl hH rfl rfl rfl hl.1 rfl (Nat.le_of_ble_eq_true rfl) rfl dX9_tell_68 (fun H locs hz68 hH => ?_)
              have hH : Hp E (adr (wM E ad x)) (wM E ad (x.1, x.2.1, x.2.2.1, x.2.2.2.1, x.2.2.2.2.1, x.2.2.2.2.2.1, x.2.2.2.2.2.2.1, x.2.2.2.2.2.2.2.1, x.2.2.2.2.2.2.2.2.1, x.2.2.2.2.2.2.2.2.2.1, x.2.2.2.2.2.2.2.2.2.2.1, x.2.2.2.2.2.2.2.2.2.2.2.1, t17.1, t17.2, x.2.2.2.2.2.2.2.2.2.2.2.2.2.2)) s.heap H locs := hH
              refine lv_iinc (v := (a1 + (1 : Int32))) (lv' := [(1, .int (a1 + (1 : Int32))), (0, .ref (ad 0))]) hx hb dX9_tell_71 hl (k := 1) rfl rfl (by decide) rfl (fun ls hl => ?_)
              refine lv_goto (tgt := 7) hx hb dX9_tell_74 (by decide) ?_
              exact ih t17.1 t17.2 (a1 + (1 : Int32)) ls (lv_sub hl [1, 0] rfl) _ _ hH hf
          · have hf := ite_f hf c11
            refine lv_aload_n hx hb dX9_tell_29 rfl (lv_at hl 0 rfl) ?_
            refine lv_bipush (v := 124) hx hb dX9_tell_30 (by decide) ?_
            obtain ⟨t18, ht18, hf⟩ := ob hf
            refine k_WVsv hC LX9_191 ⟨Nat.le_of_ble_eq_true rfl, Nat.le_of_ble_eq_true rfl⟩ ⟨Nat.zero_le _, Nat.zero_le _⟩ (cM_writes l E ad (x.1, x.2.1, x.2.2.1, x.2.2.2.1, x.2.2.2.2.1, x.2.2.2.2.2.1, x.2.2.2.2.2.2.1, x.2.2.2.2.2.2.2.1, x.2.2.2.2.2.2.2.2.1, x.2.2.2.2.2.2.2.2.2.1, x.2.2.2.2.2.2.2.2.2.2.1, x.2.2.2.2.2.2.2.2.2.2.2.1, y0_12, y0_13, x.2.2.2.2.2.2.2.2.2.2.2.2.2.2) (124 : Int32) t18 ht18) rfl rfl hH rfl rfl rfl hl.1 rfl (Nat.le_of_ble_eq_true rfl) rfl dX9_tell_32 (fun H locs hz32 hH => ?_)
            have hH : Hp E (adr (wM E ad x)) (wM E ad (x.1, x.2.1, x.2.2.1, x.2.2.2.1, x.2.2.2.2.1, x.2.2.2.2.2.1, x.2.2.2.2.2.2.1, x.2.2.2.2.2.2.2.1, x.2.2.2.2.2.2.2.2.1, x.2.2.2.2.2.2.2.2.2.1, x.2.2.2.2.2.2.2.2.2.2.1, x.2.2.2.2.2.2.2.2.2.2.2.1, t18.1, t18.2, x.2.2.2.2.2.2.2.2.2.2.2.2.2.2)) s.heap H locs := hH
            refine lv_aload_n hx hb dX9_tell_35 rfl (lv_at hl 0 rfl) ?_
            refine lv_aload_n hx hb dX9_tell_36 rfl (lv_at hl 0 rfl) ?_
            refine lv_iload_n hx hb dX9_tell_37 rfl (lv_at hl 1 rfl) ?_
            obtain ⟨t19, ht19, hf⟩ := ob hf
            refine k_PVi hC LX9_86 ⟨Nat.le_of_ble_eq_true rfl, Nat.le_of_ble_eq_true rfl⟩ ⟨Nat.zero_le _, Nat.zero_le _⟩ (cM_is l E ad (x.1, x.2.1, x.2.2.1, x.2.2.2.1, x.2.2.2.2.1, x.2.2.2.2.2.1, x.2.2.2.2.2.2.1, x.2.2.2.2.2.2.2.1, x.2.2.2.2.2.2.2.2.1, x.2.2.2.2.2.2.2.2.2.1, x.2.2.2.2.2.2.2.2.2.2.1, x.2.2.2.2.2.2.2.2.2.2.2.1, t18.1, t18.2, x.2.2.2.2.2.2.2.2.2.2.2.2.2.2) a1 t19 ht19) rfl rfl hH.1 rfl rfl hl.1 rfl (Nat.le_of_ble_eq_true rfl) rfl dX9_tell_38 (fun hz38 => ?_)
            refine lv_bipush (v := 10) hx hb dX9_tell_41 (by decide) ?_
            refine lv_icmp_ge (tgt := 57) hx hb dX9_tell_43 (by decide) (fun c20 => ?_) (fun c20 => ?_)
            · have hf := ite_t hf c20
              refine lv_bipush (v := 97) hx hb dX9_tell_57 (by decide) ?_
              refine lv_aload_n hx hb dX9_tell_59 rfl (lv_at hl 0 rfl) ?_
              refine lv_iload_n hx hb dX9_tell_60 rfl (lv_at hl 1 rfl) ?_
              obtain ⟨t21, ht21, hf⟩ := ob hf
              refine k_PVi hC LX9_86 ⟨Nat.le_of_ble_eq_true rfl, Nat.le_of_ble_eq_true rfl⟩ ⟨Nat.zero_le _, Nat.zero_le _⟩ (cM_is l E ad (x.1, x.2.1, x.2.2.1, x.2.2.2.1, x.2.2.2.2.1, x.2.2.2.2.2.1, x.2.2.2.2.2.2.1, x.2.2.2.2.2.2.2.1, x.2.2.2.2.2.2.2.2.1, x.2.2.2.2.2.2.2.2.2.1, x.2.2.2.2.2.2.2.2.2.2.1, x.2.2.2.2.2.2.2.2.2.2.2.1, t18.1, t18.2, x.2.2.2.2.2.2.2.2.2.2.2.2.2.2) a1 t21 ht21) rfl rfl hH.1 rfl rfl hl.1 rfl (Nat.le_of_ble_eq_true rfl) rfl dX9_tell_61 (fun hz61 => ?_)
              refine lv_iadd hx hb dX9_tell_64 ?_
              refine lv_bipush (v := 10) hx hb dX9_tell_65 (by decide) ?_
              refine lv_isub hx hb dX9_tell_67 ?_
              obtain ⟨t22, ht22, hf⟩ := ob hf
              refine k_WVsv hC LX9_191 ⟨Nat.le_of_ble_eq_true rfl, Nat.le_of_ble_eq_true rfl⟩ ⟨Nat.zero_le _, Nat.zero_le _⟩ (cM_writes l E ad (x.1, x.2.1, x.2.2.1, x.2.2.2.1, x.2.2.2.2.1, x.2.2.2.2.2.1, x.2.2.2.2.2.2.1, x.2.2.2.2.2.2.2.1, x.2.2.2.2.2.2.2.2.1, x.2.2.2.2.2.2.2.2.2.1, x.2.2.2.2.2.2.2.2.2.2.1, x.2.2.2.2.2.2.2.2.2.2.2.1, t18.1, t18.2, x.2.2.2.2.2.2.2.2.2.2.2.2.2.2) (((97 : Int32) + t21) - (10 : Int32)) t22 ht22) rfl rfl hH rfl rfl rfl hl.1 rfl (Nat.le_of_ble_eq_true rfl) rfl dX9_tell_68 (fun H locs hz68 hH => ?_)
              have hH : Hp E (adr (wM E ad x)) (wM E ad (x.1, x.2.1, x.2.2.1, x.2.2.2.1, x.2.2.2.2.1, x.2.2.2.2.2.1, x.2.2.2.2.2.2.1, x.2.2.2.2.2.2.2.1, x.2.2.2.2.2.2.2.2.1, x.2.2.2.2.2.2.2.2.2.1, x.2.2.2.2.2.2.2.2.2.2.1, x.2.2.2.2.2.2.2.2.2.2.2.1, t22.1, t22.2, x.2.2.2.2.2.2.2.2.2.2.2.2.2.2)) s.heap H locs := hH
              refine lv_iinc (v := (a1 + (1 : Int32))) (lv' := [(1, .int (a1 + (1 : Int32))), (0, .ref (ad 0))]) hx hb dX9_tell_71 hl (k := 1) rfl rfl (by decide) rfl (fun ls hl => ?_)
              refine lv_goto (tgt := 7) hx hb dX9_tell_74 (by decide) ?_
              exact ih t22.1 t22.2 (a1 + (1 : Int32)) ls (lv_sub hl [1, 0] rfl) _ _ hH hf
            · have hf := ite_f hf c20
              refine lv_bipush (v := 48) hx hb dX9_tell_46 (by decide) ?_
              refine lv_aload_n hx hb dX9_tell_48 rfl (lv_at hl 0 rfl) ?_
              refine lv_iload_n hx hb dX9_tell_49 rfl (lv_at hl 1 rfl) ?_
              obtain ⟨t23, ht23, hf⟩ := ob hf
              refine k_PVi hC LX9_86 ⟨Nat.le_of_ble_eq_true rfl, Nat.le_of_ble_eq_true rfl⟩ ⟨Nat.zero_le _, Nat.zero_le _⟩ (cM_is l E ad (x.1, x.2.1, x.2.2.1, x.2.2.2.1, x.2.2.2.2.1, x.2.2.2.2.2.1, x.2.2.2.2.2.2.1, x.2.2.2.2.2.2.2.1, x.2.2.2.2.2.2.2.2.1, x.2.2.2.2.2.2.2.2.2.1, x.2.2.2.2.2.2.2.2.2.2.1, x.2.2.2.2.2.2.2.2.2.2.2.1, t18.1, t18.2, x.2.2.2.2.2.2.2.2.2.2.2.2.2.2) a1 t23 ht23) rfl rfl hH.1 rfl rfl hl.1 rfl (Nat.le_of_ble_eq_true rfl) rfl dX9_tell_50 (fun hz50 => ?_)
              refine lv_iadd hx hb dX9_tell_53 ?_
              refine lv_goto (tgt := 68) hx hb dX9_tell_54 (by decide) ?_
              obtain ⟨t24, ht24, hf⟩ := ob hf
              refine k_WVsv hC LX9_191 ⟨Nat.le_of_ble_eq_true rfl, Nat.le_of_ble_eq_true rfl⟩ ⟨Nat.zero_le _, Nat.zero_le _⟩ (cM_writes l E ad (x.1, x.2.1, x.2.2.1, x.2.2.2.1, x.2.2.2.2.1, x.2.2.2.2.2.1, x.2.2.2.2.2.2.1, x.2.2.2.2.2.2.2.1, x.2.2.2.2.2.2.2.2.1, x.2.2.2.2.2.2.2.2.2.1, x.2.2.2.2.2.2.2.2.2.2.1, x.2.2.2.2.2.2.2.2.2.2.2.1, t18.1, t18.2, x.2.2.2.2.2.2.2.2.2.2.2.2.2.2) ((48 : Int32) + t23) t24 ht24) rfl rfl hH rfl rfl rfl hl.1 rfl (Nat.le_of_ble_eq_true rfl) rfl dX9_tell_68 (fun H locs hz68 hH => ?_)
              have hH : Hp E (adr (wM E ad x)) (wM E ad (x.1, x.2.1, x.2.2.1, x.2.2.2.1, x.2.2.2.2.1, x.2.2.2.2.2.1, x.2.2.2.2.2.2.1, x.2.2.2.2.2.2.2.1, x.2.2.2.2.2.2.2.2.1, x.2.2.2.2.2.2.2.2.2.1, x.2.2.2.2.2.2.2.2.2.2.1, x.2.2.2.2.2.2.2.2.2.2.2.1, t24.1, t24.2, x.2.2.2.2.2.2.2.2.2.2.2.2.2.2)) s.heap H locs := hH
              refine lv_iinc (v := (a1 + (1 : Int32))) (lv' := [(1, .int (a1 + (1 : Int32))), (0, .ref (ad 0))]) hx hb dX9_tell_71 hl (k := 1) rfl rfl (by decide) rfl (fun ls hl => ?_)
              refine lv_goto (tgt := 7) hx hb dX9_tell_74 (by decide) ?_
              exact ih t24.1 t24.2 (a1 + (1 : Int32)) ls (lv_sub hl [1, 0] rfl) _ _ hH hf
  intro H locs hH
  rw [fM_tell] at hf
  refine lv_aload_n hx hb dX9_tell_0 rfl (lv_at hl 0 rfl) ?_
  refine lv_iconst (v := 0) hx hb dX9_tell_1 (by decide) ?_
  refine pX9_188 hC hH 0 rfl (v := .int (0 : Int32)) rfl rfl (Nat.le_of_ble_eq_true rfl) (W1 := wM E ad (x.1, x.2.1, x.2.2.1, x.2.2.2.1, x.2.2.2.2.1, x.2.2.2.2.2.1, x.2.2.2.2.2.2.1, x.2.2.2.2.2.2.2.1, x.2.2.2.2.2.2.2.2.1, x.2.2.2.2.2.2.2.2.2.1, x.2.2.2.2.2.2.2.2.2.2.1, x.2.2.2.2.2.2.2.2.2.2.2.1, x.2.2.2.2.2.2.2.2.2.2.2.2.1, (0 : Int32), x.2.2.2.2.2.2.2.2.2.2.2.2.2.2)) rfl dX9_tell_2 (fun H locs hH => ?_)
  refine lv_iconst (v := 0) hx hb dX9_tell_5 (by decide) ?_
  refine lv_istore_n (lv' := [(1, .int (0 : Int32)), (0, .ref (ad 0))]) hx hb dX9_tell_6 rfl hl (by decide) rfl (fun ls hl => ?_)
  exact L7 FU x.2.2.2.2.2.2.2.2.2.2.2.2.1 (0 : Int32) (0 : Int32) ls (lv_sub hl [1, 0] rfl) _ _ hH hf
abbrev rmM_tellRow : Room := { frames := 2, cells := 0, slots := 0, locals := 47 }
set_option maxHeartbeats 4000000 in
set_option maxRecDepth 100000 in
theorem cM_tellRow (l : Launch) (E : eE) (ad : Nat → Nat) (x : TM) (a1 : Int32) (t : Int32 × (Nat → Int32) × (Nat → Int32) × Int32) (hf : fM_tellRow x.2.2.2.2.1 x.2.2.2.2.2.2.2.2.2.2.2.1 x.2.2.2.2.2.2.2.2.2.2.2.2.1 x.2.2.2.2.2.2.2.2.2.2.2.2.2.1 a1 = some t) : cW l E yX9_tellRow cX9_tellRow 3 (some .int) rmM_tellRow [.ref (ad 0), .int a1] (wM E ad x) (some (.int t.1)) (wM E ad (x.1, x.2.1, x.2.2.1, x.2.2.2.1, x.2.2.2.2.1, x.2.2.2.2.2.1, x.2.2.2.2.2.2.1, x.2.2.2.2.2.2.2.1, x.2.2.2.2.2.2.2.2.1, x.2.2.2.2.2.2.2.2.2.1, x.2.2.2.2.2.2.2.2.2.2.1, t.2.1, t.2.2.1, t.2.2.2, x.2.2.2.2.2.2.2.2.2.2.2.2.2.2)) := by
  refine Met.ofW (cc := cX9_tellRow) (maxL := 3) (ret := (some .int)) (by decide) rfl ?_
  intro p e s m args below meth c s₁ B hml hv
  obtain ⟨hargs, hP, hK, hD0⟩ := hv
  have hx := B.exec
  have hb := B.bytes
  have hr := B.returns
  have hts := atoms_spec (ws := ws_ yX9_tellRow cX9_tellRow 3 (some .int)) B.pre
  have hta : ∀ w ∈ lw_all, w.before args s = true := fun w h => hts w (List.mem_cons_of_mem _ h)
  have hown : s.vm.findClass RX9 = some m.cls := findClass_of_methodNamed B.named
  have hlocks := B.notSynchronized
  have hC : Cx p s m args c cX9_tellRow 3 RX9 E := ⟨hx, hb, hml, hown, hta, hK⟩
  have hH : Hp E (adr (wM E ad x)) (wM E ad x) s.heap s.heap [] := Hp.start hP hD0
  obtain ⟨ls, he, hl⟩ := entry_ (m := m) (n := 3) hargs (Nat.le_of_ble_eq_true rfl)
  rw [he]
  have hl : lv_has ls 3 [(0, .ref (ad 0)), (1, .int a1)] := hl
  show W p l e rmM_tellRow s m args below meth c s.heap [] 0 0 (MQ below (qW E (some .int) (some (.int t.1)) (wM E ad x) (wM E ad (x.1, x.2.1, x.2.2.1, x.2.2.2.1, x.2.2.2.2.1, x.2.2.2.2.2.1, x.2.2.2.2.2.2.1, x.2.2.2.2.2.2.2.1, x.2.2.2.2.2.2.2.2.1, x.2.2.2.2.2.2.2.2.2.1, x.2.2.2.2.2.2.2.2.2.2.1, t.2.1, t.2.2.1, t.2.2.2, x.2.2.2.2.2.2.2.2.2.2.2.2.2.2))) args s 0 0 (adr (wM E ad x))) (F0 m 0 ls [])
  suffices hmain : ∀ (H : Heap) (locs : List Loc), Hp E (adr (wM E ad x)) (wM E ad x) s.heap H locs → W p l e rmM_tellRow s m args below meth c H locs 0 0 (MQ below (qW E (some .int) (some (.int t.1)) (wM E ad x) (wM E ad (x.1, x.2.1, x.2.2.1, x.2.2.2.1, x.2.2.2.2.1, x.2.2.2.2.2.1, x.2.2.2.2.2.2.1, x.2.2.2.2.2.2.2.1, x.2.2.2.2.2.2.2.2.1, x.2.2.2.2.2.2.2.2.2.1, x.2.2.2.2.2.2.2.2.2.2.1, t.2.1, t.2.2.1, t.2.2.2, x.2.2.2.2.2.2.2.2.2.2.2.2.2.2))) args s 0 0 (adr (wM E ad x))) (F0 m 0 ls []) from hmain _ _ hH
  clear hH
  have L21 : ∀ (n : Nat) (y0_11 : (Nat → Int32)) (y0_12 : (Nat → Int32)) (y0_13 : Int32) (a1 : Int32) (a2 : Int32) (ls : Array Slot), lv_has ls 3 [(0, .ref (ad 0)), (1, .int a1), (2, .int a2)] → ∀ (H : Heap) (locs : List Loc), Hp E (adr (wM E ad x)) (wM E ad (x.1, x.2.1, x.2.2.1, x.2.2.2.1, x.2.2.2.2.1, x.2.2.2.2.2.1, x.2.2.2.2.2.2.1, x.2.2.2.2.2.2.2.1, x.2.2.2.2.2.2.2.2.1, x.2.2.2.2.2.2.2.2.2.1, x.2.2.2.2.2.2.2.2.2.2.1, y0_11, y0_12, y0_13, x.2.2.2.2.2.2.2.2.2.2.2.2.2.2)) s.heap H locs → fM_tellRow_21 n x.2.2.2.2.1 y0_11 y0_12 y0_13 a1 a2 = some t → W p l e rmM_tellRow s m args below meth c H locs 0 0 (MQ below (qW E (some .int) (some (.int t.1)) (wM E ad x) (wM E ad (x.1, x.2.1, x.2.2.1, x.2.2.2.1, x.2.2.2.2.1, x.2.2.2.2.2.1, x.2.2.2.2.2.2.1, x.2.2.2.2.2.2.2.1, x.2.2.2.2.2.2.2.2.1, x.2.2.2.2.2.2.2.2.2.1, x.2.2.2.2.2.2.2.2.2.2.1, t.2.1, t.2.2.1, t.2.2.2, x.2.2.2.2.2.2.2.2.2.2.2.2.2.2))) args s 0 0 (adr (wM E ad x))) (F0 m 21 ls []) := by
    intro n
    induction n with
    | zero => intro y0_11 y0_12 y0_13 a1 a2 ls hl H locs hH hf; cases hf
    | succ n ih =>
      intro y0_11 y0_12 y0_13 a1 a2 ls hl H locs hH hf
      rw [fM_tellRow_21] at hf
      refine lv_iload_n hx hb dX9_tellRow_21 rfl (lv_at hl 2 rfl) ?_
      refine lv_aload_n hx hb dX9_tellRow_22 rfl (lv_at hl 0 rfl) ?_
      refine gX9_7 hC hH.1 0 rfl (v := .ref (ad 1)) rfl dX9_tellRow_23 ?_
      refine lv_iconst (v := 0) hx hb dX9_tellRow_26 (by decide) ?_
      obtain ⟨v3, hv3, hf⟩ := ob hf
      obtain ⟨hv3a, hv3b⟩ := ldA_ok hv3
      refine a_ild hC hH.1 1 rfl hv3a hv3b dX9_tellRow_27 ?_
      refine lv_icmp_ge (tgt := 67) hx hb dX9_tellRow_28 (by decide) (fun c4 => ?_) (fun c4 => ?_)
      · have hf := ite_t hf c4
        refine lv_aload_n hx hb dX9_tellRow_67 rfl (lv_at hl 0 rfl) ?_
        refine gX9_188 hC hH.1 0 rfl (v := .int y0_13) rfl dX9_tellRow_68 ?_
        cases hf
        exact e_Wi hC hH hr hlocks rfl rfl dX9_tellRow_71
      · have hf := ite_f hf c4
        refine lv_iload_n hx hb dX9_tellRow_31 rfl (lv_at hl 2 rfl) ?_
        refine lv_if_le (tgt := 48) hx hb dX9_tellRow_32 (by decide) (fun c5 => ?_) (fun c5 => ?_)
        · have hf := ite_t hf c5
          refine lv_aload_n hx hb dX9_tellRow_48 rfl (lv_at hl 0 rfl) ?_
          refine lv_bipush (v := 48) hx hb dX9_tellRow_49 (by decide) ?_
          refine lv_aload_n hx hb dX9_tellRow_51 rfl (lv_at hl 0 rfl) ?_
          refine lv_iload_n hx hb dX9_tellRow_52 rfl (lv_at hl 1 rfl) ?_
          refine lv_iload_n hx hb dX9_tellRow_53 rfl (lv_at hl 2 rfl) ?_
          obtain ⟨t6, ht6, hf⟩ := ob hf
          refine k_PVi hC LX9_130 ⟨Nat.le_of_ble_eq_true rfl, Nat.le_of_ble_eq_true rfl⟩ ⟨Nat.zero_le _, Nat.zero_le _⟩ (cM_bitAt l E ad (x.1, x.2.1, x.2.2.1, x.2.2.2.1, x.2.2.2.2.1, x.2.2.2.2.2.1, x.2.2.2.2.2.2.1, x.2.2.2.2.2.2.2.1, x.2.2.2.2.2.2.2.2.1, x.2.2.2.2.2.2.2.2.2.1, x.2.2.2.2.2.2.2.2.2.2.1, y0_11, y0_12, y0_13, x.2.2.2.2.2.2.2.2.2.2.2.2.2.2) a1 a2 t6 ht6) rfl rfl hH.1 rfl rfl hl.1 rfl (Nat.le_of_ble_eq_true rfl) rfl dX9_tellRow_54 (fun hz54 => ?_)
          refine lv_iadd hx hb dX9_tellRow_57 ?_
          obtain ⟨t7, ht7, hf⟩ := ob hf
          refine k_WVsv hC LX9_191 ⟨Nat.le_of_ble_eq_true rfl, Nat.le_of_ble_eq_true rfl⟩ ⟨Nat.zero_le _, Nat.zero_le _⟩ (cM_writes l E ad (x.1, x.2.1, x.2.2.1, x.2.2.2.1, x.2.2.2.2.1, x.2.2.2.2.2.1, x.2.2.2.2.2.2.1, x.2.2.2.2.2.2.2.1, x.2.2.2.2.2.2.2.2.1, x.2.2.2.2.2.2.2.2.2.1, x.2.2.2.2.2.2.2.2.2.2.1, y0_11, y0_12, y0_13, x.2.2.2.2.2.2.2.2.2.2.2.2.2.2) ((48 : Int32) + t6) t7 ht7) rfl rfl hH rfl rfl rfl hl.1 rfl (Nat.le_of_ble_eq_true rfl) rfl dX9_tellRow_58 (fun H locs hz58 hH => ?_)
          have hH : Hp E (adr (wM E ad x)) (wM E ad (x.1, x.2.1, x.2.2.1, x.2.2.2.1, x.2.2.2.2.1, x.2.2.2.2.2.1, x.2.2.2.2.2.2.1, x.2.2.2.2.2.2.2.1, x.2.2.2.2.2.2.2.2.1, x.2.2.2.2.2.2.2.2.2.1, x.2.2.2.2.2.2.2.2.2.2.1, y0_11, t7.1, t7.2, x.2.2.2.2.2.2.2.2.2.2.2.2.2.2)) s.heap H locs := hH
          refine lv_iinc (v := (a2 + (1 : Int32))) (lv' := [(2, .int (a2 + (1 : Int32))), (0, .ref (ad 0)), (1, .int a1)]) hx hb dX9_tellRow_61 hl (k := 2) rfl rfl (by decide) rfl (fun ls hl => ?_)
          refine lv_goto (tgt := 21) hx hb dX9_tellRow_64 (by decide) ?_
          exact ih y0_11 t7.1 t7.2 a1 (a2 + (1 : Int32)) ls (lv_sub hl [1, 2, 0] rfl) _ _ hH hf
        · have hf := ite_f hf c5
          refine lv_iload_n hx hb dX9_tellRow_35 rfl (lv_at hl 2 rfl) ?_
          refine lv_bipush (v := 8) hx hb dX9_tellRow_36 (by decide) ?_
          refine lv_irem hx hb dX9_tellRow_38 (by decide) ?_
          refine lv_if_ne (tgt := 48) hx hb dX9_tellRow_39 (by decide) (fun c8 => ?_) (fun c8 => ?_)
          · have hf := ite_f hf c8
            refine lv_aload_n hx hb dX9_tellRow_48 rfl (lv_at hl 0 rfl) ?_
            refine lv_bipush (v := 48) hx hb dX9_tellRow_49 (by decide) ?_
            refine lv_aload_n hx hb dX9_tellRow_51 rfl (lv_at hl 0 rfl) ?_
            refine lv_iload_n hx hb dX9_tellRow_52 rfl (lv_at hl 1 rfl) ?_
            refine lv_iload_n hx hb dX9_tellRow_53 rfl (lv_at hl 2 rfl) ?_
            obtain ⟨t9, ht9, hf⟩ := ob hf
            refine k_PVi hC LX9_130 ⟨Nat.le_of_ble_eq_true rfl, Nat.le_of_ble_eq_true rfl⟩ ⟨Nat.zero_le _, Nat.zero_le _⟩ (cM_bitAt l E ad (x.1, x.2.1, x.2.2.1, x.2.2.2.1, x.2.2.2.2.1, x.2.2.2.2.2.1, x.2.2.2.2.2.2.1, x.2.2.2.2.2.2.2.1, x.2.2.2.2.2.2.2.2.1, x.2.2.2.2.2.2.2.2.2.1, x.2.2.2.2.2.2.2.2.2.2.1, y0_11, y0_12, y0_13, x.2.2.2.2.2.2.2.2.2.2.2.2.2.2) a1 a2 t9 ht9) rfl rfl hH.1 rfl rfl hl.1 rfl (Nat.le_of_ble_eq_true rfl) rfl dX9_tellRow_54 (fun hz54 => ?_)
            refine lv_iadd hx hb dX9_tellRow_57 ?_
            obtain ⟨t10, ht10, hf⟩ := ob hf
            refine k_WVsv hC LX9_191 ⟨Nat.le_of_ble_eq_true rfl, Nat.le_of_ble_eq_true rfl⟩ ⟨Nat.zero_le _, Nat.zero_le _⟩ (cM_writes l E ad (x.1, x.2.1, x.2.2.1, x.2.2.2.1, x.2.2.2.2.1, x.2.2.2.2.2.1, x.2.2.2.2.2.2.1, x.2.2.2.2.2.2.2.1, x.2.2.2.2.2.2.2.2.1, x.2.2.2.2.2.2.2.2.2.1, x.2.2.2.2.2.2.2.2.2.2.1, y0_11, y0_12, y0_13, x.2.2.2.2.2.2.2.2.2.2.2.2.2.2) ((48 : Int32) + t9) t10 ht10) rfl rfl hH rfl rfl rfl hl.1 rfl (Nat.le_of_ble_eq_true rfl) rfl dX9_tellRow_58 (fun H locs hz58 hH => ?_)
            have hH : Hp E (adr (wM E ad x)) (wM E ad (x.1, x.2.1, x.2.2.1, x.2.2.2.1, x.2.2.2.2.1, x.2.2.2.2.2.1, x.2.2.2.2.2.2.1, x.2.2.2.2.2.2.2.1, x.2.2.2.2.2.2.2.2.1, x.2.2.2.2.2.2.2.2.2.1, x.2.2.2.2.2.2.2.2.2.2.1, y0_11, t10.1, t10.2, x.2.2.2.2.2.2.2.2.2.2.2.2.2.2)) s.heap H locs := hH
            refine lv_iinc (v := (a2 + (1 : Int32))) (lv' := [(2, .int (a2 + (1 : Int32))), (0, .ref (ad 0)), (1, .int a1)]) hx hb dX9_tellRow_61 hl (k := 2) rfl rfl (by decide) rfl (fun ls hl => ?_)
            refine lv_goto (tgt := 21) hx hb dX9_tellRow_64 (by decide) ?_
            exact ih y0_11 t10.1 t10.2 a1 (a2 + (1 : Int32)) ls (lv_sub hl [1, 2, 0] rfl) _ _ hH hf
          · have hf := ite_t hf c8
            refine lv_aload_n hx hb dX9_tellRow_42 rfl (lv_at hl 0 rfl) ?_
            refine lv_bipush (v := 32) hx hb dX9_tellRow_43 (by decide) ?_
            obtain ⟨t11, ht11, hf⟩ := ob hf
            refine k_WVsv hC LX9_191 ⟨Nat.le_of_ble_eq_true rfl, Nat.le_of_ble_eq_true rfl⟩ ⟨Nat.zero_le _, Nat.zero_le _⟩ (cM_writes l E ad (x.1, x.2.1, x.2.2.1, x.2.2.2.1, x.2.2.2.2.1, x.2.2.2.2.2.1, x.2.2.2.2.2.2.1, x.2.2.2.2.2.2.2.1, x.2.2.2.2.2.2.2.2.1, x.2.2.2.2.2.2.2.2.2.1, x.2.2.2.2.2.2.2.2.2.2.1, y0_11, y0_12, y0_13, x.2.2.2.2.2.2.2.2.2.2.2.2.2.2) (32 : Int32) t11 ht11) rfl rfl hH rfl rfl rfl hl.1 rfl (Nat.le_of_ble_eq_true rfl) rfl dX9_tellRow_45 (fun H locs hz45 hH => ?_)
            have hH : Hp E (adr (wM E ad x)) (wM E ad (x.1, x.2.1, x.2.2.1, x.2.2.2.1, x.2.2.2.2.1, x.2.2.2.2.2.1, x.2.2.2.2.2.2.1, x.2.2.2.2.2.2.2.1, x.2.2.2.2.2.2.2.2.1, x.2.2.2.2.2.2.2.2.2.1, x.2.2.2.2.2.2.2.2.2.2.1, y0_11, t11.1, t11.2, x.2.2.2.2.2.2.2.2.2.2.2.2.2.2)) s.heap H locs := hH
            refine lv_aload_n hx hb dX9_tellRow_48 rfl (lv_at hl 0 rfl) ?_
            refine lv_bipush (v := 48) hx hb dX9_tellRow_49 (by decide) ?_
            refine lv_aload_n hx hb dX9_tellRow_51 rfl (lv_at hl 0 rfl) ?_
            refine lv_iload_n hx hb dX9_tellRow_52 rfl (lv_at hl 1 rfl) ?_
            refine lv_iload_n hx hb dX9_tellRow_53 rfl (lv_at hl 2 rfl) ?_
            obtain ⟨t12, ht12, hf⟩ := ob hf
            refine k_PVi hC LX9_130 ⟨Nat.le_of_ble_eq_true rfl, Nat.le_of_ble_eq_true rfl⟩ ⟨Nat.zero_le _, Nat.zero_le _⟩ (cM_bitAt l E ad (x.1, x.2.1, x.2.2.1, x.2.2.2.1, x.2.2.2.2.1, x.2.2.2.2.2.1, x.2.2.2.2.2.2.1, x.2.2.2.2.2.2.2.1, x.2.2.2.2.2.2.2.2.1, x.2.2.2.2.2.2.2.2.2.1, x.2.2.2.2.2.2.2.2.2.2.1, y0_11, t11.1, t11.2, x.2.2.2.2.2.2.2.2.2.2.2.2.2.2) a1 a2 t12 ht12) rfl rfl hH.1 rfl rfl hl.1 rfl (Nat.le_of_ble_eq_true rfl) rfl dX9_tellRow_54 (fun hz54 => ?_)
            refine lv_iadd hx hb dX9_tellRow_57 ?_
            obtain ⟨t13, ht13, hf⟩ := ob hf
            refine k_WVsv hC LX9_191 ⟨Nat.le_of_ble_eq_true rfl, Nat.le_of_ble_eq_true rfl⟩ ⟨Nat.zero_le _, Nat.zero_le _⟩ (cM_writes l E ad (x.1, x.2.1, x.2.2.1, x.2.2.2.1, x.2.2.2.2.1, x.2.2.2.2.2.1, x.2.2.2.2.2.2.1, x.2.2.2.2.2.2.2.1, x.2.2.2.2.2.2.2.2.1, x.2.2.2.2.2.2.2.2.2.1, x.2.2.2.2.2.2.2.2.2.2.1, y0_11, t11.1, t11.2, x.2.2.2.2.2.2.2.2.2.2.2.2.2.2) ((48 : Int32) + t12) t13 ht13) rfl rfl hH rfl rfl rfl hl.1 rfl (Nat.le_of_ble_eq_true rfl) rfl dX9_tellRow_58 (fun H locs hz58 hH => ?_)
            have hH : Hp E (adr (wM E ad x)) (wM E ad (x.1, x.2.1, x.2.2.1, x.2.2.2.1, x.2.2.2.2.1, x.2.2.2.2.2.1, x.2.2.2.2.2.2.1, x.2.2.2.2.2.2.2.1, x.2.2.2.2.2.2.2.2.1, x.2.2.2.2.2.2.2.2.2.1, x.2.2.2.2.2.2.2.2.2.2.1, y0_11, t13.1, t13.2, x.2.2.2.2.2.2.2.2.2.2.2.2.2.2)) s.heap H locs := hH
            refine lv_iinc (v := (a2 + (1 : Int32))) (lv' := [(2, .int (a2 + (1 : Int32))), (0, .ref (ad 0)), (1, .int a1)]) hx hb dX9_tellRow_61 hl (k := 2) rfl rfl (by decide) rfl (fun ls hl => ?_)
            refine lv_goto (tgt := 21) hx hb dX9_tellRow_64 (by decide) ?_
            exact ih y0_11 t13.1 t13.2 a1 (a2 + (1 : Int32)) ls (lv_sub hl [1, 2, 0] rfl) _ _ hH hf
  intro H locs hH
  rw [fM_tellRow] at hf
  refine lv_iload_n hx hb dX9_tellRow_0 rfl (lv_at hl 1 rfl) ?_
  refine k_PSi hC LX9_124 ⟨Nat.le_of_ble_eq_true rfl, Nat.le_of_ble_eq_true rfl⟩ ⟨Nat.zero_le _, Nat.zero_le _⟩ (cM_isRow l E a1 _ rfl) rfl rfl (vP_nil) hl.1 rfl (Nat.le_of_ble_eq_true rfl) rfl dX9_tellRow_1 (fun hz1 => ?_)
  refine lv_if_ne (tgt := 10) hx hb dX9_tellRow_4 (by decide) (fun c1 => ?_) (fun c1 => ?_)
  · have hf := ite_f hf c1
    refine lv_aload_n hx hb dX9_tellRow_10 rfl (lv_at hl 0 rfl) ?_
    obtain ⟨t2, ht2, hf⟩ := ob hf
    refine k_WVsv hC LX9_127 ⟨Nat.le_of_ble_eq_true rfl, Nat.le_of_ble_eq_true rfl⟩ ⟨Nat.zero_le _, Nat.zero_le _⟩ (cM_findsRows l E ad x t2 ht2) rfl rfl hH rfl rfl rfl hl.1 rfl (Nat.le_of_ble_eq_true rfl) rfl dX9_tellRow_11 (fun H locs hz11 hH => ?_)
    have hH : Hp E (adr (wM E ad x)) (wM E ad (x.1, x.2.1, x.2.2.1, x.2.2.2.1, x.2.2.2.2.1, x.2.2.2.2.2.1, x.2.2.2.2.2.2.1, x.2.2.2.2.2.2.2.1, x.2.2.2.2.2.2.2.2.1, x.2.2.2.2.2.2.2.2.2.1, x.2.2.2.2.2.2.2.2.2.2.1, t2, x.2.2.2.2.2.2.2.2.2.2.2.2)) s.heap H locs := hH
    refine lv_aload_n hx hb dX9_tellRow_14 rfl (lv_at hl 0 rfl) ?_
    refine lv_iconst (v := 0) hx hb dX9_tellRow_15 (by decide) ?_
    refine pX9_188 hC hH 0 rfl (v := .int (0 : Int32)) rfl rfl (Nat.le_of_ble_eq_true rfl) (W1 := wM E ad (x.1, x.2.1, x.2.2.1, x.2.2.2.1, x.2.2.2.2.1, x.2.2.2.2.2.1, x.2.2.2.2.2.2.1, x.2.2.2.2.2.2.2.1, x.2.2.2.2.2.2.2.2.1, x.2.2.2.2.2.2.2.2.2.1, x.2.2.2.2.2.2.2.2.2.2.1, t2, x.2.2.2.2.2.2.2.2.2.2.2.2.1, (0 : Int32), x.2.2.2.2.2.2.2.2.2.2.2.2.2.2)) rfl dX9_tellRow_16 (fun H locs hH => ?_)
    refine lv_iconst (v := 0) hx hb dX9_tellRow_19 (by decide) ?_
    refine lv_istore_n (lv' := [(2, .int (0 : Int32)), (0, .ref (ad 0)), (1, .int a1)]) hx hb dX9_tellRow_20 rfl hl (by decide) rfl (fun ls hl => ?_)
    exact L21 FU t2 x.2.2.2.2.2.2.2.2.2.2.2.2.1 (0 : Int32) a1 (0 : Int32) ls (lv_sub hl [1, 2, 0] rfl) _ _ hH hf
  · have hf := ite_t hf c1
    refine lv_bipush (v := (-11)) hx hb dX9_tellRow_7 (by decide) ?_
    cases hf
    exact e_Wi hC hH hr hlocks rfl rfl dX9_tellRow_9
abbrev rmM_character : Room := { frames := 1, cells := 0, slots := 0, locals := 22 }
set_option maxHeartbeats 4000000 in
set_option maxRecDepth 100000 in
theorem cM_character (l : Launch) (E : eE) (ad : Nat → Nat) (x : TM) (a1 : Int32) (r : Int32) (hf : fM_character x.2.2.2.2.2.2.2.2.2.2.2.2.1 x.2.2.2.2.2.2.2.2.2.2.2.2.2.1 a1 = some r) : cP l E yX9_character cX9_character 2 (some .int) rmM_character [.ref (ad 0), .int a1] (wM E ad x) (some (.int r)) := by
  refine Met.ofW (cc := cX9_character) (maxL := 2) (ret := (some .int)) (by decide) rfl ?_
  intro p e s m args below meth c s₁ B hml hv
  obtain ⟨hargs, hP, hK⟩ := hv
  have hx := B.exec
  have hb := B.bytes
  have hr := B.returns
  have hts := atoms_spec (ws := ws_ yX9_character cX9_character 2 (some .int)) B.pre
  have hta : ∀ w ∈ lw_all, w.before args s = true := fun w h => hts w (List.mem_cons_of_mem _ h)
  have hown : s.vm.findClass RX9 = some m.cls := findClass_of_methodNamed B.named
  have hlocks := B.notSynchronized
  have hC : Cx p s m args c cX9_character 2 RX9 E := ⟨hx, hb, hml, hown, hta, hK⟩
  obtain ⟨ls, he, hl⟩ := entry_ (m := m) (n := 2) hargs (Nat.le_of_ble_eq_true rfl)
  rw [he]
  have hl : lv_has ls 2 [(0, .ref (ad 0)), (1, .int a1)] := hl
  show W p l e rmM_character s m args below meth c s.heap [] 0 0 (MQ below (qP (some .int) (some (.int r))) args s 0 0 (fun _ => False)) (F0 m 0 ls [])
  rw [fM_character] at hf
  refine lv_iload_n hx hb dX9_character_0 rfl (lv_at hl 1 rfl) ?_
  refine lv_iconst (v := 0) hx hb dX9_character_1 (by decide) ?_
  refine lv_aload_n hx hb dX9_character_2 rfl (lv_at hl 0 rfl) ?_
  refine gX9_188 hC hP 0 rfl (v := .int x.2.2.2.2.2.2.2.2.2.2.2.2.2.1) rfl dX9_character_3 ?_
  refine lv_iconst (v := 1) hx hb dX9_character_6 (by decide) ?_
  refine lv_isub hx hb dX9_character_7 ?_
  refine k_PSi hC LX9_60 ⟨Nat.le_of_ble_eq_true rfl, Nat.le_of_ble_eq_true rfl⟩ ⟨Nat.zero_le _, Nat.zero_le _⟩ (cM_isBetween l E a1 (0 : Int32) (x.2.2.2.2.2.2.2.2.2.2.2.2.2.1 - (1 : Int32)) _ rfl) rfl rfl (vP_nil) hl.1 rfl (Nat.le_of_ble_eq_true rfl) rfl dX9_character_8 (fun hz8 => ?_)
  refine lv_if_eq (tgt := 23) hx hb dX9_character_11 (by decide) (fun c1 => ?_) (fun c1 => ?_)
  · have hf := ite_t hf c1
    refine lv_bipush (v := (-11)) hx hb dX9_character_23 (by decide) ?_
    have hf := Option.some.inj hf
    exact e_Pi hC hr hlocks hf dX9_character_25
  · have hf := ite_f hf c1
    refine lv_aload_n hx hb dX9_character_14 rfl (lv_at hl 0 rfl) ?_
    refine gX9_25 hC hP 0 rfl (v := .ref (ad 6)) rfl dX9_character_15 ?_
    refine lv_iload_n hx hb dX9_character_18 rfl (lv_at hl 1 rfl) ?_
    obtain ⟨v2, hv2, hf⟩ := ob hf
    obtain ⟨hv2a, hv2b⟩ := ldA_ok hv2
    refine a_cld hC hP 6 rfl hv2a hv2b dX9_character_19 ?_
    refine lv_goto (tgt := 25) hx hb dX9_character_20 (by decide) ?_
    have hf := Option.some.inj hf
    exact e_Pi hC hr hlocks hf dX9_character_25
abbrev rmM_ones : Room := { frames := 3, cells := 0, slots := 0, locals := 68 }
set_option maxHeartbeats 4000000 in
set_option maxRecDepth 100000 in
theorem cM_ones (l : Launch) (E : eE) (ad : Nat → Nat) (x : TM) (t : Int32 × (Nat → Int32)) (hf : fM_ones x.2.2.2.2.1 x.2.2.2.2.2.2.2.2.2.2.2.1 = some t) : cW l E yX9_ones cX9_ones 3 (some .int) rmM_ones [.ref (ad 0)] (wM E ad x) (some (.int t.1)) (wM E ad (x.1, x.2.1, x.2.2.1, x.2.2.2.1, x.2.2.2.2.1, x.2.2.2.2.2.1, x.2.2.2.2.2.2.1, x.2.2.2.2.2.2.2.1, x.2.2.2.2.2.2.2.2.1, x.2.2.2.2.2.2.2.2.2.1, x.2.2.2.2.2.2.2.2.2.2.1, t.2, x.2.2.2.2.2.2.2.2.2.2.2.2)) := by
  refine Met.ofW (cc := cX9_ones) (maxL := 3) (ret := (some .int)) (by decide) rfl ?_
  intro p e s m args below meth c s₁ B hml hv
  obtain ⟨hargs, hP, hK, hD0⟩ := hv
  have hx := B.exec
  have hb := B.bytes
  have hr := B.returns
  have hts := atoms_spec (ws := ws_ yX9_ones cX9_ones 3 (some .int)) B.pre
  have hta : ∀ w ∈ lw_all, w.before args s = true := fun w h => hts w (List.mem_cons_of_mem _ h)
  have hown : s.vm.findClass RX9 = some m.cls := findClass_of_methodNamed B.named
  have hlocks := B.notSynchronized
  have hC : Cx p s m args c cX9_ones 3 RX9 E := ⟨hx, hb, hml, hown, hta, hK⟩
  have hH : Hp E (adr (wM E ad x)) (wM E ad x) s.heap s.heap [] := Hp.start hP hD0
  obtain ⟨ls, he, hl⟩ := entry_ (m := m) (n := 3) hargs (Nat.le_of_ble_eq_true rfl)
  rw [he]
  have hl : lv_has ls 3 [(0, .ref (ad 0))] := hl
  show W p l e rmM_ones s m args below meth c s.heap [] 0 0 (MQ below (qW E (some .int) (some (.int t.1)) (wM E ad x) (wM E ad (x.1, x.2.1, x.2.2.1, x.2.2.2.1, x.2.2.2.2.1, x.2.2.2.2.2.1, x.2.2.2.2.2.2.1, x.2.2.2.2.2.2.2.1, x.2.2.2.2.2.2.2.2.1, x.2.2.2.2.2.2.2.2.2.1, x.2.2.2.2.2.2.2.2.2.2.1, t.2, x.2.2.2.2.2.2.2.2.2.2.2.2))) args s 0 0 (adr (wM E ad x))) (F0 m 0 ls [])
  suffices hmain : ∀ (H : Heap) (locs : List Loc), Hp E (adr (wM E ad x)) (wM E ad x) s.heap H locs → W p l e rmM_ones s m args below meth c H locs 0 0 (MQ below (qW E (some .int) (some (.int t.1)) (wM E ad x) (wM E ad (x.1, x.2.1, x.2.2.1, x.2.2.2.1, x.2.2.2.2.1, x.2.2.2.2.2.1, x.2.2.2.2.2.2.1, x.2.2.2.2.2.2.2.1, x.2.2.2.2.2.2.2.2.1, x.2.2.2.2.2.2.2.2.2.1, x.2.2.2.2.2.2.2.2.2.2.1, t.2, x.2.2.2.2.2.2.2.2.2.2.2.2))) args s 0 0 (adr (wM E ad x))) (F0 m 0 ls []) from hmain _ _ hH
  clear hH
  have L8 : ∀ (n : Nat) (y0_11 : (Nat → Int32)) (a1 : Int32) (a2 : Int32) (ls : Array Slot), lv_has ls 3 [(0, .ref (ad 0)), (1, .int a1), (2, .int a2)] → ∀ (H : Heap) (locs : List Loc), Hp E (adr (wM E ad x)) (wM E ad (x.1, x.2.1, x.2.2.1, x.2.2.2.1, x.2.2.2.2.1, x.2.2.2.2.2.1, x.2.2.2.2.2.2.1, x.2.2.2.2.2.2.2.1, x.2.2.2.2.2.2.2.2.1, x.2.2.2.2.2.2.2.2.2.1, x.2.2.2.2.2.2.2.2.2.2.1, y0_11, x.2.2.2.2.2.2.2.2.2.2.2.2)) s.heap H locs → fM_ones_8 n x.2.2.2.2.1 y0_11 a1 a2 = some t → W p l e rmM_ones s m args below meth c H locs 0 0 (MQ below (qW E (some .int) (some (.int t.1)) (wM E ad x) (wM E ad (x.1, x.2.1, x.2.2.1, x.2.2.2.1, x.2.2.2.2.1, x.2.2.2.2.2.1, x.2.2.2.2.2.2.1, x.2.2.2.2.2.2.2.1, x.2.2.2.2.2.2.2.2.1, x.2.2.2.2.2.2.2.2.2.1, x.2.2.2.2.2.2.2.2.2.2.1, t.2, x.2.2.2.2.2.2.2.2.2.2.2.2))) args s 0 0 (adr (wM E ad x))) (F0 m 8 ls []) := by
    intro n
    induction n with
    | zero => intro y0_11 a1 a2 ls hl H locs hH hf; cases hf
    | succ n ih =>
      intro y0_11 a1 a2 ls hl H locs hH hf
      rw [fM_ones_8] at hf
      refine lv_iload_n hx hb dX9_ones_8 rfl (lv_at hl 2 rfl) ?_
      refine lv_iconst (v := 5) hx hb dX9_ones_9 (by decide) ?_
      refine lv_icmp_ge (tgt := 34) hx hb dX9_ones_10 (by decide) (fun c2 => ?_) (fun c2 => ?_)
      · have hf := ite_t hf c2
        refine lv_iload_n hx hb dX9_ones_34 rfl (lv_at hl 1 rfl) ?_
        cases hf
        exact e_Wi hC hH hr hlocks rfl rfl dX9_ones_35
      · have hf := ite_f hf c2
        refine lv_iload_n hx hb dX9_ones_13 rfl (lv_at hl 1 rfl) ?_
        refine lv_aload_n hx hb dX9_ones_14 rfl (lv_at hl 0 rfl) ?_
        refine lv_iload_n hx hb dX9_ones_15 rfl (lv_at hl 2 rfl) ?_
        refine lv_iconst (v := 1) hx hb dX9_ones_16 (by decide) ?_
        refine lv_aload_n hx hb dX9_ones_17 rfl (lv_at hl 0 rfl) ?_
        refine gX9_7 hC hH.1 0 rfl (v := .ref (ad 1)) rfl dX9_ones_18 ?_
        refine lv_iconst (v := 0) hx hb dX9_ones_21 (by decide) ?_
        obtain ⟨v3, hv3, hf⟩ := ob hf
        obtain ⟨hv3a, hv3b⟩ := ldA_ok hv3
        refine a_ild hC hH.1 1 rfl hv3a hv3b dX9_ones_22 ?_
        obtain ⟨t4, ht4, hf⟩ := ob hf
        refine k_PVi hC LX9_135 ⟨Nat.le_of_ble_eq_true rfl, Nat.le_of_ble_eq_true rfl⟩ ⟨Nat.zero_le _, Nat.zero_le _⟩ (cM_counted l E ad (x.1, x.2.1, x.2.2.1, x.2.2.2.1, x.2.2.2.2.1, x.2.2.2.2.2.1, x.2.2.2.2.2.2.1, x.2.2.2.2.2.2.2.1, x.2.2.2.2.2.2.2.2.1, x.2.2.2.2.2.2.2.2.2.1, x.2.2.2.2.2.2.2.2.2.2.1, y0_11, x.2.2.2.2.2.2.2.2.2.2.2.2) a2 (1 : Int32) v3 t4 ht4) rfl rfl hH.1 rfl rfl hl.1 rfl (Nat.le_of_ble_eq_true rfl) rfl dX9_ones_23 (fun hz23 => ?_)
        refine lv_iadd hx hb dX9_ones_26 ?_
        refine lv_istore_n (lv' := [(1, .int (a1 + t4)), (0, .ref (ad 0)), (2, .int a2)]) hx hb dX9_ones_27 rfl hl (by decide) rfl (fun ls hl => ?_)
        refine lv_iinc (v := (a2 + (1 : Int32))) (lv' := [(2, .int (a2 + (1 : Int32))), (1, .int (a1 + t4)), (0, .ref (ad 0))]) hx hb dX9_ones_28 hl (k := 2) rfl rfl (by decide) rfl (fun ls hl => ?_)
        refine lv_goto (tgt := 8) hx hb dX9_ones_31 (by decide) ?_
        exact ih y0_11 (a1 + t4) (a2 + (1 : Int32)) ls (lv_sub hl [2, 1, 0] rfl) _ _ hH hf
  intro H locs hH
  rw [fM_ones] at hf
  refine lv_aload_n hx hb dX9_ones_0 rfl (lv_at hl 0 rfl) ?_
  obtain ⟨t1, ht1, hf⟩ := ob hf
  refine k_WVsv hC LX9_127 ⟨Nat.le_of_ble_eq_true rfl, Nat.le_of_ble_eq_true rfl⟩ ⟨Nat.zero_le _, Nat.zero_le _⟩ (cM_findsRows l E ad x t1 ht1) rfl rfl hH rfl rfl rfl hl.1 rfl (Nat.le_of_ble_eq_true rfl) rfl dX9_ones_1 (fun H locs hz1 hH => ?_)
  have hH : Hp E (adr (wM E ad x)) (wM E ad (x.1, x.2.1, x.2.2.1, x.2.2.2.1, x.2.2.2.2.1, x.2.2.2.2.2.1, x.2.2.2.2.2.2.1, x.2.2.2.2.2.2.2.1, x.2.2.2.2.2.2.2.2.1, x.2.2.2.2.2.2.2.2.2.1, x.2.2.2.2.2.2.2.2.2.2.1, t1, x.2.2.2.2.2.2.2.2.2.2.2.2)) s.heap H locs := hH
  refine lv_iconst (v := 0) hx hb dX9_ones_4 (by decide) ?_
  refine lv_istore_n (lv' := [(1, .int (0 : Int32)), (0, .ref (ad 0))]) hx hb dX9_ones_5 rfl hl (by decide) rfl (fun ls hl => ?_)
  refine lv_iconst (v := 0) hx hb dX9_ones_6 (by decide) ?_
  refine lv_istore_n (lv' := [(2, .int (0 : Int32)), (1, .int (0 : Int32)), (0, .ref (ad 0))]) hx hb dX9_ones_7 rfl hl (by decide) rfl (fun ls hl => ?_)
  exact L8 FU t1 (0 : Int32) (0 : Int32) ls (lv_sub hl [2, 1, 0] rfl) _ _ hH hf
abbrev rmM_account : Room := { frames := 4, cells := 0, slots := 0, locals := 90 }
set_option maxHeartbeats 4000000 in
set_option maxRecDepth 100000 in
theorem cM_account (l : Launch) (E : eE) (ad : Nat → Nat) (x : TM) (a1 : Int32) (t : Int32 × (Nat → Int32)) (hf : fM_account x.2.2.2.2.1 x.2.2.2.2.2.2.2.2.1 x.2.2.2.2.2.2.2.2.2.2.2.1 x.2.2.2.2.2.2.2.2.2.2.2.2.2.2.2.1 a1 = some t) : cW l E yX9_account cX9_account 2 (some .int) rmM_account [.ref (ad 0), .int a1] (wM E ad x) (some (.int t.1)) (wM E ad (x.1, x.2.1, x.2.2.1, x.2.2.2.1, x.2.2.2.2.1, x.2.2.2.2.2.1, x.2.2.2.2.2.2.1, x.2.2.2.2.2.2.2.1, x.2.2.2.2.2.2.2.2.1, x.2.2.2.2.2.2.2.2.2.1, x.2.2.2.2.2.2.2.2.2.2.1, t.2, x.2.2.2.2.2.2.2.2.2.2.2.2)) := by
  refine Met.ofW (cc := cX9_account) (maxL := 2) (ret := (some .int)) (by decide) rfl ?_
  intro p e s m args below meth c s₁ B hml hv
  obtain ⟨hargs, hP, hK, hD0⟩ := hv
  have hx := B.exec
  have hb := B.bytes
  have hr := B.returns
  have hts := atoms_spec (ws := ws_ yX9_account cX9_account 2 (some .int)) B.pre
  have hta : ∀ w ∈ lw_all, w.before args s = true := fun w h => hts w (List.mem_cons_of_mem _ h)
  have hown : s.vm.findClass RX9 = some m.cls := findClass_of_methodNamed B.named
  have hlocks := B.notSynchronized
  have hC : Cx p s m args c cX9_account 2 RX9 E := ⟨hx, hb, hml, hown, hta, hK⟩
  have hH : Hp E (adr (wM E ad x)) (wM E ad x) s.heap s.heap [] := Hp.start hP hD0
  obtain ⟨ls, he, hl⟩ := entry_ (m := m) (n := 2) hargs (Nat.le_of_ble_eq_true rfl)
  rw [he]
  have hl : lv_has ls 2 [(0, .ref (ad 0)), (1, .int a1)] := hl
  show W p l e rmM_account s m args below meth c s.heap [] 0 0 (MQ below (qW E (some .int) (some (.int t.1)) (wM E ad x) (wM E ad (x.1, x.2.1, x.2.2.1, x.2.2.2.1, x.2.2.2.2.1, x.2.2.2.2.2.1, x.2.2.2.2.2.2.1, x.2.2.2.2.2.2.2.1, x.2.2.2.2.2.2.2.2.1, x.2.2.2.2.2.2.2.2.2.1, x.2.2.2.2.2.2.2.2.2.2.1, t.2, x.2.2.2.2.2.2.2.2.2.2.2.2))) args s 0 0 (adr (wM E ad x))) (F0 m 0 ls [])
  suffices hmain : ∀ (H : Heap) (locs : List Loc), Hp E (adr (wM E ad x)) (wM E ad x) s.heap H locs → W p l e rmM_account s m args below meth c H locs 0 0 (MQ below (qW E (some .int) (some (.int t.1)) (wM E ad x) (wM E ad (x.1, x.2.1, x.2.2.1, x.2.2.2.1, x.2.2.2.2.1, x.2.2.2.2.2.1, x.2.2.2.2.2.2.1, x.2.2.2.2.2.2.2.1, x.2.2.2.2.2.2.2.2.1, x.2.2.2.2.2.2.2.2.2.1, x.2.2.2.2.2.2.2.2.2.2.1, t.2, x.2.2.2.2.2.2.2.2.2.2.2.2))) args s 0 0 (adr (wM E ad x))) (F0 m 0 ls []) from hmain _ _ hH
  clear hH
  intro H locs hH
  rw [fM_account] at hf
  refine lv_iload_n hx hb dX9_account_0 rfl (lv_at hl 1 rfl) ?_
  by_cases c1_0 : a1 = (0 : Int32)
  · have hf := ite_t hf c1_0
    have e9 : (a1).toInt = 0 := by rw [c1_0]; decide
    refine lv_tableIn (tgt := 60) hx hb dX9_account_1 (by omega) (by omega) (by rw [e9]; rfl) (by decide) ?_
    refine lv_aload_n hx hb dX9_account_60 rfl (lv_at hl 0 rfl) ?_
    refine gX9_7 hC hH.1 0 rfl (v := .ref (ad 1)) rfl dX9_account_61 ?_
    refine lv_iconst (v := 0) hx hb dX9_account_64 (by decide) ?_
    obtain ⟨v1, hv1, hf⟩ := ob hf
    obtain ⟨hv1a, hv1b⟩ := ldA_ok hv1
    refine a_ild hC hH.1 1 rfl hv1a hv1b dX9_account_65 ?_
    cases hf
    exact e_Wi hC hH hr hlocks rfl rfl dX9_account_66
  · have hf := ite_f hf c1_0
    by_cases c1_1 : a1 = (1 : Int32)
    · have hf := ite_t hf c1_1
      have e9 : (a1).toInt = 1 := by rw [c1_1]; decide
      refine lv_tableIn (tgt := 67) hx hb dX9_account_1 (by omega) (by omega) (by rw [e9]; rfl) (by decide) ?_
      refine lv_aload_n hx hb dX9_account_67 rfl (lv_at hl 0 rfl) ?_
      refine lv_iconst (v := 0) hx hb dX9_account_68 (by decide) ?_
      refine lv_aload_n hx hb dX9_account_69 rfl (lv_at hl 0 rfl) ?_
      refine gX9_7 hC hH.1 0 rfl (v := .ref (ad 1)) rfl dX9_account_70 ?_
      refine lv_iconst (v := 0) hx hb dX9_account_73 (by decide) ?_
      obtain ⟨v2, hv2, hf⟩ := ob hf
      obtain ⟨hv2a, hv2b⟩ := ldA_ok hv2
      refine a_ild hC hH.1 1 rfl hv2a hv2b dX9_account_74 ?_
      obtain ⟨t3, ht3, hf⟩ := ob hf
      refine k_PVi hC LX9_170 ⟨Nat.le_of_ble_eq_true rfl, Nat.le_of_ble_eq_true rfl⟩ ⟨Nat.zero_le _, Nat.zero_le _⟩ (cM_sum l E ad x (0 : Int32) v2 t3 ht3) rfl rfl hH.1 rfl rfl hl.1 rfl (Nat.le_of_ble_eq_true rfl) rfl dX9_account_75 (fun hz75 => ?_)
      cases hf
      exact e_Wi hC hH hr hlocks rfl rfl dX9_account_78
    · have hf := ite_f hf c1_1
      by_cases c1_2 : a1 = (2 : Int32)
      · have hf := ite_t hf c1_2
        have e9 : (a1).toInt = 2 := by rw [c1_2]; decide
        refine lv_tableIn (tgt := 79) hx hb dX9_account_1 (by omega) (by omega) (by rw [e9]; rfl) (by decide) ?_
        refine lv_aload_n hx hb dX9_account_79 rfl (lv_at hl 0 rfl) ?_
        refine gX9_7 hC hH.1 0 rfl (v := .ref (ad 1)) rfl dX9_account_80 ?_
        refine lv_iconst (v := 1) hx hb dX9_account_83 (by decide) ?_
        obtain ⟨v4, hv4, hf⟩ := ob hf
        obtain ⟨hv4a, hv4b⟩ := ldA_ok hv4
        refine a_ild hC hH.1 1 rfl hv4a hv4b dX9_account_84 ?_
        cases hf
        exact e_Wi hC hH hr hlocks rfl rfl dX9_account_85
      · have hf := ite_f hf c1_2
        by_cases c1_3 : a1 = (3 : Int32)
        · have hf := ite_t hf c1_3
          have e9 : (a1).toInt = 3 := by rw [c1_3]; decide
          refine lv_tableIn (tgt := 86) hx hb dX9_account_1 (by omega) (by omega) (by rw [e9]; rfl) (by decide) ?_
          refine lv_aload_n hx hb dX9_account_86 rfl (lv_at hl 0 rfl) ?_
          refine gX9_7 hC hH.1 0 rfl (v := .ref (ad 1)) rfl dX9_account_87 ?_
          refine lv_iconst (v := 2) hx hb dX9_account_90 (by decide) ?_
          obtain ⟨v5, hv5, hf⟩ := ob hf
          obtain ⟨hv5a, hv5b⟩ := ldA_ok hv5
          refine a_ild hC hH.1 1 rfl hv5a hv5b dX9_account_91 ?_
          cases hf
          exact e_Wi hC hH hr hlocks rfl rfl dX9_account_92
        · have hf := ite_f hf c1_3
          by_cases c1_4 : a1 = (4 : Int32)
          · have hf := ite_t hf c1_4
            have e9 : (a1).toInt = 4 := by rw [c1_4]; decide
            refine lv_tableIn (tgt := 93) hx hb dX9_account_1 (by omega) (by omega) (by rw [e9]; rfl) (by decide) ?_
            refine lv_aload_n hx hb dX9_account_93 rfl (lv_at hl 0 rfl) ?_
            obtain ⟨t6, ht6, hf⟩ := ob hf
            refine k_PVi hC LX9_164 ⟨Nat.le_of_ble_eq_true rfl, Nat.le_of_ble_eq_true rfl⟩ ⟨Nat.zero_le _, Nat.zero_le _⟩ (cM_bags l E ad x t6 ht6) rfl rfl hH.1 rfl rfl hl.1 rfl (Nat.le_of_ble_eq_true rfl) rfl dX9_account_94 (fun hz94 => ?_)
            cases hf
            exact e_Wi hC hH hr hlocks rfl rfl dX9_account_97
          · have hf := ite_f hf c1_4
            by_cases c1_5 : a1 = (5 : Int32)
            · have hf := ite_t hf c1_5
              have e9 : (a1).toInt = 5 := by rw [c1_5]; decide
              refine lv_tableIn (tgt := 98) hx hb dX9_account_1 (by omega) (by omega) (by rw [e9]; rfl) (by decide) ?_
              refine lv_aload_n hx hb dX9_account_98 rfl (lv_at hl 0 rfl) ?_
              obtain ⟨t7, ht7, hf⟩ := ob hf
              refine k_PVi hC LX9_104 ⟨Nat.le_of_ble_eq_true rfl, Nat.le_of_ble_eq_true rfl⟩ ⟨Nat.zero_le _, Nat.zero_le _⟩ (cM_marked l E ad x t7 ht7) rfl rfl hH.1 rfl rfl hl.1 rfl (Nat.le_of_ble_eq_true rfl) rfl dX9_account_99 (fun hz99 => ?_)
              cases hf
              exact e_Wi hC hH hr hlocks rfl rfl dX9_account_102
            · have hf := ite_f hf c1_5
              by_cases c1_6 : a1 = (6 : Int32)
              · have hf := ite_t hf c1_6
                have e9 : (a1).toInt = 6 := by rw [c1_6]; decide
                refine lv_tableIn (tgt := 103) hx hb dX9_account_1 (by omega) (by omega) (by rw [e9]; rfl) (by decide) ?_
                refine lv_aload_n hx hb dX9_account_103 rfl (lv_at hl 0 rfl) ?_
                refine lv_iconst (v := 0) hx hb dX9_account_104 (by decide) ?_
                refine lv_aload_n hx hb dX9_account_105 rfl (lv_at hl 0 rfl) ?_
                refine gX9_7 hC hH.1 0 rfl (v := .ref (ad 1)) rfl dX9_account_106 ?_
                refine lv_iconst (v := 0) hx hb dX9_account_109 (by decide) ?_
                obtain ⟨v8, hv8, hf⟩ := ob hf
                obtain ⟨hv8a, hv8b⟩ := ldA_ok hv8
                refine a_ild hC hH.1 1 rfl hv8a hv8b dX9_account_110 ?_
                obtain ⟨t9, ht9, hf⟩ := ob hf
                refine k_PVi hC LX9_176 ⟨Nat.le_of_ble_eq_true rfl, Nat.le_of_ble_eq_true rfl⟩ ⟨Nat.zero_le _, Nat.zero_le _⟩ (cM_unlike l E ad x (0 : Int32) v8 t9 ht9) rfl rfl hH.1 rfl rfl hl.1 rfl (Nat.le_of_ble_eq_true rfl) rfl dX9_account_111 (fun hz111 => ?_)
                cases hf
                exact e_Wi hC hH hr hlocks rfl rfl dX9_account_114
              · have hf := ite_f hf c1_6
                by_cases c1_7 : a1 = (7 : Int32)
                · have hf := ite_t hf c1_7
                  have e9 : (a1).toInt = 7 := by rw [c1_7]; decide
                  refine lv_tableIn (tgt := 115) hx hb dX9_account_1 (by omega) (by omega) (by rw [e9]; rfl) (by decide) ?_
                  refine lv_aload_n hx hb dX9_account_115 rfl (lv_at hl 0 rfl) ?_
                  refine gX9_7 hC hH.1 0 rfl (v := .ref (ad 1)) rfl dX9_account_116 ?_
                  refine lv_iconst (v := 3) hx hb dX9_account_119 (by decide) ?_
                  obtain ⟨v10, hv10, hf⟩ := ob hf
                  obtain ⟨hv10a, hv10b⟩ := ldA_ok hv10
                  refine a_ild hC hH.1 1 rfl hv10a hv10b dX9_account_120 ?_
                  cases hf
                  exact e_Wi hC hH hr hlocks rfl rfl dX9_account_121
                · have hf := ite_f hf c1_7
                  by_cases c1_8 : a1 = (8 : Int32)
                  · have hf := ite_t hf c1_8
                    have e9 : (a1).toInt = 8 := by rw [c1_8]; decide
                    refine lv_tableIn (tgt := 122) hx hb dX9_account_1 (by omega) (by omega) (by rw [e9]; rfl) (by decide) ?_
                    refine lv_aload_n hx hb dX9_account_122 rfl (lv_at hl 0 rfl) ?_
                    obtain ⟨t11, ht11, hf⟩ := ob hf
                    refine k_WVsi hC LX9_195 ⟨Nat.le_of_ble_eq_true rfl, Nat.le_of_ble_eq_true rfl⟩ ⟨Nat.zero_le _, Nat.zero_le _⟩ (cM_ones l E ad x t11 ht11) rfl rfl hH rfl rfl rfl hl.1 rfl (Nat.le_of_ble_eq_true rfl) rfl dX9_account_123 (fun H locs hz123 hH => ?_)
                    have hH : Hp E (adr (wM E ad x)) (wM E ad (x.1, x.2.1, x.2.2.1, x.2.2.2.1, x.2.2.2.2.1, x.2.2.2.2.2.1, x.2.2.2.2.2.2.1, x.2.2.2.2.2.2.2.1, x.2.2.2.2.2.2.2.2.1, x.2.2.2.2.2.2.2.2.2.1, x.2.2.2.2.2.2.2.2.2.2.1, t11.2, x.2.2.2.2.2.2.2.2.2.2.2.2)) s.heap H locs := hH
                    cases hf
                    exact e_Wi hC hH hr hlocks rfl rfl dX9_account_126
                  · have hf := ite_f hf c1_8
                    by_cases c1_9 : a1 = (9 : Int32)
                    · have hf := ite_t hf c1_9
                      have e9 : (a1).toInt = 9 := by rw [c1_9]; decide
                      refine lv_tableIn (tgt := 127) hx hb dX9_account_1 (by omega) (by omega) (by rw [e9]; rfl) (by decide) ?_
                      refine lv_aload_n hx hb dX9_account_127 rfl (lv_at hl 0 rfl) ?_
                      refine gX9_198 hC hH.1 0 rfl (v := .int x.2.2.2.2.2.2.2.2.2.2.2.2.2.2.2.1) rfl dX9_account_128 ?_
                      cases hf
                      exact e_Wi hC hH hr hlocks rfl rfl dX9_account_131
                    · have hf := ite_f hf c1_9
                      by_cases c1_10 : a1 = (10 : Int32)
                      · have hf := ite_t hf c1_10
                        have e9 : (a1).toInt = 10 := by rw [c1_10]; decide
                        refine lv_tableIn (tgt := 132) hx hb dX9_account_1 (by omega) (by omega) (by rw [e9]; rfl) (by decide) ?_
                        refine lv_aload_n hx hb dX9_account_132 rfl (lv_at hl 0 rfl) ?_
                        refine gX9_48 hC hH.1 0 rfl (v := .int x.2.2.2.2.2.2.2.2.1) rfl dX9_account_133 ?_
                        cases hf
                        exact e_Wi hC hH hr hlocks rfl rfl dX9_account_136
                      · have hf := ite_f hf c1_10
                        refine lv_tableOut (tgt := 137) hx hb dX9_account_1 (by have n0 := lv_neT c1_0 (a := 0) (by decide); have n1 := lv_neT c1_1 (a := 1) (by decide); have n2 := lv_neT c1_2 (a := 2) (by decide); have n3 := lv_neT c1_3 (a := 3) (by decide); have n4 := lv_neT c1_4 (a := 4) (by decide); have n5 := lv_neT c1_5 (a := 5) (by decide); have n6 := lv_neT c1_6 (a := 6) (by decide); have n7 := lv_neT c1_7 (a := 7) (by decide); have n8 := lv_neT c1_8 (a := 8) (by decide); have n9 := lv_neT c1_9 (a := 9) (by decide); have n10 := lv_neT c1_10 (a := 10) (by decide); omega) (by decide) ?_
                        refine lv_bipush (v := (-12)) hx hb dX9_account_137 (by decide) ?_
                        cases hf
                        exact e_Wi hC hH hr hlocks rfl rfl dX9_account_139
abbrev rmM_isBalanced : Room := { frames := 5, cells := 0, slots := 0, locals := 108 }
set_option maxHeartbeats 4000000 in
set_option maxRecDepth 100000 in
theorem cM_isBalanced (l : Launch) (E : eE) (ad : Nat → Nat) (x : TM) (t : Int32 × (Nat → Int32)) (hf : fM_isBalanced x.2.2.2.2.1 x.2.2.2.2.2.2.2.2.2.2.2.1 = some t) : cW l E yX9_isBalanced cX9_isBalanced 4 (some .int) rmM_isBalanced [.ref (ad 0)] (wM E ad x) (some (.int t.1)) (wM E ad (x.1, x.2.1, x.2.2.1, x.2.2.2.1, x.2.2.2.2.1, x.2.2.2.2.2.1, x.2.2.2.2.2.2.1, x.2.2.2.2.2.2.2.1, x.2.2.2.2.2.2.2.2.1, x.2.2.2.2.2.2.2.2.2.1, x.2.2.2.2.2.2.2.2.2.2.1, t.2, x.2.2.2.2.2.2.2.2.2.2.2.2)) := by
  refine Met.ofW (cc := cX9_isBalanced) (maxL := 4) (ret := (some .int)) (by decide) rfl ?_
  intro p e s m args below meth c s₁ B hml hv
  obtain ⟨hargs, hP, hK, hD0⟩ := hv
  have hx := B.exec
  have hb := B.bytes
  have hr := B.returns
  have hts := atoms_spec (ws := ws_ yX9_isBalanced cX9_isBalanced 4 (some .int)) B.pre
  have hta : ∀ w ∈ lw_all, w.before args s = true := fun w h => hts w (List.mem_cons_of_mem _ h)
  have hown : s.vm.findClass RX9 = some m.cls := findClass_of_methodNamed B.named
  have hlocks := B.notSynchronized
  have hC : Cx p s m args c cX9_isBalanced 4 RX9 E := ⟨hx, hb, hml, hown, hta, hK⟩
  have hH : Hp E (adr (wM E ad x)) (wM E ad x) s.heap s.heap [] := Hp.start hP hD0
  obtain ⟨ls, he, hl⟩ := entry_ (m := m) (n := 4) hargs (Nat.le_of_ble_eq_true rfl)
  rw [he]
  have hl : lv_has ls 4 [(0, .ref (ad 0))] := hl
  show W p l e rmM_isBalanced s m args below meth c s.heap [] 0 0 (MQ below (qW E (some .int) (some (.int t.1)) (wM E ad x) (wM E ad (x.1, x.2.1, x.2.2.1, x.2.2.2.1, x.2.2.2.2.1, x.2.2.2.2.2.1, x.2.2.2.2.2.2.1, x.2.2.2.2.2.2.2.1, x.2.2.2.2.2.2.2.2.1, x.2.2.2.2.2.2.2.2.2.1, x.2.2.2.2.2.2.2.2.2.2.1, t.2, x.2.2.2.2.2.2.2.2.2.2.2.2))) args s 0 0 (adr (wM E ad x))) (F0 m 0 ls [])
  suffices hmain : ∀ (H : Heap) (locs : List Loc), Hp E (adr (wM E ad x)) (wM E ad x) s.heap H locs → W p l e rmM_isBalanced s m args below meth c H locs 0 0 (MQ below (qW E (some .int) (some (.int t.1)) (wM E ad x) (wM E ad (x.1, x.2.1, x.2.2.1, x.2.2.2.1, x.2.2.2.2.1, x.2.2.2.2.2.1, x.2.2.2.2.2.2.1, x.2.2.2.2.2.2.2.1, x.2.2.2.2.2.2.2.2.1, x.2.2.2.2.2.2.2.2.2.1, x.2.2.2.2.2.2.2.2.2.2.1, t.2, x.2.2.2.2.2.2.2.2.2.2.2.2))) args s 0 0 (adr (wM E ad x))) (F0 m 0 ls []) from hmain _ _ hH
  clear hH
  have L104 : ∀ (n : Nat) (y0_11 : (Nat → Int32)) (a1 : Int32) (a2 : Int32) (a3 : Int32) (ls : Array Slot), lv_has ls 4 [(0, .ref (ad 0)), (1, .int a1), (2, .int a2), (3, .int a3)] → ∀ (H : Heap) (locs : List Loc), Hp E (adr (wM E ad x)) (wM E ad (x.1, x.2.1, x.2.2.1, x.2.2.2.1, x.2.2.2.2.1, x.2.2.2.2.2.1, x.2.2.2.2.2.2.1, x.2.2.2.2.2.2.2.1, x.2.2.2.2.2.2.2.2.1, x.2.2.2.2.2.2.2.2.2.1, x.2.2.2.2.2.2.2.2.2.2.1, y0_11, x.2.2.2.2.2.2.2.2.2.2.2.2)) s.heap H locs → fM_isBalanced_104 n x.2.2.2.2.1 y0_11 a1 a2 a3 = some t → W p l e rmM_isBalanced s m args below meth c H locs 0 0 (MQ below (qW E (some .int) (some (.int t.1)) (wM E ad x) (wM E ad (x.1, x.2.1, x.2.2.1, x.2.2.2.1, x.2.2.2.2.1, x.2.2.2.2.2.1, x.2.2.2.2.2.2.1, x.2.2.2.2.2.2.2.1, x.2.2.2.2.2.2.2.2.1, x.2.2.2.2.2.2.2.2.2.1, x.2.2.2.2.2.2.2.2.2.2.1, t.2, x.2.2.2.2.2.2.2.2.2.2.2.2))) args s 0 0 (adr (wM E ad x))) (F0 m 104 ls []) := by
    intro n
    induction n with
    | zero => intro y0_11 a1 a2 a3 ls hl H locs hH hf; cases hf
    | succ n ih =>
      intro y0_11 a1 a2 a3 ls hl H locs hH hf
      rw [fM_isBalanced_104] at hf
      refine lv_iload_n hx hb dX9_isBalanced_104 rfl (lv_at hl 3 rfl) ?_
      refine lv_aload_n hx hb dX9_isBalanced_105 rfl (lv_at hl 0 rfl) ?_
      obtain ⟨t8, ht8, hf⟩ := ob hf
      refine k_PVi hC LX9_164 ⟨Nat.le_of_ble_eq_true rfl, Nat.le_of_ble_eq_true rfl⟩ ⟨Nat.zero_le _, Nat.zero_le _⟩ (cM_bags l E ad (x.1, x.2.1, x.2.2.1, x.2.2.2.1, x.2.2.2.2.1, x.2.2.2.2.2.1, x.2.2.2.2.2.2.1, x.2.2.2.2.2.2.2.1, x.2.2.2.2.2.2.2.2.1, x.2.2.2.2.2.2.2.2.2.1, x.2.2.2.2.2.2.2.2.2.2.1, y0_11, x.2.2.2.2.2.2.2.2.2.2.2.2) t8 ht8) rfl rfl hH.1 rfl rfl hl.1 rfl (Nat.le_of_ble_eq_true rfl) rfl dX9_isBalanced_106 (fun hz106 => ?_)
      refine lv_icmp_ge (tgt := 126) hx hb dX9_isBalanced_109 (by decide) (fun c9 => ?_) (fun c9 => ?_)
      · have hf := ite_t hf c9
        refine lv_iload_n hx hb dX9_isBalanced_126 rfl (lv_at hl 1 rfl) ?_
        refine lv_if_eq (tgt := 144) hx hb dX9_isBalanced_127 (by decide) (fun c10 => ?_) (fun c10 => ?_)
        · have hf := ite_t hf c10
          refine lv_iconst (v := 0) hx hb dX9_isBalanced_144 (by decide) ?_
          cases hf
          exact e_Wi hC hH hr hlocks rfl rfl dX9_isBalanced_145
        · have hf := ite_f hf c10
          refine lv_iload_n hx hb dX9_isBalanced_130 rfl (lv_at hl 2 rfl) ?_
          refine lv_aload_n hx hb dX9_isBalanced_131 rfl (lv_at hl 0 rfl) ?_
          refine gX9_7 hC hH.1 0 rfl (v := .ref (ad 1)) rfl dX9_isBalanced_132 ?_
          refine lv_iconst (v := 0) hx hb dX9_isBalanced_135 (by decide) ?_
          obtain ⟨v11, hv11, hf⟩ := ob hf
          obtain ⟨hv11a, hv11b⟩ := ldA_ok hv11
          refine a_ild hC hH.1 1 rfl hv11a hv11b dX9_isBalanced_136 ?_
          refine lv_icmp_ne (tgt := 144) hx hb dX9_isBalanced_137 (by decide) (fun c12 => ?_) (fun c12 => ?_)
          · have hf := ite_f hf c12
            refine lv_iconst (v := 0) hx hb dX9_isBalanced_144 (by decide) ?_
            cases hf
            exact e_Wi hC hH hr hlocks rfl rfl dX9_isBalanced_145
          · have hf := ite_t hf c12
            refine lv_iconst (v := 1) hx hb dX9_isBalanced_140 (by decide) ?_
            refine lv_goto (tgt := 145) hx hb dX9_isBalanced_141 (by decide) ?_
            cases hf
            exact e_Wi hC hH hr hlocks rfl rfl dX9_isBalanced_145
      · have hf := ite_f hf c9
        refine lv_iload_n hx hb dX9_isBalanced_112 rfl (lv_at hl 2 rfl) ?_
        refine lv_aload_n hx hb dX9_isBalanced_113 rfl (lv_at hl 0 rfl) ?_
        refine lv_iload_n hx hb dX9_isBalanced_114 rfl (lv_at hl 3 rfl) ?_
        obtain ⟨t13, ht13, hf⟩ := ob hf
        refine k_PVi hC LX9_182 ⟨Nat.le_of_ble_eq_true rfl, Nat.le_of_ble_eq_true rfl⟩ ⟨Nat.zero_le _, Nat.zero_le _⟩ (cM_sizeOf l E ad (x.1, x.2.1, x.2.2.1, x.2.2.2.1, x.2.2.2.2.1, x.2.2.2.2.2.1, x.2.2.2.2.2.2.1, x.2.2.2.2.2.2.2.1, x.2.2.2.2.2.2.2.2.1, x.2.2.2.2.2.2.2.2.2.1, x.2.2.2.2.2.2.2.2.2.2.1, y0_11, x.2.2.2.2.2.2.2.2.2.2.2.2) a3 t13 ht13) rfl rfl hH.1 rfl rfl hl.1 rfl (Nat.le_of_ble_eq_true rfl) rfl dX9_isBalanced_115 (fun hz115 => ?_)
        refine lv_iadd hx hb dX9_isBalanced_118 ?_
        refine lv_istore_n (lv' := [(2, .int (a2 + t13)), (0, .ref (ad 0)), (1, .int a1), (3, .int a3)]) hx hb dX9_isBalanced_119 rfl hl (by decide) rfl (fun ls hl => ?_)
        refine lv_iinc (v := (a3 + (1 : Int32))) (lv' := [(3, .int (a3 + (1 : Int32))), (2, .int (a2 + t13)), (0, .ref (ad 0)), (1, .int a1)]) hx hb dX9_isBalanced_120 hl (k := 3) rfl rfl (by decide) rfl (fun ls hl => ?_)
        refine lv_goto (tgt := 104) hx hb dX9_isBalanced_123 (by decide) ?_
        exact ih y0_11 a1 (a2 + t13) (a3 + (1 : Int32)) ls (lv_sub hl [2, 3, 1, 0] rfl) _ _ hH hf
  have L36 : ∀ (n : Nat) (y0_11 : (Nat → Int32)) (a1 : Int32) (a2 : Int32) (a3 : Int32) (ls : Array Slot), lv_has ls 4 [(0, .ref (ad 0)), (1, .int a1), (2, .int a2), (3, .int a3)] → ∀ (H : Heap) (locs : List Loc), Hp E (adr (wM E ad x)) (wM E ad (x.1, x.2.1, x.2.2.1, x.2.2.2.1, x.2.2.2.2.1, x.2.2.2.2.2.1, x.2.2.2.2.2.2.1, x.2.2.2.2.2.2.2.1, x.2.2.2.2.2.2.2.2.1, x.2.2.2.2.2.2.2.2.2.1, x.2.2.2.2.2.2.2.2.2.2.1, y0_11, x.2.2.2.2.2.2.2.2.2.2.2.2)) s.heap H locs → fM_isBalanced_36 n x.2.2.2.2.1 y0_11 a1 a2 a3 = some t → W p l e rmM_isBalanced s m args below meth c H locs 0 0 (MQ below (qW E (some .int) (some (.int t.1)) (wM E ad x) (wM E ad (x.1, x.2.1, x.2.2.1, x.2.2.2.1, x.2.2.2.2.1, x.2.2.2.2.2.1, x.2.2.2.2.2.2.1, x.2.2.2.2.2.2.2.1, x.2.2.2.2.2.2.2.2.1, x.2.2.2.2.2.2.2.2.2.1, x.2.2.2.2.2.2.2.2.2.2.1, t.2, x.2.2.2.2.2.2.2.2.2.2.2.2))) args s 0 0 (adr (wM E ad x))) (F0 m 36 ls []) := by
    intro n
    induction n with
    | zero => intro y0_11 a1 a2 a3 ls hl H locs hH hf; cases hf
    | succ n ih =>
      intro y0_11 a1 a2 a3 ls hl H locs hH hf
      rw [fM_isBalanced_36] at hf
      refine lv_iload_n hx hb dX9_isBalanced_36 rfl (lv_at hl 3 rfl) ?_
      refine lv_aload_n hx hb dX9_isBalanced_37 rfl (lv_at hl 0 rfl) ?_
      refine gX9_7 hC hH.1 0 rfl (v := .ref (ad 1)) rfl dX9_isBalanced_38 ?_
      refine lv_iconst (v := 0) hx hb dX9_isBalanced_41 (by decide) ?_
      obtain ⟨v6, hv6, hf⟩ := ob hf
      obtain ⟨hv6a, hv6b⟩ := ldA_ok hv6
      refine a_ild hC hH.1 1 rfl hv6a hv6b dX9_isBalanced_42 ?_
      refine lv_icmp_ge (tgt := 102) hx hb dX9_isBalanced_43 (by decide) (fun c7 => ?_) (fun c7 => ?_)
      · have hf := ite_t hf c7
        refine lv_iconst (v := 0) hx hb dX9_isBalanced_102 (by decide) ?_
        refine lv_istore_n (lv' := [(3, .int (0 : Int32)), (0, .ref (ad 0)), (1, .int a1), (2, .int a2)]) hx hb dX9_isBalanced_103 rfl hl (by decide) rfl (fun ls hl => ?_)
        exact L104 FU y0_11 a1 a2 (0 : Int32) ls (lv_sub hl [1, 2, 3, 0] rfl) _ _ hH hf
      · have hf := ite_f hf c7
        refine lv_iload_n hx hb dX9_isBalanced_46 rfl (lv_at hl 1 rfl) ?_
        refine lv_if_eq (tgt := 94) hx hb dX9_isBalanced_47 (by decide) (fun c14 => ?_) (fun c14 => ?_)
        · have hf := ite_t hf c14
          refine lv_iconst (v := 0) hx hb dX9_isBalanced_94 (by decide) ?_
          refine lv_istore_n (lv' := [(1, .int (0 : Int32)), (0, .ref (ad 0)), (2, .int a2), (3, .int a3)]) hx hb dX9_isBalanced_95 rfl hl (by decide) rfl (fun ls hl => ?_)
          refine lv_iinc (v := (a3 + (1 : Int32))) (lv' := [(3, .int (a3 + (1 : Int32))), (1, .int (0 : Int32)), (0, .ref (ad 0)), (2, .int a2)]) hx hb dX9_isBalanced_96 hl (k := 3) rfl rfl (by decide) rfl (fun ls hl => ?_)
          refine lv_goto (tgt := 36) hx hb dX9_isBalanced_99 (by decide) ?_
          exact ih y0_11 (0 : Int32) a2 (a3 + (1 : Int32)) ls (lv_sub hl [2, 1, 3, 0] rfl) _ _ hH hf
        · have hf := ite_f hf c14
          refine lv_aload_n hx hb dX9_isBalanced_50 rfl (lv_at hl 0 rfl) ?_
          refine lv_iload_n hx hb dX9_isBalanced_51 rfl (lv_at hl 3 rfl) ?_
          obtain ⟨t15, ht15, hf⟩ := ob hf
          refine k_PVi hC LX9_142 ⟨Nat.le_of_ble_eq_true rfl, Nat.le_of_ble_eq_true rfl⟩ ⟨Nat.zero_le _, Nat.zero_le _⟩ (cM_byBits l E ad (x.1, x.2.1, x.2.2.1, x.2.2.2.1, x.2.2.2.2.1, x.2.2.2.2.2.1, x.2.2.2.2.2.2.1, x.2.2.2.2.2.2.2.1, x.2.2.2.2.2.2.2.2.1, x.2.2.2.2.2.2.2.2.2.1, x.2.2.2.2.2.2.2.2.2.2.1, y0_11, x.2.2.2.2.2.2.2.2.2.2.2.2) a3 t15 ht15) rfl rfl hH.1 rfl rfl hl.1 rfl (Nat.le_of_ble_eq_true rfl) rfl dX9_isBalanced_52 (fun hz52 => ?_)
          refine lv_aload_n hx hb dX9_isBalanced_55 rfl (lv_at hl 0 rfl) ?_
          refine lv_iload_n hx hb dX9_isBalanced_56 rfl (lv_at hl 3 rfl) ?_
          obtain ⟨t16, ht16, hf⟩ := ob hf
          refine k_PVi hC LX9_86 ⟨Nat.le_of_ble_eq_true rfl, Nat.le_of_ble_eq_true rfl⟩ ⟨Nat.zero_le _, Nat.zero_le _⟩ (cM_is l E ad (x.1, x.2.1, x.2.2.1, x.2.2.2.1, x.2.2.2.2.1, x.2.2.2.2.2.1, x.2.2.2.2.2.2.1, x.2.2.2.2.2.2.2.1, x.2.2.2.2.2.2.2.2.1, x.2.2.2.2.2.2.2.2.2.1, x.2.2.2.2.2.2.2.2.2.2.1, y0_11, x.2.2.2.2.2.2.2.2.2.2.2.2) a3 t16 ht16) rfl rfl hH.1 rfl rfl hl.1 rfl (Nat.le_of_ble_eq_true rfl) rfl dX9_isBalanced_57 (fun hz57 => ?_)
          refine lv_icmp_ne (tgt := 94) hx hb dX9_isBalanced_60 (by decide) (fun c17 => ?_) (fun c17 => ?_)
          · have hf := ite_f hf c17
            refine lv_iconst (v := 0) hx hb dX9_isBalanced_94 (by decide) ?_
            refine lv_istore_n (lv' := [(1, .int (0 : Int32)), (0, .ref (ad 0)), (2, .int a2), (3, .int a3)]) hx hb dX9_isBalanced_95 rfl hl (by decide) rfl (fun ls hl => ?_)
            refine lv_iinc (v := (a3 + (1 : Int32))) (lv' := [(3, .int (a3 + (1 : Int32))), (1, .int (0 : Int32)), (0, .ref (ad 0)), (2, .int a2)]) hx hb dX9_isBalanced_96 hl (k := 3) rfl rfl (by decide) rfl (fun ls hl => ?_)
            refine lv_goto (tgt := 36) hx hb dX9_isBalanced_99 (by decide) ?_
            exact ih y0_11 (0 : Int32) a2 (a3 + (1 : Int32)) ls (lv_sub hl [2, 1, 3, 0] rfl) _ _ hH hf
          · have hf := ite_t hf c17
            refine lv_aload_n hx hb dX9_isBalanced_63 rfl (lv_at hl 0 rfl) ?_
            refine lv_iconst (v := 0) hx hb dX9_isBalanced_64 (by decide) ?_
            refine lv_aload_n hx hb dX9_isBalanced_65 rfl (lv_at hl 0 rfl) ?_
            refine gX9_7 hC hH.1 0 rfl (v := .ref (ad 1)) rfl dX9_isBalanced_66 ?_
            refine lv_iconst (v := 0) hx hb dX9_isBalanced_69 (by decide) ?_
            obtain ⟨v18, hv18, hf⟩ := ob hf
            obtain ⟨hv18a, hv18b⟩ := ldA_ok hv18
            refine a_ild hC hH.1 1 rfl hv18a hv18b dX9_isBalanced_70 ?_
            refine lv_iload_n hx hb dX9_isBalanced_71 rfl (lv_at hl 3 rfl) ?_
            obtain ⟨t19, ht19, hf⟩ := ob hf
            refine k_PVi hC LX9_155 ⟨Nat.le_of_ble_eq_true rfl, Nat.le_of_ble_eq_true rfl⟩ ⟨Nat.zero_le _, Nat.zero_le _⟩ (cM_bySize l E ad (x.1, x.2.1, x.2.2.1, x.2.2.2.1, x.2.2.2.2.1, x.2.2.2.2.2.1, x.2.2.2.2.2.2.1, x.2.2.2.2.2.2.2.1, x.2.2.2.2.2.2.2.2.1, x.2.2.2.2.2.2.2.2.2.1, x.2.2.2.2.2.2.2.2.2.2.1, y0_11, x.2.2.2.2.2.2.2.2.2.2.2.2) (0 : Int32) v18 a3 t19 ht19) rfl rfl hH.1 rfl rfl hl.1 rfl (Nat.le_of_ble_eq_true rfl) rfl dX9_isBalanced_72 (fun hz72 => ?_)
            refine lv_aload_n hx hb dX9_isBalanced_75 rfl (lv_at hl 0 rfl) ?_
            refine lv_iconst (v := 0) hx hb dX9_isBalanced_76 (by decide) ?_
            refine lv_aload_n hx hb dX9_isBalanced_77 rfl (lv_at hl 0 rfl) ?_
            refine gX9_7 hC hH.1 0 rfl (v := .ref (ad 1)) rfl dX9_isBalanced_78 ?_
            refine lv_iconst (v := 0) hx hb dX9_isBalanced_81 (by decide) ?_
            obtain ⟨v20, hv20, hf⟩ := ob hf
            obtain ⟨hv20a, hv20b⟩ := ldA_ok hv20
            refine a_ild hC hH.1 1 rfl hv20a hv20b dX9_isBalanced_82 ?_
            refine lv_iload_n hx hb dX9_isBalanced_83 rfl (lv_at hl 3 rfl) ?_
            obtain ⟨t21, ht21, hf⟩ := ob hf
            refine k_PVi hC LX9_161 ⟨Nat.le_of_ble_eq_true rfl, Nat.le_of_ble_eq_true rfl⟩ ⟨Nat.zero_le _, Nat.zero_le _⟩ (cM_bySizeAgain l E ad (x.1, x.2.1, x.2.2.1, x.2.2.2.1, x.2.2.2.2.1, x.2.2.2.2.2.1, x.2.2.2.2.2.2.1, x.2.2.2.2.2.2.2.1, x.2.2.2.2.2.2.2.2.1, x.2.2.2.2.2.2.2.2.2.1, x.2.2.2.2.2.2.2.2.2.2.1, y0_11, x.2.2.2.2.2.2.2.2.2.2.2.2) (0 : Int32) v20 a3 t21 ht21) rfl rfl hH.1 rfl rfl hl.1 rfl (Nat.le_of_ble_eq_true rfl) rfl dX9_isBalanced_84 (fun hz84 => ?_)
            refine lv_icmp_ne (tgt := 94) hx hb dX9_isBalanced_87 (by decide) (fun c22 => ?_) (fun c22 => ?_)
            · have hf := ite_f hf c22
              refine lv_iconst (v := 0) hx hb dX9_isBalanced_94 (by decide) ?_
              refine lv_istore_n (lv' := [(1, .int (0 : Int32)), (0, .ref (ad 0)), (2, .int a2), (3, .int a3)]) hx hb dX9_isBalanced_95 rfl hl (by decide) rfl (fun ls hl => ?_)
              refine lv_iinc (v := (a3 + (1 : Int32))) (lv' := [(3, .int (a3 + (1 : Int32))), (1, .int (0 : Int32)), (0, .ref (ad 0)), (2, .int a2)]) hx hb dX9_isBalanced_96 hl (k := 3) rfl rfl (by decide) rfl (fun ls hl => ?_)
              refine lv_goto (tgt := 36) hx hb dX9_isBalanced_99 (by decide) ?_
              exact ih y0_11 (0 : Int32) a2 (a3 + (1 : Int32)) ls (lv_sub hl [2, 1, 3, 0] rfl) _ _ hH hf
            · have hf := ite_t hf c22
              refine lv_iconst (v := 1) hx hb dX9_isBalanced_90 (by decide) ?_
              refine lv_goto (tgt := 95) hx hb dX9_isBalanced_91 (by decide) ?_
              refine lv_istore_n (lv' := [(1, .int (1 : Int32)), (0, .ref (ad 0)), (2, .int a2), (3, .int a3)]) hx hb dX9_isBalanced_95 rfl hl (by decide) rfl (fun ls hl => ?_)
              refine lv_iinc (v := (a3 + (1 : Int32))) (lv' := [(3, .int (a3 + (1 : Int32))), (1, .int (1 : Int32)), (0, .ref (ad 0)), (2, .int a2)]) hx hb dX9_isBalanced_96 hl (k := 3) rfl rfl (by decide) rfl (fun ls hl => ?_)
              refine lv_goto (tgt := 36) hx hb dX9_isBalanced_99 (by decide) ?_
              exact ih y0_11 (1 : Int32) a2 (a3 + (1 : Int32)) ls (lv_sub hl [2, 1, 3, 0] rfl) _ _ hH hf
  intro H locs hH
  rw [fM_isBalanced] at hf
  refine lv_aload_n hx hb dX9_isBalanced_0 rfl (lv_at hl 0 rfl) ?_
  obtain ⟨t1, ht1, hf⟩ := ob hf
  refine k_WVsv hC LX9_127 ⟨Nat.le_of_ble_eq_true rfl, Nat.le_of_ble_eq_true rfl⟩ ⟨Nat.zero_le _, Nat.zero_le _⟩ (cM_findsRows l E ad x t1 ht1) rfl rfl hH rfl rfl rfl hl.1 rfl (Nat.le_of_ble_eq_true rfl) rfl dX9_isBalanced_1 (fun H locs hz1 hH => ?_)
  have hH : Hp E (adr (wM E ad x)) (wM E ad (x.1, x.2.1, x.2.2.1, x.2.2.2.1, x.2.2.2.2.1, x.2.2.2.2.2.1, x.2.2.2.2.2.2.1, x.2.2.2.2.2.2.2.1, x.2.2.2.2.2.2.2.2.1, x.2.2.2.2.2.2.2.2.2.1, x.2.2.2.2.2.2.2.2.2.2.1, t1, x.2.2.2.2.2.2.2.2.2.2.2.2)) s.heap H locs := hH
  refine lv_aload_n hx hb dX9_isBalanced_4 rfl (lv_at hl 0 rfl) ?_
  refine gX9_7 hC hH.1 0 rfl (v := .ref (ad 1)) rfl dX9_isBalanced_5 ?_
  refine lv_iconst (v := 0) hx hb dX9_isBalanced_8 (by decide) ?_
  obtain ⟨v2, hv2, hf⟩ := ob hf
  obtain ⟨hv2a, hv2b⟩ := ldA_ok hv2
  refine a_ild hC hH.1 1 rfl hv2a hv2b dX9_isBalanced_9 ?_
  refine lv_aload_n hx hb dX9_isBalanced_10 rfl (lv_at hl 0 rfl) ?_
  refine gX9_7 hC hH.1 0 rfl (v := .ref (ad 1)) rfl dX9_isBalanced_11 ?_
  refine lv_iconst (v := 1) hx hb dX9_isBalanced_14 (by decide) ?_
  obtain ⟨v3, hv3, hf⟩ := ob hf
  obtain ⟨hv3a, hv3b⟩ := ldA_ok hv3
  refine a_ild hC hH.1 1 rfl hv3a hv3b dX9_isBalanced_15 ?_
  refine lv_aload_n hx hb dX9_isBalanced_16 rfl (lv_at hl 0 rfl) ?_
  refine gX9_7 hC hH.1 0 rfl (v := .ref (ad 1)) rfl dX9_isBalanced_17 ?_
  refine lv_iconst (v := 2) hx hb dX9_isBalanced_20 (by decide) ?_
  obtain ⟨v4, hv4, hf⟩ := ob hf
  obtain ⟨hv4a, hv4b⟩ := ldA_ok hv4
  refine a_ild hC hH.1 1 rfl hv4a hv4b dX9_isBalanced_21 ?_
  refine lv_isub hx hb dX9_isBalanced_22 ?_
  refine lv_icmp_ne (tgt := 30) hx hb dX9_isBalanced_23 (by decide) (fun c5 => ?_) (fun c5 => ?_)
  · have hf := ite_f hf c5
    refine lv_iconst (v := 0) hx hb dX9_isBalanced_30 (by decide) ?_
    refine lv_istore_n (lv' := [(1, .int (0 : Int32)), (0, .ref (ad 0))]) hx hb dX9_isBalanced_31 rfl hl (by decide) rfl (fun ls hl => ?_)
    refine lv_iconst (v := 0) hx hb dX9_isBalanced_32 (by decide) ?_
    refine lv_istore_n (lv' := [(2, .int (0 : Int32)), (1, .int (0 : Int32)), (0, .ref (ad 0))]) hx hb dX9_isBalanced_33 rfl hl (by decide) rfl (fun ls hl => ?_)
    refine lv_iconst (v := 0) hx hb dX9_isBalanced_34 (by decide) ?_
    refine lv_istore_n (lv' := [(3, .int (0 : Int32)), (2, .int (0 : Int32)), (1, .int (0 : Int32)), (0, .ref (ad 0))]) hx hb dX9_isBalanced_35 rfl hl (by decide) rfl (fun ls hl => ?_)
    exact L36 FU t1 (0 : Int32) (0 : Int32) (0 : Int32) ls (lv_sub hl [3, 2, 1, 0] rfl) _ _ hH hf
  · have hf := ite_t hf c5
    refine lv_iconst (v := 1) hx hb dX9_isBalanced_26 (by decide) ?_
    refine lv_goto (tgt := 31) hx hb dX9_isBalanced_27 (by decide) ?_
    refine lv_istore_n (lv' := [(1, .int (1 : Int32)), (0, .ref (ad 0))]) hx hb dX9_isBalanced_31 rfl hl (by decide) rfl (fun ls hl => ?_)
    refine lv_iconst (v := 0) hx hb dX9_isBalanced_32 (by decide) ?_
    refine lv_istore_n (lv' := [(2, .int (0 : Int32)), (1, .int (1 : Int32)), (0, .ref (ad 0))]) hx hb dX9_isBalanced_33 rfl hl (by decide) rfl (fun ls hl => ?_)
    refine lv_iconst (v := 0) hx hb dX9_isBalanced_34 (by decide) ?_
    refine lv_istore_n (lv' := [(3, .int (0 : Int32)), (2, .int (0 : Int32)), (1, .int (1 : Int32)), (0, .ref (ad 0))]) hx hb dX9_isBalanced_35 rfl hl (by decide) rfl (fun ls hl => ?_)
    exact L36 FU t1 (1 : Int32) (0 : Int32) (0 : Int32) ls (lv_sub hl [3, 2, 1, 0] rfl) _ _ hH hf
abbrev rmM_append : Room := { frames := 1, cells := 0, slots := 0, locals := 22 }
set_option maxHeartbeats 4000000 in
set_option maxRecDepth 100000 in
theorem cM_append (l : Launch) (E : eE) (ad : Nat → Nat) (x : TM) (a1 : Int32) (t : Int32 × (Nat → Int32) × Int32) (hf : fM_append x.2.2.2.2.2.2.2.2.2.2.2.2.2.2.1 x.2.2.2.2.2.2.2.2.2.2.2.2.2.2.2.1 a1 = some t) : cW l E yX9_append cX9_append 2 (some .int) rmM_append [.ref (ad 0), .int a1] (wM E ad x) (some (.int t.1)) (wM E ad (x.1, x.2.1, x.2.2.1, x.2.2.2.1, x.2.2.2.2.1, x.2.2.2.2.2.1, x.2.2.2.2.2.2.1, x.2.2.2.2.2.2.2.1, x.2.2.2.2.2.2.2.2.1, x.2.2.2.2.2.2.2.2.2.1, x.2.2.2.2.2.2.2.2.2.2.1, x.2.2.2.2.2.2.2.2.2.2.2.1, x.2.2.2.2.2.2.2.2.2.2.2.2.1, x.2.2.2.2.2.2.2.2.2.2.2.2.2.1, t.2.1, t.2.2, x.2.2.2.2.2.2.2.2.2.2.2.2.2.2.2.2)) := by
  refine Met.ofW (cc := cX9_append) (maxL := 2) (ret := (some .int)) (by decide) rfl ?_
  intro p e s m args below meth c s₁ B hml hv
  obtain ⟨hargs, hP, hK, hD0⟩ := hv
  have hx := B.exec
  have hb := B.bytes
  have hr := B.returns
  have hts := atoms_spec (ws := ws_ yX9_append cX9_append 2 (some .int)) B.pre
  have hta : ∀ w ∈ lw_all, w.before args s = true := fun w h => hts w (List.mem_cons_of_mem _ h)
  have hown : s.vm.findClass RX9 = some m.cls := findClass_of_methodNamed B.named
  have hlocks := B.notSynchronized
  have hC : Cx p s m args c cX9_append 2 RX9 E := ⟨hx, hb, hml, hown, hta, hK⟩
  have hH : Hp E (adr (wM E ad x)) (wM E ad x) s.heap s.heap [] := Hp.start hP hD0
  obtain ⟨ls, he, hl⟩ := entry_ (m := m) (n := 2) hargs (Nat.le_of_ble_eq_true rfl)
  rw [he]
  have hl : lv_has ls 2 [(0, .ref (ad 0)), (1, .int a1)] := hl
  show W p l e rmM_append s m args below meth c s.heap [] 0 0 (MQ below (qW E (some .int) (some (.int t.1)) (wM E ad x) (wM E ad (x.1, x.2.1, x.2.2.1, x.2.2.2.1, x.2.2.2.2.1, x.2.2.2.2.2.1, x.2.2.2.2.2.2.1, x.2.2.2.2.2.2.2.1, x.2.2.2.2.2.2.2.2.1, x.2.2.2.2.2.2.2.2.2.1, x.2.2.2.2.2.2.2.2.2.2.1, x.2.2.2.2.2.2.2.2.2.2.2.1, x.2.2.2.2.2.2.2.2.2.2.2.2.1, x.2.2.2.2.2.2.2.2.2.2.2.2.2.1, t.2.1, t.2.2, x.2.2.2.2.2.2.2.2.2.2.2.2.2.2.2.2))) args s 0 0 (adr (wM E ad x))) (F0 m 0 ls [])
  suffices hmain : ∀ (H : Heap) (locs : List Loc), Hp E (adr (wM E ad x)) (wM E ad x) s.heap H locs → W p l e rmM_append s m args below meth c H locs 0 0 (MQ below (qW E (some .int) (some (.int t.1)) (wM E ad x) (wM E ad (x.1, x.2.1, x.2.2.1, x.2.2.2.1, x.2.2.2.2.1, x.2.2.2.2.2.1, x.2.2.2.2.2.2.1, x.2.2.2.2.2.2.2.1, x.2.2.2.2.2.2.2.2.1, x.2.2.2.2.2.2.2.2.2.1, x.2.2.2.2.2.2.2.2.2.2.1, x.2.2.2.2.2.2.2.2.2.2.2.1, x.2.2.2.2.2.2.2.2.2.2.2.2.1, x.2.2.2.2.2.2.2.2.2.2.2.2.2.1, t.2.1, t.2.2, x.2.2.2.2.2.2.2.2.2.2.2.2.2.2.2.2))) args s 0 0 (adr (wM E ad x))) (F0 m 0 ls []) from hmain _ _ hH
  clear hH
  intro H locs hH
  rw [fM_append] at hf
  refine lv_iload_n hx hb dX9_append_0 rfl (lv_at hl 1 rfl) ?_
  refine lv_bipush (v := 32) hx hb dX9_append_1 (by decide) ?_
  refine lv_bipush (v := 126) hx hb dX9_append_3 (by decide) ?_
  refine k_PSi hC LX9_60 ⟨Nat.le_of_ble_eq_true rfl, Nat.le_of_ble_eq_true rfl⟩ ⟨Nat.zero_le _, Nat.zero_le _⟩ (cM_isBetween l E a1 (32 : Int32) (126 : Int32) _ rfl) rfl rfl (vP_nil) hl.1 rfl (Nat.le_of_ble_eq_true rfl) rfl dX9_append_5 (fun hz5 => ?_)
  refine lv_if_ne (tgt := 14) hx hb dX9_append_8 (by decide) (fun c1 => ?_) (fun c1 => ?_)
  · have hf := ite_f hf c1
    refine lv_aload_n hx hb dX9_append_14 rfl (lv_at hl 0 rfl) ?_
    refine gX9_198 hC hH.1 0 rfl (v := .int x.2.2.2.2.2.2.2.2.2.2.2.2.2.2.2.1) rfl dX9_append_15 ?_
    refine lv_bipush (v := 60) hx hb dX9_append_18 (by decide) ?_
    refine lv_icmp_ne (tgt := 26) hx hb dX9_append_20 (by decide) (fun c2 => ?_) (fun c2 => ?_)
    · have hf := ite_f hf c2
      refine lv_aload_n hx hb dX9_append_26 rfl (lv_at hl 0 rfl) ?_
      refine gX9_29 hC hH.1 0 rfl (v := .ref (ad 7)) rfl dX9_append_27 ?_
      refine lv_aload_n hx hb dX9_append_30 rfl (lv_at hl 0 rfl) ?_
      refine gX9_198 hC hH.1 0 rfl (v := .int x.2.2.2.2.2.2.2.2.2.2.2.2.2.2.2.1) rfl dX9_append_31 ?_
      refine lv_iload_n hx hb dX9_append_34 rfl (lv_at hl 1 rfl) ?_
      refine lv_i2c hx hb dX9_append_35 rfl ?_
      obtain ⟨g3, hg3, hf⟩ := ob hf
      obtain ⟨hg3a, hg3b⟩ := stA_ok hg3
      refine a_cst hC hH 7 rfl hg3a hg3b (W1 := wM E ad (x.1, x.2.1, x.2.2.1, x.2.2.2.1, x.2.2.2.2.1, x.2.2.2.2.2.1, x.2.2.2.2.2.2.1, x.2.2.2.2.2.2.2.1, x.2.2.2.2.2.2.2.2.1, x.2.2.2.2.2.2.2.2.2.1, x.2.2.2.2.2.2.2.2.2.2.1, x.2.2.2.2.2.2.2.2.2.2.2.1, x.2.2.2.2.2.2.2.2.2.2.2.2.1, x.2.2.2.2.2.2.2.2.2.2.2.2.2.1, g3, x.2.2.2.2.2.2.2.2.2.2.2.2.2.2.2)) rfl dX9_append_36 (pk_vc _) (fun H locs hH => ?_)
      refine lv_aload_n hx hb dX9_append_37 rfl (lv_at hl 0 rfl) ?_
      refine lv_dup hx hb dX9_append_38 rfl ?_
      refine gX9_198 hC hH.1 0 rfl (v := .int x.2.2.2.2.2.2.2.2.2.2.2.2.2.2.2.1) rfl dX9_append_39 ?_
      refine lv_iconst (v := 1) hx hb dX9_append_42 (by decide) ?_
      refine lv_iadd hx hb dX9_append_43 ?_
      refine pX9_198 hC hH 0 rfl (v := .int (x.2.2.2.2.2.2.2.2.2.2.2.2.2.2.2.1 + (1 : Int32))) rfl rfl (Nat.le_of_ble_eq_true rfl) (W1 := wM E ad (x.1, x.2.1, x.2.2.1, x.2.2.2.1, x.2.2.2.2.1, x.2.2.2.2.2.1, x.2.2.2.2.2.2.1, x.2.2.2.2.2.2.2.1, x.2.2.2.2.2.2.2.2.1, x.2.2.2.2.2.2.2.2.2.1, x.2.2.2.2.2.2.2.2.2.2.1, x.2.2.2.2.2.2.2.2.2.2.2.1, x.2.2.2.2.2.2.2.2.2.2.2.2.1, x.2.2.2.2.2.2.2.2.2.2.2.2.2.1, g3, (x.2.2.2.2.2.2.2.2.2.2.2.2.2.2.2.1 + (1 : Int32)), x.2.2.2.2.2.2.2.2.2.2.2.2.2.2.2.2)) rfl dX9_append_44 (fun H locs hH => ?_)
      refine lv_aload_n hx hb dX9_append_47 rfl (lv_at hl 0 rfl) ?_
      refine gX9_198 hC hH.1 0 rfl (v := .int (x.2.2.2.2.2.2.2.2.2.2.2.2.2.2.2.1 + (1 : Int32))) rfl dX9_append_48 ?_
      cases hf
      exact e_Wi hC hH hr hlocks rfl rfl dX9_append_51
    · have hf := ite_t hf c2
      refine lv_bipush (v := (-13)) hx hb dX9_append_23 (by decide) ?_
      cases hf
      exact e_Wi hC hH hr hlocks rfl rfl dX9_append_25
  · have hf := ite_t hf c1
    refine lv_bipush (v := (-12)) hx hb dX9_append_11 (by decide) ?_
    cases hf
    exact e_Wi hC hH hr hlocks rfl rfl dX9_append_13
abbrev rmM_sign : Room := { frames := 0, cells := 0, slots := 0, locals := 0 }
set_option maxHeartbeats 4000000 in
set_option maxRecDepth 100000 in
theorem cM_sign (l : Launch) (E : eE) (ad : Nat → Nat) (x : TM) (r : Int32) (hf : fM_sign x.2.2.2.2.2.2.2.2.2.2.2.2.2.2.1 x.2.2.2.2.2.2.2.2.2.2.2.2.2.2.2.1 x.2.2.2.2.2.2.2.2.2.2.2.2.2.2.2.2.1 = some r) : cP l E yX9_sign cX9_sign 1 (some .int) rmM_sign [.ref (ad 0)] (wM E ad x) (some (.int r)) := by
  refine Met.ofW (cc := cX9_sign) (maxL := 1) (ret := (some .int)) (by decide) rfl ?_
  intro p e s m args below meth c s₁ B hml hv
  obtain ⟨hargs, hP, hK⟩ := hv
  have hx := B.exec
  have hb := B.bytes
  have hr := B.returns
  have hts := atoms_spec (ws := ws_ yX9_sign cX9_sign 1 (some .int)) B.pre
  have hta : ∀ w ∈ lw_all, w.before args s = true := fun w h => hts w (List.mem_cons_of_mem _ h)
  have hown : s.vm.findClass RX9 = some m.cls := findClass_of_methodNamed B.named
  have hlocks := B.notSynchronized
  have hC : Cx p s m args c cX9_sign 1 RX9 E := ⟨hx, hb, hml, hown, hta, hK⟩
  obtain ⟨ls, he, hl⟩ := entry_ (m := m) (n := 1) hargs (Nat.le_of_ble_eq_true rfl)
  rw [he]
  have hl : lv_has ls 1 [(0, .ref (ad 0))] := hl
  show W p l e rmM_sign s m args below meth c s.heap [] 0 0 (MQ below (qP (some .int) (some (.int r))) args s 0 0 (fun _ => False)) (F0 m 0 ls [])
  rw [fM_sign] at hf
  refine lv_aload_n hx hb dX9_sign_0 rfl (lv_at hl 0 rfl) ?_
  refine gX9_201 hC hP 0 rfl (v := .int x.2.2.2.2.2.2.2.2.2.2.2.2.2.2.2.2.1) rfl dX9_sign_1 ?_
  refine lv_aload_n hx hb dX9_sign_4 rfl (lv_at hl 0 rfl) ?_
  refine gX9_198 hC hP 0 rfl (v := .int x.2.2.2.2.2.2.2.2.2.2.2.2.2.2.2.1) rfl dX9_sign_5 ?_
  refine lv_icmp_ge (tgt := 23) hx hb dX9_sign_8 (by decide) (fun c1 => ?_) (fun c1 => ?_)
  · have hf := ite_t hf c1
    refine lv_iconst (v := (-1)) hx hb dX9_sign_23 (by decide) ?_
    have hf := Option.some.inj hf
    exact e_Pi hC hr hlocks hf dX9_sign_24
  · have hf := ite_f hf c1
    refine lv_aload_n hx hb dX9_sign_11 rfl (lv_at hl 0 rfl) ?_
    refine gX9_29 hC hP 0 rfl (v := .ref (ad 7)) rfl dX9_sign_12 ?_
    refine lv_aload_n hx hb dX9_sign_15 rfl (lv_at hl 0 rfl) ?_
    refine gX9_201 hC hP 0 rfl (v := .int x.2.2.2.2.2.2.2.2.2.2.2.2.2.2.2.2.1) rfl dX9_sign_16 ?_
    obtain ⟨v2, hv2, hf⟩ := ob hf
    obtain ⟨hv2a, hv2b⟩ := ldA_ok hv2
    refine a_cld hC hP 7 rfl hv2a hv2b dX9_sign_19 ?_
    refine lv_goto (tgt := 24) hx hb dX9_sign_20 (by decide) ?_
    have hf := Option.some.inj hf
    exact e_Pi hC hr hlocks hf dX9_sign_24
abbrev rmM_reads : Room := { frames := 1, cells := 0, slots := 0, locals := 20 }
set_option maxHeartbeats 4000000 in
set_option maxRecDepth 100000 in
theorem cM_reads (l : Launch) (E : eE) (ad : Nat → Nat) (x : TM) (a1 : Int32) (t : Int32 × Int32) (hf : fM_reads x.2.2.2.2.2.2.2.2.2.2.2.2.2.2.1 x.2.2.2.2.2.2.2.2.2.2.2.2.2.2.2.1 x.2.2.2.2.2.2.2.2.2.2.2.2.2.2.2.2.1 a1 = some t) : cW l E yX9_reads cX9_reads 2 (some .boolean) rmM_reads [.ref (ad 0), .int a1] (wM E ad x) (some (.int t.1)) (wM E ad (x.1, x.2.1, x.2.2.1, x.2.2.2.1, x.2.2.2.2.1, x.2.2.2.2.2.1, x.2.2.2.2.2.2.1, x.2.2.2.2.2.2.2.1, x.2.2.2.2.2.2.2.2.1, x.2.2.2.2.2.2.2.2.2.1, x.2.2.2.2.2.2.2.2.2.2.1, x.2.2.2.2.2.2.2.2.2.2.2.1, x.2.2.2.2.2.2.2.2.2.2.2.2.1, x.2.2.2.2.2.2.2.2.2.2.2.2.2.1, x.2.2.2.2.2.2.2.2.2.2.2.2.2.2.1, x.2.2.2.2.2.2.2.2.2.2.2.2.2.2.2.1, t.2, x.2.2.2.2.2.2.2.2.2.2.2.2.2.2.2.2.2)) := by
  refine Met.ofW (cc := cX9_reads) (maxL := 2) (ret := (some .boolean)) (by decide) rfl ?_
  intro p e s m args below meth c s₁ B hml hv
  obtain ⟨hargs, hP, hK, hD0⟩ := hv
  have hx := B.exec
  have hb := B.bytes
  have hr := B.returns
  have hts := atoms_spec (ws := ws_ yX9_reads cX9_reads 2 (some .boolean)) B.pre
  have hta : ∀ w ∈ lw_all, w.before args s = true := fun w h => hts w (List.mem_cons_of_mem _ h)
  have hown : s.vm.findClass RX9 = some m.cls := findClass_of_methodNamed B.named
  have hlocks := B.notSynchronized
  have hC : Cx p s m args c cX9_reads 2 RX9 E := ⟨hx, hb, hml, hown, hta, hK⟩
  have hH : Hp E (adr (wM E ad x)) (wM E ad x) s.heap s.heap [] := Hp.start hP hD0
  obtain ⟨ls, he, hl⟩ := entry_ (m := m) (n := 2) hargs (Nat.le_of_ble_eq_true rfl)
  rw [he]
  have hl : lv_has ls 2 [(0, .ref (ad 0)), (1, .int a1)] := hl
  show W p l e rmM_reads s m args below meth c s.heap [] 0 0 (MQ below (qW E (some .boolean) (some (.int t.1)) (wM E ad x) (wM E ad (x.1, x.2.1, x.2.2.1, x.2.2.2.1, x.2.2.2.2.1, x.2.2.2.2.2.1, x.2.2.2.2.2.2.1, x.2.2.2.2.2.2.2.1, x.2.2.2.2.2.2.2.2.1, x.2.2.2.2.2.2.2.2.2.1, x.2.2.2.2.2.2.2.2.2.2.1, x.2.2.2.2.2.2.2.2.2.2.2.1, x.2.2.2.2.2.2.2.2.2.2.2.2.1, x.2.2.2.2.2.2.2.2.2.2.2.2.2.1, x.2.2.2.2.2.2.2.2.2.2.2.2.2.2.1, x.2.2.2.2.2.2.2.2.2.2.2.2.2.2.2.1, t.2, x.2.2.2.2.2.2.2.2.2.2.2.2.2.2.2.2.2))) args s 0 0 (adr (wM E ad x))) (F0 m 0 ls [])
  suffices hmain : ∀ (H : Heap) (locs : List Loc), Hp E (adr (wM E ad x)) (wM E ad x) s.heap H locs → W p l e rmM_reads s m args below meth c H locs 0 0 (MQ below (qW E (some .boolean) (some (.int t.1)) (wM E ad x) (wM E ad (x.1, x.2.1, x.2.2.1, x.2.2.2.1, x.2.2.2.2.1, x.2.2.2.2.2.1, x.2.2.2.2.2.2.1, x.2.2.2.2.2.2.2.1, x.2.2.2.2.2.2.2.2.1, x.2.2.2.2.2.2.2.2.2.1, x.2.2.2.2.2.2.2.2.2.2.1, x.2.2.2.2.2.2.2.2.2.2.2.1, x.2.2.2.2.2.2.2.2.2.2.2.2.1, x.2.2.2.2.2.2.2.2.2.2.2.2.2.1, x.2.2.2.2.2.2.2.2.2.2.2.2.2.2.1, x.2.2.2.2.2.2.2.2.2.2.2.2.2.2.2.1, t.2, x.2.2.2.2.2.2.2.2.2.2.2.2.2.2.2.2.2))) args s 0 0 (adr (wM E ad x))) (F0 m 0 ls []) from hmain _ _ hH
  clear hH
  intro H locs hH
  rw [fM_reads] at hf
  refine lv_aload_n hx hb dX9_reads_0 rfl (lv_at hl 0 rfl) ?_
  obtain ⟨t1, ht1, hf⟩ := ob hf
  refine k_PVi hC LX9_204 ⟨Nat.le_of_ble_eq_true rfl, Nat.le_of_ble_eq_true rfl⟩ ⟨Nat.zero_le _, Nat.zero_le _⟩ (cM_sign l E ad x t1 ht1) rfl rfl hH.1 rfl rfl hl.1 rfl (Nat.le_of_ble_eq_true rfl) rfl dX9_reads_1 (fun hz1 => ?_)
  refine lv_iload_n hx hb dX9_reads_4 rfl (lv_at hl 1 rfl) ?_
  refine lv_icmp_eq (tgt := 10) hx hb dX9_reads_5 (by decide) (fun c2 => ?_) (fun c2 => ?_)
  · have hf := ite_t hf c2
    refine lv_aload_n hx hb dX9_reads_10 rfl (lv_at hl 0 rfl) ?_
    refine lv_dup hx hb dX9_reads_11 rfl ?_
    refine gX9_201 hC hH.1 0 rfl (v := .int x.2.2.2.2.2.2.2.2.2.2.2.2.2.2.2.2.1) rfl dX9_reads_12 ?_
    refine lv_iconst (v := 1) hx hb dX9_reads_15 (by decide) ?_
    refine lv_iadd hx hb dX9_reads_16 ?_
    refine pX9_201 hC hH 0 rfl (v := .int (x.2.2.2.2.2.2.2.2.2.2.2.2.2.2.2.2.1 + (1 : Int32))) rfl rfl (Nat.le_of_ble_eq_true rfl) (W1 := wM E ad (x.1, x.2.1, x.2.2.1, x.2.2.2.1, x.2.2.2.2.1, x.2.2.2.2.2.1, x.2.2.2.2.2.2.1, x.2.2.2.2.2.2.2.1, x.2.2.2.2.2.2.2.2.1, x.2.2.2.2.2.2.2.2.2.1, x.2.2.2.2.2.2.2.2.2.2.1, x.2.2.2.2.2.2.2.2.2.2.2.1, x.2.2.2.2.2.2.2.2.2.2.2.2.1, x.2.2.2.2.2.2.2.2.2.2.2.2.2.1, x.2.2.2.2.2.2.2.2.2.2.2.2.2.2.1, x.2.2.2.2.2.2.2.2.2.2.2.2.2.2.2.1, (x.2.2.2.2.2.2.2.2.2.2.2.2.2.2.2.2.1 + (1 : Int32)), x.2.2.2.2.2.2.2.2.2.2.2.2.2.2.2.2.2)) rfl dX9_reads_17 (fun H locs hH => ?_)
    refine lv_iconst (v := 1) hx hb dX9_reads_20 (by decide) ?_
    cases hf
    exact e_Wz hC hH hr hlocks rfl rfl rfl dX9_reads_21
  · have hf := ite_f hf c2
    refine lv_iconst (v := 0) hx hb dX9_reads_8 (by decide) ?_
    cases hf
    exact e_Wz hC hH hr hlocks rfl rfl rfl dX9_reads_9
abbrev rmM_readsDigit : Room := { frames := 1, cells := 0, slots := 0, locals := 22 }
set_option maxHeartbeats 4000000 in
set_option maxRecDepth 100000 in
theorem cM_readsDigit (l : Launch) (E : eE) (ad : Nat → Nat) (x : TM) (a1 : Int32) (t : Int32 × Int32 × (Nat → Int32)) (hf : fM_readsDigit x.2.2.2.2.2.2.2.2.2.2.2.2.2.2.1 x.2.2.2.2.2.2.2.2.2.2.2.2.2.2.2.1 x.2.2.2.2.2.2.2.2.2.2.2.2.2.2.2.2.1 x.2.2.2.2.2.2.2.2.2.2.2.2.2.2.2.2.2.1 a1 = some t) : cW l E yX9_readsDigit cX9_readsDigit 2 (some .boolean) rmM_readsDigit [.ref (ad 0), .int a1] (wM E ad x) (some (.int t.1)) (wM E ad (x.1, x.2.1, x.2.2.1, x.2.2.2.1, x.2.2.2.2.1, x.2.2.2.2.2.1, x.2.2.2.2.2.2.1, x.2.2.2.2.2.2.2.1, x.2.2.2.2.2.2.2.2.1, x.2.2.2.2.2.2.2.2.2.1, x.2.2.2.2.2.2.2.2.2.2.1, x.2.2.2.2.2.2.2.2.2.2.2.1, x.2.2.2.2.2.2.2.2.2.2.2.2.1, x.2.2.2.2.2.2.2.2.2.2.2.2.2.1, x.2.2.2.2.2.2.2.2.2.2.2.2.2.2.1, x.2.2.2.2.2.2.2.2.2.2.2.2.2.2.2.1, t.2.1, t.2.2, x.2.2.2.2.2.2.2.2.2.2.2.2.2.2.2.2.2.2)) := by
  refine Met.ofW (cc := cX9_readsDigit) (maxL := 2) (ret := (some .boolean)) (by decide) rfl ?_
  intro p e s m args below meth c s₁ B hml hv
  obtain ⟨hargs, hP, hK, hD0⟩ := hv
  have hx := B.exec
  have hb := B.bytes
  have hr := B.returns
  have hts := atoms_spec (ws := ws_ yX9_readsDigit cX9_readsDigit 2 (some .boolean)) B.pre
  have hta : ∀ w ∈ lw_all, w.before args s = true := fun w h => hts w (List.mem_cons_of_mem _ h)
  have hown : s.vm.findClass RX9 = some m.cls := findClass_of_methodNamed B.named
  have hlocks := B.notSynchronized
  have hC : Cx p s m args c cX9_readsDigit 2 RX9 E := ⟨hx, hb, hml, hown, hta, hK⟩
  have hH : Hp E (adr (wM E ad x)) (wM E ad x) s.heap s.heap [] := Hp.start hP hD0
  obtain ⟨ls, he, hl⟩ := entry_ (m := m) (n := 2) hargs (Nat.le_of_ble_eq_true rfl)
  rw [he]
  have hl : lv_has ls 2 [(0, .ref (ad 0)), (1, .int a1)] := hl
  show W p l e rmM_readsDigit s m args below meth c s.heap [] 0 0 (MQ below (qW E (some .boolean) (some (.int t.1)) (wM E ad x) (wM E ad (x.1, x.2.1, x.2.2.1, x.2.2.2.1, x.2.2.2.2.1, x.2.2.2.2.2.1, x.2.2.2.2.2.2.1, x.2.2.2.2.2.2.2.1, x.2.2.2.2.2.2.2.2.1, x.2.2.2.2.2.2.2.2.2.1, x.2.2.2.2.2.2.2.2.2.2.1, x.2.2.2.2.2.2.2.2.2.2.2.1, x.2.2.2.2.2.2.2.2.2.2.2.2.1, x.2.2.2.2.2.2.2.2.2.2.2.2.2.1, x.2.2.2.2.2.2.2.2.2.2.2.2.2.2.1, x.2.2.2.2.2.2.2.2.2.2.2.2.2.2.2.1, t.2.1, t.2.2, x.2.2.2.2.2.2.2.2.2.2.2.2.2.2.2.2.2.2))) args s 0 0 (adr (wM E ad x))) (F0 m 0 ls [])
  suffices hmain : ∀ (H : Heap) (locs : List Loc), Hp E (adr (wM E ad x)) (wM E ad x) s.heap H locs → W p l e rmM_readsDigit s m args below meth c H locs 0 0 (MQ below (qW E (some .boolean) (some (.int t.1)) (wM E ad x) (wM E ad (x.1, x.2.1, x.2.2.1, x.2.2.2.1, x.2.2.2.2.1, x.2.2.2.2.2.1, x.2.2.2.2.2.2.1, x.2.2.2.2.2.2.2.1, x.2.2.2.2.2.2.2.2.1, x.2.2.2.2.2.2.2.2.2.1, x.2.2.2.2.2.2.2.2.2.2.1, x.2.2.2.2.2.2.2.2.2.2.2.1, x.2.2.2.2.2.2.2.2.2.2.2.2.1, x.2.2.2.2.2.2.2.2.2.2.2.2.2.1, x.2.2.2.2.2.2.2.2.2.2.2.2.2.2.1, x.2.2.2.2.2.2.2.2.2.2.2.2.2.2.2.1, t.2.1, t.2.2, x.2.2.2.2.2.2.2.2.2.2.2.2.2.2.2.2.2.2))) args s 0 0 (adr (wM E ad x))) (F0 m 0 ls []) from hmain _ _ hH
  clear hH
  intro H locs hH
  rw [fM_readsDigit] at hf
  refine lv_aload_n hx hb dX9_readsDigit_0 rfl (lv_at hl 0 rfl) ?_
  obtain ⟨t1, ht1, hf⟩ := ob hf
  refine k_PVi hC LX9_204 ⟨Nat.le_of_ble_eq_true rfl, Nat.le_of_ble_eq_true rfl⟩ ⟨Nat.zero_le _, Nat.zero_le _⟩ (cM_sign l E ad x t1 ht1) rfl rfl hH.1 rfl rfl hl.1 rfl (Nat.le_of_ble_eq_true rfl) rfl dX9_readsDigit_1 (fun hz1 => ?_)
  refine lv_bipush (v := 48) hx hb dX9_readsDigit_4 (by decide) ?_
  refine lv_bipush (v := 57) hx hb dX9_readsDigit_6 (by decide) ?_
  refine k_PSi hC LX9_60 ⟨Nat.le_of_ble_eq_true rfl, Nat.le_of_ble_eq_true rfl⟩ ⟨Nat.zero_le _, Nat.zero_le _⟩ (cM_isBetween l E t1 (48 : Int32) (57 : Int32) _ rfl) rfl rfl (vP_nil) hl.1 rfl (Nat.le_of_ble_eq_true rfl) rfl dX9_readsDigit_8 (fun hz8 => ?_)
  refine lv_if_ne (tgt := 16) hx hb dX9_readsDigit_11 (by decide) (fun c2 => ?_) (fun c2 => ?_)
  · have hf := ite_f hf c2
    refine lv_aload_n hx hb dX9_readsDigit_16 rfl (lv_at hl 0 rfl) ?_
    refine gX9_32 hC hH.1 0 rfl (v := .ref (ad 8)) rfl dX9_readsDigit_17 ?_
    refine lv_iload_n hx hb dX9_readsDigit_20 rfl (lv_at hl 1 rfl) ?_
    refine lv_aload_n hx hb dX9_readsDigit_21 rfl (lv_at hl 0 rfl) ?_
    obtain ⟨t3, ht3, hf⟩ := ob hf
    refine k_PVi hC LX9_204 ⟨Nat.le_of_ble_eq_true rfl, Nat.le_of_ble_eq_true rfl⟩ ⟨Nat.zero_le _, Nat.zero_le _⟩ (cM_sign l E ad x t3 ht3) rfl rfl hH.1 rfl rfl hl.1 rfl (Nat.le_of_ble_eq_true rfl) rfl dX9_readsDigit_22 (fun hz22 => ?_)
    refine lv_bipush (v := 48) hx hb dX9_readsDigit_25 (by decide) ?_
    refine lv_isub hx hb dX9_readsDigit_27 ?_
    obtain ⟨g4, hg4, hf⟩ := ob hf
    obtain ⟨hg4a, hg4b⟩ := stA_ok hg4
    refine a_ist hC hH 8 rfl hg4a hg4b (W1 := wM E ad (x.1, x.2.1, x.2.2.1, x.2.2.2.1, x.2.2.2.2.1, x.2.2.2.2.2.1, x.2.2.2.2.2.2.1, x.2.2.2.2.2.2.2.1, x.2.2.2.2.2.2.2.2.1, x.2.2.2.2.2.2.2.2.2.1, x.2.2.2.2.2.2.2.2.2.2.1, x.2.2.2.2.2.2.2.2.2.2.2.1, x.2.2.2.2.2.2.2.2.2.2.2.2.1, x.2.2.2.2.2.2.2.2.2.2.2.2.2.1, x.2.2.2.2.2.2.2.2.2.2.2.2.2.2.1, x.2.2.2.2.2.2.2.2.2.2.2.2.2.2.2.1, x.2.2.2.2.2.2.2.2.2.2.2.2.2.2.2.2.1, g4, x.2.2.2.2.2.2.2.2.2.2.2.2.2.2.2.2.2.2)) rfl dX9_readsDigit_28 (fun H locs hH => ?_)
    refine lv_aload_n hx hb dX9_readsDigit_29 rfl (lv_at hl 0 rfl) ?_
    refine lv_dup hx hb dX9_readsDigit_30 rfl ?_
    refine gX9_201 hC hH.1 0 rfl (v := .int x.2.2.2.2.2.2.2.2.2.2.2.2.2.2.2.2.1) rfl dX9_readsDigit_31 ?_
    refine lv_iconst (v := 1) hx hb dX9_readsDigit_34 (by decide) ?_
    refine lv_iadd hx hb dX9_readsDigit_35 ?_
    refine pX9_201 hC hH 0 rfl (v := .int (x.2.2.2.2.2.2.2.2.2.2.2.2.2.2.2.2.1 + (1 : Int32))) rfl rfl (Nat.le_of_ble_eq_true rfl) (W1 := wM E ad (x.1, x.2.1, x.2.2.1, x.2.2.2.1, x.2.2.2.2.1, x.2.2.2.2.2.1, x.2.2.2.2.2.2.1, x.2.2.2.2.2.2.2.1, x.2.2.2.2.2.2.2.2.1, x.2.2.2.2.2.2.2.2.2.1, x.2.2.2.2.2.2.2.2.2.2.1, x.2.2.2.2.2.2.2.2.2.2.2.1, x.2.2.2.2.2.2.2.2.2.2.2.2.1, x.2.2.2.2.2.2.2.2.2.2.2.2.2.1, x.2.2.2.2.2.2.2.2.2.2.2.2.2.2.1, x.2.2.2.2.2.2.2.2.2.2.2.2.2.2.2.1, (x.2.2.2.2.2.2.2.2.2.2.2.2.2.2.2.2.1 + (1 : Int32)), g4, x.2.2.2.2.2.2.2.2.2.2.2.2.2.2.2.2.2.2)) rfl dX9_readsDigit_36 (fun H locs hH => ?_)
    refine lv_iconst (v := 1) hx hb dX9_readsDigit_39 (by decide) ?_
    cases hf
    exact e_Wz hC hH hr hlocks rfl rfl rfl dX9_readsDigit_40
  · have hf := ite_t hf c2
    refine lv_iconst (v := 0) hx hb dX9_readsDigit_14 (by decide) ?_
    cases hf
    exact e_Wz hC hH hr hlocks rfl rfl rfl dX9_readsDigit_15
abbrev rmM_readsNumber : Room := { frames := 2, cells := 0, slots := 0, locals := 43 }
set_option maxHeartbeats 4000000 in
set_option maxRecDepth 100000 in
theorem cM_readsNumber (l : Launch) (E : eE) (ad : Nat → Nat) (x : TM) (a1 : Int32) (t : Int32 × Int32 × (Nat → Int32)) (hf : fM_readsNumber x.2.2.2.2.2.2.2.2.2.2.2.2.2.2.1 x.2.2.2.2.2.2.2.2.2.2.2.2.2.2.2.1 x.2.2.2.2.2.2.2.2.2.2.2.2.2.2.2.2.1 x.2.2.2.2.2.2.2.2.2.2.2.2.2.2.2.2.2.1 a1 = some t) : cW l E yX9_readsNumber cX9_readsNumber 3 (some .boolean) rmM_readsNumber [.ref (ad 0), .int a1] (wM E ad x) (some (.int t.1)) (wM E ad (x.1, x.2.1, x.2.2.1, x.2.2.2.1, x.2.2.2.2.1, x.2.2.2.2.2.1, x.2.2.2.2.2.2.1, x.2.2.2.2.2.2.2.1, x.2.2.2.2.2.2.2.2.1, x.2.2.2.2.2.2.2.2.2.1, x.2.2.2.2.2.2.2.2.2.2.1, x.2.2.2.2.2.2.2.2.2.2.2.1, x.2.2.2.2.2.2.2.2.2.2.2.2.1, x.2.2.2.2.2.2.2.2.2.2.2.2.2.1, x.2.2.2.2.2.2.2.2.2.2.2.2.2.2.1, x.2.2.2.2.2.2.2.2.2.2.2.2.2.2.2.1, t.2.1, t.2.2, x.2.2.2.2.2.2.2.2.2.2.2.2.2.2.2.2.2.2)) := by
  refine Met.ofW (cc := cX9_readsNumber) (maxL := 3) (ret := (some .boolean)) (by decide) rfl ?_
  intro p e s m args below meth c s₁ B hml hv
  obtain ⟨hargs, hP, hK, hD0⟩ := hv
  have hx := B.exec
  have hb := B.bytes
  have hr := B.returns
  have hts := atoms_spec (ws := ws_ yX9_readsNumber cX9_readsNumber 3 (some .boolean)) B.pre
  have hta : ∀ w ∈ lw_all, w.before args s = true := fun w h => hts w (List.mem_cons_of_mem _ h)
  have hown : s.vm.findClass RX9 = some m.cls := findClass_of_methodNamed B.named
  have hlocks := B.notSynchronized
  have hC : Cx p s m args c cX9_readsNumber 3 RX9 E := ⟨hx, hb, hml, hown, hta, hK⟩
  have hH : Hp E (adr (wM E ad x)) (wM E ad x) s.heap s.heap [] := Hp.start hP hD0
  obtain ⟨ls, he, hl⟩ := entry_ (m := m) (n := 3) hargs (Nat.le_of_ble_eq_true rfl)
  rw [he]
  have hl : lv_has ls 3 [(0, .ref (ad 0)), (1, .int a1)] := hl
  show W p l e rmM_readsNumber s m args below meth c s.heap [] 0 0 (MQ below (qW E (some .boolean) (some (.int t.1)) (wM E ad x) (wM E ad (x.1, x.2.1, x.2.2.1, x.2.2.2.1, x.2.2.2.2.1, x.2.2.2.2.2.1, x.2.2.2.2.2.2.1, x.2.2.2.2.2.2.2.1, x.2.2.2.2.2.2.2.2.1, x.2.2.2.2.2.2.2.2.2.1, x.2.2.2.2.2.2.2.2.2.2.1, x.2.2.2.2.2.2.2.2.2.2.2.1, x.2.2.2.2.2.2.2.2.2.2.2.2.1, x.2.2.2.2.2.2.2.2.2.2.2.2.2.1, x.2.2.2.2.2.2.2.2.2.2.2.2.2.2.1, x.2.2.2.2.2.2.2.2.2.2.2.2.2.2.2.1, t.2.1, t.2.2, x.2.2.2.2.2.2.2.2.2.2.2.2.2.2.2.2.2.2))) args s 0 0 (adr (wM E ad x))) (F0 m 0 ls [])
  suffices hmain : ∀ (H : Heap) (locs : List Loc), Hp E (adr (wM E ad x)) (wM E ad x) s.heap H locs → W p l e rmM_readsNumber s m args below meth c H locs 0 0 (MQ below (qW E (some .boolean) (some (.int t.1)) (wM E ad x) (wM E ad (x.1, x.2.1, x.2.2.1, x.2.2.2.1, x.2.2.2.2.1, x.2.2.2.2.2.1, x.2.2.2.2.2.2.1, x.2.2.2.2.2.2.2.1, x.2.2.2.2.2.2.2.2.1, x.2.2.2.2.2.2.2.2.2.1, x.2.2.2.2.2.2.2.2.2.2.1, x.2.2.2.2.2.2.2.2.2.2.2.1, x.2.2.2.2.2.2.2.2.2.2.2.2.1, x.2.2.2.2.2.2.2.2.2.2.2.2.2.1, x.2.2.2.2.2.2.2.2.2.2.2.2.2.2.1, x.2.2.2.2.2.2.2.2.2.2.2.2.2.2.2.1, t.2.1, t.2.2, x.2.2.2.2.2.2.2.2.2.2.2.2.2.2.2.2.2.2))) args s 0 0 (adr (wM E ad x))) (F0 m 0 ls []) from hmain _ _ hH
  clear hH
  intro H locs hH
  rw [fM_readsNumber] at hf
  refine lv_aload_n hx hb dX9_readsNumber_0 rfl (lv_at hl 0 rfl) ?_
  refine lv_bipush (v := 32) hx hb dX9_readsNumber_1 (by decide) ?_
  obtain ⟨t1, ht1, hf⟩ := ob hf
  refine k_WVsi hC LX9_207 ⟨Nat.le_of_ble_eq_true rfl, Nat.le_of_ble_eq_true rfl⟩ ⟨Nat.zero_le _, Nat.zero_le _⟩ (cM_reads l E ad x (32 : Int32) t1 ht1) rfl rfl hH rfl rfl rfl hl.1 rfl (Nat.le_of_ble_eq_true rfl) rfl dX9_readsNumber_3 (fun H locs hz3 hH => ?_)
  have hH : Hp E (adr (wM E ad x)) (wM E ad (x.1, x.2.1, x.2.2.1, x.2.2.2.1, x.2.2.2.2.1, x.2.2.2.2.2.1, x.2.2.2.2.2.2.1, x.2.2.2.2.2.2.2.1, x.2.2.2.2.2.2.2.2.1, x.2.2.2.2.2.2.2.2.2.1, x.2.2.2.2.2.2.2.2.2.2.1, x.2.2.2.2.2.2.2.2.2.2.2.1, x.2.2.2.2.2.2.2.2.2.2.2.2.1, x.2.2.2.2.2.2.2.2.2.2.2.2.2.1, x.2.2.2.2.2.2.2.2.2.2.2.2.2.2.1, x.2.2.2.2.2.2.2.2.2.2.2.2.2.2.2.1, t1.2, x.2.2.2.2.2.2.2.2.2.2.2.2.2.2.2.2.2)) s.heap H locs := hH
  refine lv_if_eq (tgt := 17) hx hb dX9_readsNumber_6 (by decide) (fun c2 => ?_) (fun c2 => ?_)
  · have hf := ite_t hf c2
    refine lv_iconst (v := 0) hx hb dX9_readsNumber_17 (by decide) ?_
    cases hf
    exact e_Wz hC hH hr hlocks rfl rfl rfl dX9_readsNumber_18
  · have hf := ite_f hf c2
    refine lv_aload_n hx hb dX9_readsNumber_9 rfl (lv_at hl 0 rfl) ?_
    refine lv_iload_n hx hb dX9_readsNumber_10 rfl (lv_at hl 1 rfl) ?_
    obtain ⟨t3, ht3, hf⟩ := ob hf
    refine k_WVsi hC LX9_210 ⟨Nat.le_of_ble_eq_true rfl, Nat.le_of_ble_eq_true rfl⟩ ⟨Nat.zero_le _, Nat.zero_le _⟩ (cM_readsDigit l E ad (x.1, x.2.1, x.2.2.1, x.2.2.2.1, x.2.2.2.2.1, x.2.2.2.2.2.1, x.2.2.2.2.2.2.1, x.2.2.2.2.2.2.2.1, x.2.2.2.2.2.2.2.2.1, x.2.2.2.2.2.2.2.2.2.1, x.2.2.2.2.2.2.2.2.2.2.1, x.2.2.2.2.2.2.2.2.2.2.2.1, x.2.2.2.2.2.2.2.2.2.2.2.2.1, x.2.2.2.2.2.2.2.2.2.2.2.2.2.1, x.2.2.2.2.2.2.2.2.2.2.2.2.2.2.1, x.2.2.2.2.2.2.2.2.2.2.2.2.2.2.2.1, t1.2, x.2.2.2.2.2.2.2.2.2.2.2.2.2.2.2.2.2) a1 t3 ht3) rfl rfl hH rfl rfl rfl hl.1 rfl (Nat.le_of_ble_eq_true rfl) rfl dX9_readsNumber_11 (fun H locs hz11 hH => ?_)
    have hH : Hp E (adr (wM E ad x)) (wM E ad (x.1, x.2.1, x.2.2.1, x.2.2.2.1, x.2.2.2.2.1, x.2.2.2.2.2.1, x.2.2.2.2.2.2.1, x.2.2.2.2.2.2.2.1, x.2.2.2.2.2.2.2.2.1, x.2.2.2.2.2.2.2.2.2.1, x.2.2.2.2.2.2.2.2.2.2.1, x.2.2.2.2.2.2.2.2.2.2.2.1, x.2.2.2.2.2.2.2.2.2.2.2.2.1, x.2.2.2.2.2.2.2.2.2.2.2.2.2.1, x.2.2.2.2.2.2.2.2.2.2.2.2.2.2.1, x.2.2.2.2.2.2.2.2.2.2.2.2.2.2.2.1, t3.2.1, t3.2.2, x.2.2.2.2.2.2.2.2.2.2.2.2.2.2.2.2.2.2)) s.heap H locs := hH
    refine lv_if_ne (tgt := 19) hx hb dX9_readsNumber_14 (by decide) (fun c4 => ?_) (fun c4 => ?_)
    · have hf := ite_f hf c4
      refine lv_aload_n hx hb dX9_readsNumber_19 rfl (lv_at hl 0 rfl) ?_
      refine gX9_32 hC hH.1 0 rfl (v := .ref (ad 8)) rfl dX9_readsNumber_20 ?_
      refine lv_iload_n hx hb dX9_readsNumber_23 rfl (lv_at hl 1 rfl) ?_
      obtain ⟨v5, hv5, hf⟩ := ob hf
      obtain ⟨hv5a, hv5b⟩ := ldA_ok hv5
      refine a_ild hC hH.1 8 rfl hv5a hv5b dX9_readsNumber_24 ?_
      refine lv_istore_n (lv' := [(2, .int v5), (0, .ref (ad 0)), (1, .int a1)]) hx hb dX9_readsNumber_25 rfl hl (by decide) rfl (fun ls hl => ?_)
      refine lv_aload_n hx hb dX9_readsNumber_26 rfl (lv_at hl 1 rfl) ?_
      refine lv_iload_n hx hb dX9_readsNumber_27 rfl (lv_at hl 2 rfl) ?_
      obtain ⟨t6, ht6, hf⟩ := ob hf
      refine k_WVsi hC LX9_210 ⟨Nat.le_of_ble_eq_true rfl, Nat.le_of_ble_eq_true rfl⟩ ⟨Nat.zero_le _, Nat.zero_le _⟩ (cM_readsDigit l E ad (x.1, x.2.1, x.2.2.1, x.2.2.2.1, x.2.2.2.2.1, x.2.2.2.2.2.1, x.2.2.2.2.2.2.1, x.2.2.2.2.2.2.2.1, x.2.2.2.2.2.2.2.2.1, x.2.2.2.2.2.2.2.2.2.1, x.2.2.2.2.2.2.2.2.2.2.1, x.2.2.2.2.2.2.2.2.2.2.2.1, x.2.2.2.2.2.2.2.2.2.2.2.2.1, x.2.2.2.2.2.2.2.2.2.2.2.2.2.1, x.2.2.2.2.2.2.2.2.2.2.2.2.2.2.1, x.2.2.2.2.2.2.2.2.2.2.2.2.2.2.2.1, t3.2.1, t3.2.2, x.2.2.2.2.2.2.2.2.2.2.2.2.2.2.2.2.2.2) a1 t6 ht6) rfl rfl hH rfl rfl rfl hl.1 rfl (Nat.le_of_ble_eq_true rfl) rfl dX9_readsNumber_28 (fun H locs hz28 hH => ?_)
      have hH : Hp E (adr (wM E ad x)) (wM E ad (x.1, x.2.1, x.2.2.1, x.2.2.2.1, x.2.2.2.2.1, x.2.2.2.2.2.1, x.2.2.2.2.2.2.1, x.2.2.2.2.2.2.2.1, x.2.2.2.2.2.2.2.2.1, x.2.2.2.2.2.2.2.2.2.1, x.2.2.2.2.2.2.2.2.2.2.1, x.2.2.2.2.2.2.2.2.2.2.2.1, x.2.2.2.2.2.2.2.2.2.2.2.2.1, x.2.2.2.2.2.2.2.2.2.2.2.2.2.1, x.2.2.2.2.2.2.2.2.2.2.2.2.2.2.1, x.2.2.2.2.2.2.2.2.2.2.2.2.2.2.2.1, t6.2.1, t6.2.2, x.2.2.2.2.2.2.2.2.2.2.2.2.2.2.2.2.2.2)) s.heap H locs := hH
      refine lv_if_eq (tgt := 47) hx hb dX9_readsNumber_31 (by decide) (fun c7 => ?_) (fun c7 => ?_)
      · have hf := ite_t hf c7
        refine lv_iconst (v := 1) hx hb dX9_readsNumber_47 (by decide) ?_
        cases hf
        exact e_Wz hC hH hr hlocks rfl rfl rfl dX9_readsNumber_48
      · have hf := ite_f hf c7
        refine lv_aload_n hx hb dX9_readsNumber_34 rfl (lv_at hl 1 rfl) ?_
        refine gX9_32 hC hH.1 0 rfl (v := .ref (ad 8)) rfl dX9_readsNumber_35 ?_
        refine lv_iload_n hx hb dX9_readsNumber_38 rfl (lv_at hl 2 rfl) ?_
        refine lv_dup2_11 hx hb dX9_readsNumber_39 rfl rfl ?_
        obtain ⟨v8, hv8, hf⟩ := ob hf
        obtain ⟨hv8a, hv8b⟩ := ldA_ok hv8
        refine a_ild hC hH.1 8 rfl hv8a hv8b dX9_readsNumber_40 ?_
        refine lv_bipush (v := 10) hx hb dX9_readsNumber_41 (by decide) ?_
        refine lv_iload_n hx hb dX9_readsNumber_43 rfl (lv_at hl 0 rfl) ?_
        refine lv_imul hx hb dX9_readsNumber_44 ?_
        refine lv_iadd hx hb dX9_readsNumber_45 ?_
        obtain ⟨g9, hg9, hf⟩ := ob hf
        obtain ⟨hg9a, hg9b⟩ := stA_ok hg9
        refine a_ist hC hH 8 rfl hg9a hg9b (W1 := wM E ad (x.1, x.2.1, x.2.2.1, x.2.2.2.1, x.2.2.2.2.1, x.2.2.2.2.2.1, x.2.2.2.2.2.2.1, x.2.2.2.2.2.2.2.1, x.2.2.2.2.2.2.2.2.1, x.2.2.2.2.2.2.2.2.2.1, x.2.2.2.2.2.2.2.2.2.2.1, x.2.2.2.2.2.2.2.2.2.2.2.1, x.2.2.2.2.2.2.2.2.2.2.2.2.1, x.2.2.2.2.2.2.2.2.2.2.2.2.2.1, x.2.2.2.2.2.2.2.2.2.2.2.2.2.2.1, x.2.2.2.2.2.2.2.2.2.2.2.2.2.2.2.1, t6.2.1, g9, x.2.2.2.2.2.2.2.2.2.2.2.2.2.2.2.2.2.2)) rfl dX9_readsNumber_46 (fun H locs hH => ?_)
        refine lv_iconst (v := 1) hx hb dX9_readsNumber_47 (by decide) ?_
        cases hf
        exact e_Wz hC hH hr hlocks rfl rfl rfl dX9_readsNumber_48
    · have hf := ite_t hf c4
      refine lv_iconst (v := 0) hx hb dX9_readsNumber_17 (by decide) ?_
      cases hf
      exact e_Wz hC hH hr hlocks rfl rfl rfl dX9_readsNumber_18
abbrev rmM_readsOrder : Room := { frames := 3, cells := 0, slots := 0, locals := 65 }
set_option maxHeartbeats 4000000 in
set_option maxRecDepth 100000 in
theorem cM_readsOrder (l : Launch) (E : eE) (ad : Nat → Nat) (x : TM) (t : Int32 × Int32 × (Nat → Int32) × Int32) (hf : fM_readsOrder x.2.2.2.2.2.2.2.2.2.2.2.2.2.2.1 x.2.2.2.2.2.2.2.2.2.2.2.2.2.2.2.1 x.2.2.2.2.2.2.2.2.2.2.2.2.2.2.2.2.1 x.2.2.2.2.2.2.2.2.2.2.2.2.2.2.2.2.2.1 x.2.2.2.2.2.2.2.2.2.2.2.2.2.2.2.2.2.2.1 = some t) : cW l E yX9_readsOrder cX9_readsOrder 1 (some .boolean) rmM_readsOrder [.ref (ad 0)] (wM E ad x) (some (.int t.1)) (wM E ad (x.1, x.2.1, x.2.2.1, x.2.2.2.1, x.2.2.2.2.1, x.2.2.2.2.2.1, x.2.2.2.2.2.2.1, x.2.2.2.2.2.2.2.1, x.2.2.2.2.2.2.2.2.1, x.2.2.2.2.2.2.2.2.2.1, x.2.2.2.2.2.2.2.2.2.2.1, x.2.2.2.2.2.2.2.2.2.2.2.1, x.2.2.2.2.2.2.2.2.2.2.2.2.1, x.2.2.2.2.2.2.2.2.2.2.2.2.2.1, x.2.2.2.2.2.2.2.2.2.2.2.2.2.2.1, x.2.2.2.2.2.2.2.2.2.2.2.2.2.2.2.1, t.2.1, t.2.2.1, t.2.2.2, x.2.2.2.2.2.2.2.2.2.2.2.2.2.2.2.2.2.2.2)) := by
  refine Met.ofW (cc := cX9_readsOrder) (maxL := 1) (ret := (some .boolean)) (by decide) rfl ?_
  intro p e s m args below meth c s₁ B hml hv
  obtain ⟨hargs, hP, hK, hD0⟩ := hv
  have hx := B.exec
  have hb := B.bytes
  have hr := B.returns
  have hts := atoms_spec (ws := ws_ yX9_readsOrder cX9_readsOrder 1 (some .boolean)) B.pre
  have hta : ∀ w ∈ lw_all, w.before args s = true := fun w h => hts w (List.mem_cons_of_mem _ h)
  have hown : s.vm.findClass RX9 = some m.cls := findClass_of_methodNamed B.named
  have hlocks := B.notSynchronized
  have hC : Cx p s m args c cX9_readsOrder 1 RX9 E := ⟨hx, hb, hml, hown, hta, hK⟩
  have hH : Hp E (adr (wM E ad x)) (wM E ad x) s.heap s.heap [] := Hp.start hP hD0
  obtain ⟨ls, he, hl⟩ := entry_ (m := m) (n := 1) hargs (Nat.le_of_ble_eq_true rfl)
  rw [he]
  have hl : lv_has ls 1 [(0, .ref (ad 0))] := hl
  show W p l e rmM_readsOrder s m args below meth c s.heap [] 0 0 (MQ below (qW E (some .boolean) (some (.int t.1)) (wM E ad x) (wM E ad (x.1, x.2.1, x.2.2.1, x.2.2.2.1, x.2.2.2.2.1, x.2.2.2.2.2.1, x.2.2.2.2.2.2.1, x.2.2.2.2.2.2.2.1, x.2.2.2.2.2.2.2.2.1, x.2.2.2.2.2.2.2.2.2.1, x.2.2.2.2.2.2.2.2.2.2.1, x.2.2.2.2.2.2.2.2.2.2.2.1, x.2.2.2.2.2.2.2.2.2.2.2.2.1, x.2.2.2.2.2.2.2.2.2.2.2.2.2.1, x.2.2.2.2.2.2.2.2.2.2.2.2.2.2.1, x.2.2.2.2.2.2.2.2.2.2.2.2.2.2.2.1, t.2.1, t.2.2.1, t.2.2.2, x.2.2.2.2.2.2.2.2.2.2.2.2.2.2.2.2.2.2.2))) args s 0 0 (adr (wM E ad x))) (F0 m 0 ls [])
  suffices hmain : ∀ (H : Heap) (locs : List Loc), Hp E (adr (wM E ad x)) (wM E ad x) s.heap H locs → W p l e rmM_readsOrder s m args below meth c H locs 0 0 (MQ below (qW E (some .boolean) (some (.int t.1)) (wM E ad x) (wM E ad (x.1, x.2.1, x.2.2.1, x.2.2.2.1, x.2.2.2.2.1, x.2.2.2.2.2.1, x.2.2.2.2.2.2.1, x.2.2.2.2.2.2.2.1, x.2.2.2.2.2.2.2.2.1, x.2.2.2.2.2.2.2.2.2.1, x.2.2.2.2.2.2.2.2.2.2.1, x.2.2.2.2.2.2.2.2.2.2.2.1, x.2.2.2.2.2.2.2.2.2.2.2.2.1, x.2.2.2.2.2.2.2.2.2.2.2.2.2.1, x.2.2.2.2.2.2.2.2.2.2.2.2.2.2.1, x.2.2.2.2.2.2.2.2.2.2.2.2.2.2.2.1, t.2.1, t.2.2.1, t.2.2.2, x.2.2.2.2.2.2.2.2.2.2.2.2.2.2.2.2.2.2.2))) args s 0 0 (adr (wM E ad x))) (F0 m 0 ls []) from hmain _ _ hH
  clear hH
  intro H locs hH
  rw [fM_readsOrder] at hf
  refine lv_aload_n hx hb dX9_readsOrder_0 rfl (lv_at hl 0 rfl) ?_
  refine lv_aload_n hx hb dX9_readsOrder_1 rfl (lv_at hl 0 rfl) ?_
  obtain ⟨t1, ht1, hf⟩ := ob hf
  refine k_PVi hC LX9_204 ⟨Nat.le_of_ble_eq_true rfl, Nat.le_of_ble_eq_true rfl⟩ ⟨Nat.zero_le _, Nat.zero_le _⟩ (cM_sign l E ad x t1 ht1) rfl rfl hH.1 rfl rfl hl.1 rfl (Nat.le_of_ble_eq_true rfl) rfl dX9_readsOrder_2 (fun hz2 => ?_)
  refine pX9_213 hC hH 0 rfl (v := .int t1) rfl rfl (Nat.le_of_ble_eq_true rfl) (W1 := wM E ad (x.1, x.2.1, x.2.2.1, x.2.2.2.1, x.2.2.2.2.1, x.2.2.2.2.2.1, x.2.2.2.2.2.2.1, x.2.2.2.2.2.2.2.1, x.2.2.2.2.2.2.2.2.1, x.2.2.2.2.2.2.2.2.2.1, x.2.2.2.2.2.2.2.2.2.2.1, x.2.2.2.2.2.2.2.2.2.2.2.1, x.2.2.2.2.2.2.2.2.2.2.2.2.1, x.2.2.2.2.2.2.2.2.2.2.2.2.2.1, x.2.2.2.2.2.2.2.2.2.2.2.2.2.2.1, x.2.2.2.2.2.2.2.2.2.2.2.2.2.2.2.1, x.2.2.2.2.2.2.2.2.2.2.2.2.2.2.2.2.1, x.2.2.2.2.2.2.2.2.2.2.2.2.2.2.2.2.2.1, t1, x.2.2.2.2.2.2.2.2.2.2.2.2.2.2.2.2.2.2.2)) rfl dX9_readsOrder_5 (fun H locs hH => ?_)
  refine lv_aload_n hx hb dX9_readsOrder_8 rfl (lv_at hl 0 rfl) ?_
  refine lv_dup hx hb dX9_readsOrder_9 rfl ?_
  refine gX9_201 hC hH.1 0 rfl (v := .int x.2.2.2.2.2.2.2.2.2.2.2.2.2.2.2.2.1) rfl dX9_readsOrder_10 ?_
  refine lv_iconst (v := 1) hx hb dX9_readsOrder_13 (by decide) ?_
  refine lv_iadd hx hb dX9_readsOrder_14 ?_
  refine pX9_201 hC hH 0 rfl (v := .int (x.2.2.2.2.2.2.2.2.2.2.2.2.2.2.2.2.1 + (1 : Int32))) rfl rfl (Nat.le_of_ble_eq_true rfl) (W1 := wM E ad (x.1, x.2.1, x.2.2.1, x.2.2.2.1, x.2.2.2.2.1, x.2.2.2.2.2.1, x.2.2.2.2.2.2.1, x.2.2.2.2.2.2.2.1, x.2.2.2.2.2.2.2.2.1, x.2.2.2.2.2.2.2.2.2.1, x.2.2.2.2.2.2.2.2.2.2.1, x.2.2.2.2.2.2.2.2.2.2.2.1, x.2.2.2.2.2.2.2.2.2.2.2.2.1, x.2.2.2.2.2.2.2.2.2.2.2.2.2.1, x.2.2.2.2.2.2.2.2.2.2.2.2.2.2.1, x.2.2.2.2.2.2.2.2.2.2.2.2.2.2.2.1, (x.2.2.2.2.2.2.2.2.2.2.2.2.2.2.2.2.1 + (1 : Int32)), x.2.2.2.2.2.2.2.2.2.2.2.2.2.2.2.2.2.1, t1, x.2.2.2.2.2.2.2.2.2.2.2.2.2.2.2.2.2.2.2)) rfl dX9_readsOrder_15 (fun H locs hH => ?_)
  refine lv_aload_n hx hb dX9_readsOrder_18 rfl (lv_at hl 0 rfl) ?_
  refine gX9_213 hC hH.1 0 rfl (v := .int t1) rfl dX9_readsOrder_19 ?_
  by_cases c22_0 : t1 = (99 : Int32)
  · have hf := ite_t hf c22_0
    have e9 : (t1).toInt = 99 := by rw [c22_0]; decide
    refine lv_tableIn (tgt := 281) hx hb dX9_readsOrder_22 (by omega) (by omega) (by rw [e9]; rfl) (by decide) ?_
    refine lv_aload_n hx hb dX9_readsOrder_281 rfl (lv_at hl 0 rfl) ?_
    refine lv_bipush (v := 108) hx hb dX9_readsOrder_282 (by decide) ?_
    obtain ⟨t2, ht2, hf⟩ := ob hf
    refine k_WVsi hC LX9_207 ⟨Nat.le_of_ble_eq_true rfl, Nat.le_of_ble_eq_true rfl⟩ ⟨Nat.zero_le _, Nat.zero_le _⟩ (cM_reads l E ad (x.1, x.2.1, x.2.2.1, x.2.2.2.1, x.2.2.2.2.1, x.2.2.2.2.2.1, x.2.2.2.2.2.2.1, x.2.2.2.2.2.2.2.1, x.2.2.2.2.2.2.2.2.1, x.2.2.2.2.2.2.2.2.2.1, x.2.2.2.2.2.2.2.2.2.2.1, x.2.2.2.2.2.2.2.2.2.2.2.1, x.2.2.2.2.2.2.2.2.2.2.2.2.1, x.2.2.2.2.2.2.2.2.2.2.2.2.2.1, x.2.2.2.2.2.2.2.2.2.2.2.2.2.2.1, x.2.2.2.2.2.2.2.2.2.2.2.2.2.2.2.1, (x.2.2.2.2.2.2.2.2.2.2.2.2.2.2.2.2.1 + (1 : Int32)), x.2.2.2.2.2.2.2.2.2.2.2.2.2.2.2.2.2.1, t1, x.2.2.2.2.2.2.2.2.2.2.2.2.2.2.2.2.2.2.2) (108 : Int32) t2 ht2) rfl rfl hH rfl rfl rfl hl.1 rfl (Nat.le_of_ble_eq_true rfl) rfl dX9_readsOrder_284 (fun H locs hz284 hH => ?_)
    have hH : Hp E (adr (wM E ad x)) (wM E ad (x.1, x.2.1, x.2.2.1, x.2.2.2.1, x.2.2.2.2.1, x.2.2.2.2.2.1, x.2.2.2.2.2.2.1, x.2.2.2.2.2.2.2.1, x.2.2.2.2.2.2.2.2.1, x.2.2.2.2.2.2.2.2.2.1, x.2.2.2.2.2.2.2.2.2.2.1, x.2.2.2.2.2.2.2.2.2.2.2.1, x.2.2.2.2.2.2.2.2.2.2.2.2.1, x.2.2.2.2.2.2.2.2.2.2.2.2.2.1, x.2.2.2.2.2.2.2.2.2.2.2.2.2.2.1, x.2.2.2.2.2.2.2.2.2.2.2.2.2.2.2.1, t2.2, x.2.2.2.2.2.2.2.2.2.2.2.2.2.2.2.2.2.1, t1, x.2.2.2.2.2.2.2.2.2.2.2.2.2.2.2.2.2.2.2)) s.heap H locs := hH
    refine lv_if_eq (tgt := 329) hx hb dX9_readsOrder_287 (by decide) (fun c3 => ?_) (fun c3 => ?_)
    · have hf := ite_t hf c3
      refine lv_iconst (v := 0) hx hb dX9_readsOrder_329 (by decide) ?_
      cases hf
      exact e_Wz hC hH hr hlocks rfl rfl rfl dX9_readsOrder_330
    · have hf := ite_f hf c3
      refine lv_aload_n hx hb dX9_readsOrder_290 rfl (lv_at hl 0 rfl) ?_
      refine lv_bipush (v := 101) hx hb dX9_readsOrder_291 (by decide) ?_
      obtain ⟨t4, ht4, hf⟩ := ob hf
      refine k_WVsi hC LX9_207 ⟨Nat.le_of_ble_eq_true rfl, Nat.le_of_ble_eq_true rfl⟩ ⟨Nat.zero_le _, Nat.zero_le _⟩ (cM_reads l E ad (x.1, x.2.1, x.2.2.1, x.2.2.2.1, x.2.2.2.2.1, x.2.2.2.2.2.1, x.2.2.2.2.2.2.1, x.2.2.2.2.2.2.2.1, x.2.2.2.2.2.2.2.2.1, x.2.2.2.2.2.2.2.2.2.1, x.2.2.2.2.2.2.2.2.2.2.1, x.2.2.2.2.2.2.2.2.2.2.2.1, x.2.2.2.2.2.2.2.2.2.2.2.2.1, x.2.2.2.2.2.2.2.2.2.2.2.2.2.1, x.2.2.2.2.2.2.2.2.2.2.2.2.2.2.1, x.2.2.2.2.2.2.2.2.2.2.2.2.2.2.2.1, t2.2, x.2.2.2.2.2.2.2.2.2.2.2.2.2.2.2.2.2.1, t1, x.2.2.2.2.2.2.2.2.2.2.2.2.2.2.2.2.2.2.2) (101 : Int32) t4 ht4) rfl rfl hH rfl rfl rfl hl.1 rfl (Nat.le_of_ble_eq_true rfl) rfl dX9_readsOrder_293 (fun H locs hz293 hH => ?_)
      have hH : Hp E (adr (wM E ad x)) (wM E ad (x.1, x.2.1, x.2.2.1, x.2.2.2.1, x.2.2.2.2.1, x.2.2.2.2.2.1, x.2.2.2.2.2.2.1, x.2.2.2.2.2.2.2.1, x.2.2.2.2.2.2.2.2.1, x.2.2.2.2.2.2.2.2.2.1, x.2.2.2.2.2.2.2.2.2.2.1, x.2.2.2.2.2.2.2.2.2.2.2.1, x.2.2.2.2.2.2.2.2.2.2.2.2.1, x.2.2.2.2.2.2.2.2.2.2.2.2.2.1, x.2.2.2.2.2.2.2.2.2.2.2.2.2.2.1, x.2.2.2.2.2.2.2.2.2.2.2.2.2.2.2.1, t4.2, x.2.2.2.2.2.2.2.2.2.2.2.2.2.2.2.2.2.1, t1, x.2.2.2.2.2.2.2.2.2.2.2.2.2.2.2.2.2.2.2)) s.heap H locs := hH
      refine lv_if_eq (tgt := 329) hx hb dX9_readsOrder_296 (by decide) (fun c5 => ?_) (fun c5 => ?_)
      · have hf := ite_t hf c5
        refine lv_iconst (v := 0) hx hb dX9_readsOrder_329 (by decide) ?_
        cases hf
        exact e_Wz hC hH hr hlocks rfl rfl rfl dX9_readsOrder_330
      · have hf := ite_f hf c5
        refine lv_aload_n hx hb dX9_readsOrder_299 rfl (lv_at hl 0 rfl) ?_
        refine lv_bipush (v := 97) hx hb dX9_readsOrder_300 (by decide) ?_
        obtain ⟨t6, ht6, hf⟩ := ob hf
        refine k_WVsi hC LX9_207 ⟨Nat.le_of_ble_eq_true rfl, Nat.le_of_ble_eq_true rfl⟩ ⟨Nat.zero_le _, Nat.zero_le _⟩ (cM_reads l E ad (x.1, x.2.1, x.2.2.1, x.2.2.2.1, x.2.2.2.2.1, x.2.2.2.2.2.1, x.2.2.2.2.2.2.1, x.2.2.2.2.2.2.2.1, x.2.2.2.2.2.2.2.2.1, x.2.2.2.2.2.2.2.2.2.1, x.2.2.2.2.2.2.2.2.2.2.1, x.2.2.2.2.2.2.2.2.2.2.2.1, x.2.2.2.2.2.2.2.2.2.2.2.2.1, x.2.2.2.2.2.2.2.2.2.2.2.2.2.1, x.2.2.2.2.2.2.2.2.2.2.2.2.2.2.1, x.2.2.2.2.2.2.2.2.2.2.2.2.2.2.2.1, t4.2, x.2.2.2.2.2.2.2.2.2.2.2.2.2.2.2.2.2.1, t1, x.2.2.2.2.2.2.2.2.2.2.2.2.2.2.2.2.2.2.2) (97 : Int32) t6 ht6) rfl rfl hH rfl rfl rfl hl.1 rfl (Nat.le_of_ble_eq_true rfl) rfl dX9_readsOrder_302 (fun H locs hz302 hH => ?_)
        have hH : Hp E (adr (wM E ad x)) (wM E ad (x.1, x.2.1, x.2.2.1, x.2.2.2.1, x.2.2.2.2.1, x.2.2.2.2.2.1, x.2.2.2.2.2.2.1, x.2.2.2.2.2.2.2.1, x.2.2.2.2.2.2.2.2.1, x.2.2.2.2.2.2.2.2.2.1, x.2.2.2.2.2.2.2.2.2.2.1, x.2.2.2.2.2.2.2.2.2.2.2.1, x.2.2.2.2.2.2.2.2.2.2.2.2.1, x.2.2.2.2.2.2.2.2.2.2.2.2.2.1, x.2.2.2.2.2.2.2.2.2.2.2.2.2.2.1, x.2.2.2.2.2.2.2.2.2.2.2.2.2.2.2.1, t6.2, x.2.2.2.2.2.2.2.2.2.2.2.2.2.2.2.2.2.1, t1, x.2.2.2.2.2.2.2.2.2.2.2.2.2.2.2.2.2.2.2)) s.heap H locs := hH
        refine lv_if_eq (tgt := 329) hx hb dX9_readsOrder_305 (by decide) (fun c7 => ?_) (fun c7 => ?_)
        · have hf := ite_t hf c7
          refine lv_iconst (v := 0) hx hb dX9_readsOrder_329 (by decide) ?_
          cases hf
          exact e_Wz hC hH hr hlocks rfl rfl rfl dX9_readsOrder_330
        · have hf := ite_f hf c7
          refine lv_aload_n hx hb dX9_readsOrder_308 rfl (lv_at hl 0 rfl) ?_
          refine lv_bipush (v := 114) hx hb dX9_readsOrder_309 (by decide) ?_
          obtain ⟨t8, ht8, hf⟩ := ob hf
          refine k_WVsi hC LX9_207 ⟨Nat.le_of_ble_eq_true rfl, Nat.le_of_ble_eq_true rfl⟩ ⟨Nat.zero_le _, Nat.zero_le _⟩ (cM_reads l E ad (x.1, x.2.1, x.2.2.1, x.2.2.2.1, x.2.2.2.2.1, x.2.2.2.2.2.1, x.2.2.2.2.2.2.1, x.2.2.2.2.2.2.2.1, x.2.2.2.2.2.2.2.2.1, x.2.2.2.2.2.2.2.2.2.1, x.2.2.2.2.2.2.2.2.2.2.1, x.2.2.2.2.2.2.2.2.2.2.2.1, x.2.2.2.2.2.2.2.2.2.2.2.2.1, x.2.2.2.2.2.2.2.2.2.2.2.2.2.1, x.2.2.2.2.2.2.2.2.2.2.2.2.2.2.1, x.2.2.2.2.2.2.2.2.2.2.2.2.2.2.2.1, t6.2, x.2.2.2.2.2.2.2.2.2.2.2.2.2.2.2.2.2.1, t1, x.2.2.2.2.2.2.2.2.2.2.2.2.2.2.2.2.2.2.2) (114 : Int32) t8 ht8) rfl rfl hH rfl rfl rfl hl.1 rfl (Nat.le_of_ble_eq_true rfl) rfl dX9_readsOrder_311 (fun H locs hz311 hH => ?_)
          have hH : Hp E (adr (wM E ad x)) (wM E ad (x.1, x.2.1, x.2.2.1, x.2.2.2.1, x.2.2.2.2.1, x.2.2.2.2.2.1, x.2.2.2.2.2.2.1, x.2.2.2.2.2.2.2.1, x.2.2.2.2.2.2.2.2.1, x.2.2.2.2.2.2.2.2.2.1, x.2.2.2.2.2.2.2.2.2.2.1, x.2.2.2.2.2.2.2.2.2.2.2.1, x.2.2.2.2.2.2.2.2.2.2.2.2.1, x.2.2.2.2.2.2.2.2.2.2.2.2.2.1, x.2.2.2.2.2.2.2.2.2.2.2.2.2.2.1, x.2.2.2.2.2.2.2.2.2.2.2.2.2.2.2.1, t8.2, x.2.2.2.2.2.2.2.2.2.2.2.2.2.2.2.2.2.1, t1, x.2.2.2.2.2.2.2.2.2.2.2.2.2.2.2.2.2.2.2)) s.heap H locs := hH
          refine lv_if_eq (tgt := 329) hx hb dX9_readsOrder_314 (by decide) (fun c9 => ?_) (fun c9 => ?_)
          · have hf := ite_t hf c9
            refine lv_iconst (v := 0) hx hb dX9_readsOrder_329 (by decide) ?_
            cases hf
            exact e_Wz hC hH hr hlocks rfl rfl rfl dX9_readsOrder_330
          · have hf := ite_f hf c9
            refine lv_aload_n hx hb dX9_readsOrder_317 rfl (lv_at hl 0 rfl) ?_
            refine lv_iconst (v := 0) hx hb dX9_readsOrder_318 (by decide) ?_
            obtain ⟨t10, ht10, hf⟩ := ob hf
            refine k_WVsi hC LX9_216 ⟨Nat.le_of_ble_eq_true rfl, Nat.le_of_ble_eq_true rfl⟩ ⟨Nat.zero_le _, Nat.zero_le _⟩ (cM_readsNumber l E ad (x.1, x.2.1, x.2.2.1, x.2.2.2.1, x.2.2.2.2.1, x.2.2.2.2.2.1, x.2.2.2.2.2.2.1, x.2.2.2.2.2.2.2.1, x.2.2.2.2.2.2.2.2.1, x.2.2.2.2.2.2.2.2.2.1, x.2.2.2.2.2.2.2.2.2.2.1, x.2.2.2.2.2.2.2.2.2.2.2.1, x.2.2.2.2.2.2.2.2.2.2.2.2.1, x.2.2.2.2.2.2.2.2.2.2.2.2.2.1, x.2.2.2.2.2.2.2.2.2.2.2.2.2.2.1, x.2.2.2.2.2.2.2.2.2.2.2.2.2.2.2.1, t8.2, x.2.2.2.2.2.2.2.2.2.2.2.2.2.2.2.2.2.1, t1, x.2.2.2.2.2.2.2.2.2.2.2.2.2.2.2.2.2.2.2) (0 : Int32) t10 ht10) rfl rfl hH rfl rfl rfl hl.1 rfl (Nat.le_of_ble_eq_true rfl) rfl dX9_readsOrder_319 (fun H locs hz319 hH => ?_)
            have hH : Hp E (adr (wM E ad x)) (wM E ad (x.1, x.2.1, x.2.2.1, x.2.2.2.1, x.2.2.2.2.1, x.2.2.2.2.2.1, x.2.2.2.2.2.2.1, x.2.2.2.2.2.2.2.1, x.2.2.2.2.2.2.2.2.1, x.2.2.2.2.2.2.2.2.2.1, x.2.2.2.2.2.2.2.2.2.2.1, x.2.2.2.2.2.2.2.2.2.2.2.1, x.2.2.2.2.2.2.2.2.2.2.2.2.1, x.2.2.2.2.2.2.2.2.2.2.2.2.2.1, x.2.2.2.2.2.2.2.2.2.2.2.2.2.2.1, x.2.2.2.2.2.2.2.2.2.2.2.2.2.2.2.1, t10.2.1, t10.2.2, t1, x.2.2.2.2.2.2.2.2.2.2.2.2.2.2.2.2.2.2.2)) s.heap H locs := hH
            refine lv_if_eq (tgt := 329) hx hb dX9_readsOrder_322 (by decide) (fun c11 => ?_) (fun c11 => ?_)
            · have hf := ite_t hf c11
              refine lv_iconst (v := 0) hx hb dX9_readsOrder_329 (by decide) ?_
              cases hf
              exact e_Wz hC hH hr hlocks rfl rfl rfl dX9_readsOrder_330
            · have hf := ite_f hf c11
              refine lv_iconst (v := 1) hx hb dX9_readsOrder_325 (by decide) ?_
              refine lv_goto (tgt := 330) hx hb dX9_readsOrder_326 (by decide) ?_
              cases hf
              exact e_Wz hC hH hr hlocks rfl rfl rfl dX9_readsOrder_330
  · have hf := ite_f hf c22_0
    by_cases c22_1 : t1 = (100 : Int32)
    · have hf := ite_t hf c22_1
      have e9 : (t1).toInt = 100 := by rw [c22_1]; decide
      refine lv_tableIn (tgt := 331) hx hb dX9_readsOrder_22 (by omega) (by omega) (by rw [e9]; rfl) (by decide) ?_
      refine lv_aload_n hx hb dX9_readsOrder_331 rfl (lv_at hl 0 rfl) ?_
      refine lv_dup hx hb dX9_readsOrder_332 rfl ?_
      refine gX9_201 hC hH.1 0 rfl (v := .int (x.2.2.2.2.2.2.2.2.2.2.2.2.2.2.2.2.1 + (1 : Int32))) rfl dX9_readsOrder_333 ?_
      refine lv_iconst (v := 1) hx hb dX9_readsOrder_336 (by decide) ?_
      refine lv_isub hx hb dX9_readsOrder_337 ?_
      refine pX9_201 hC hH 0 rfl (v := .int ((x.2.2.2.2.2.2.2.2.2.2.2.2.2.2.2.2.1 + (1 : Int32)) - (1 : Int32))) rfl rfl (Nat.le_of_ble_eq_true rfl) (W1 := wM E ad (x.1, x.2.1, x.2.2.1, x.2.2.2.1, x.2.2.2.2.1, x.2.2.2.2.2.1, x.2.2.2.2.2.2.1, x.2.2.2.2.2.2.2.1, x.2.2.2.2.2.2.2.2.1, x.2.2.2.2.2.2.2.2.2.1, x.2.2.2.2.2.2.2.2.2.2.1, x.2.2.2.2.2.2.2.2.2.2.2.1, x.2.2.2.2.2.2.2.2.2.2.2.2.1, x.2.2.2.2.2.2.2.2.2.2.2.2.2.1, x.2.2.2.2.2.2.2.2.2.2.2.2.2.2.1, x.2.2.2.2.2.2.2.2.2.2.2.2.2.2.2.1, ((x.2.2.2.2.2.2.2.2.2.2.2.2.2.2.2.2.1 + (1 : Int32)) - (1 : Int32)), x.2.2.2.2.2.2.2.2.2.2.2.2.2.2.2.2.2.1, t1, x.2.2.2.2.2.2.2.2.2.2.2.2.2.2.2.2.2.2.2)) rfl dX9_readsOrder_338 (fun H locs hH => ?_)
      refine lv_iconst (v := 0) hx hb dX9_readsOrder_341 (by decide) ?_
      cases hf
      exact e_Wz hC hH hr hlocks rfl rfl rfl dX9_readsOrder_342
    · have hf := ite_f hf c22_1
      by_cases c22_2 : t1 = (101 : Int32)
      · have hf := ite_t hf c22_2
        have e9 : (t1).toInt = 101 := by rw [c22_2]; decide
        refine lv_tableIn (tgt := 331) hx hb dX9_readsOrder_22 (by omega) (by omega) (by rw [e9]; rfl) (by decide) ?_
        refine lv_aload_n hx hb dX9_readsOrder_331 rfl (lv_at hl 0 rfl) ?_
        refine lv_dup hx hb dX9_readsOrder_332 rfl ?_
        refine gX9_201 hC hH.1 0 rfl (v := .int (x.2.2.2.2.2.2.2.2.2.2.2.2.2.2.2.2.1 + (1 : Int32))) rfl dX9_readsOrder_333 ?_
        refine lv_iconst (v := 1) hx hb dX9_readsOrder_336 (by decide) ?_
        refine lv_isub hx hb dX9_readsOrder_337 ?_
        refine pX9_201 hC hH 0 rfl (v := .int ((x.2.2.2.2.2.2.2.2.2.2.2.2.2.2.2.2.1 + (1 : Int32)) - (1 : Int32))) rfl rfl (Nat.le_of_ble_eq_true rfl) (W1 := wM E ad (x.1, x.2.1, x.2.2.1, x.2.2.2.1, x.2.2.2.2.1, x.2.2.2.2.2.1, x.2.2.2.2.2.2.1, x.2.2.2.2.2.2.2.1, x.2.2.2.2.2.2.2.2.1, x.2.2.2.2.2.2.2.2.2.1, x.2.2.2.2.2.2.2.2.2.2.1, x.2.2.2.2.2.2.2.2.2.2.2.1, x.2.2.2.2.2.2.2.2.2.2.2.2.1, x.2.2.2.2.2.2.2.2.2.2.2.2.2.1, x.2.2.2.2.2.2.2.2.2.2.2.2.2.2.1, x.2.2.2.2.2.2.2.2.2.2.2.2.2.2.2.1, ((x.2.2.2.2.2.2.2.2.2.2.2.2.2.2.2.2.1 + (1 : Int32)) - (1 : Int32)), x.2.2.2.2.2.2.2.2.2.2.2.2.2.2.2.2.2.1, t1, x.2.2.2.2.2.2.2.2.2.2.2.2.2.2.2.2.2.2.2)) rfl dX9_readsOrder_338 (fun H locs hH => ?_)
        refine lv_iconst (v := 0) hx hb dX9_readsOrder_341 (by decide) ?_
        cases hf
        exact e_Wz hC hH hr hlocks rfl rfl rfl dX9_readsOrder_342
      · have hf := ite_f hf c22_2
        by_cases c22_3 : t1 = (102 : Int32)
        · have hf := ite_t hf c22_3
          have e9 : (t1).toInt = 102 := by rw [c22_3]; decide
          refine lv_tableIn (tgt := 331) hx hb dX9_readsOrder_22 (by omega) (by omega) (by rw [e9]; rfl) (by decide) ?_
          refine lv_aload_n hx hb dX9_readsOrder_331 rfl (lv_at hl 0 rfl) ?_
          refine lv_dup hx hb dX9_readsOrder_332 rfl ?_
          refine gX9_201 hC hH.1 0 rfl (v := .int (x.2.2.2.2.2.2.2.2.2.2.2.2.2.2.2.2.1 + (1 : Int32))) rfl dX9_readsOrder_333 ?_
          refine lv_iconst (v := 1) hx hb dX9_readsOrder_336 (by decide) ?_
          refine lv_isub hx hb dX9_readsOrder_337 ?_
          refine pX9_201 hC hH 0 rfl (v := .int ((x.2.2.2.2.2.2.2.2.2.2.2.2.2.2.2.2.1 + (1 : Int32)) - (1 : Int32))) rfl rfl (Nat.le_of_ble_eq_true rfl) (W1 := wM E ad (x.1, x.2.1, x.2.2.1, x.2.2.2.1, x.2.2.2.2.1, x.2.2.2.2.2.1, x.2.2.2.2.2.2.1, x.2.2.2.2.2.2.2.1, x.2.2.2.2.2.2.2.2.1, x.2.2.2.2.2.2.2.2.2.1, x.2.2.2.2.2.2.2.2.2.2.1, x.2.2.2.2.2.2.2.2.2.2.2.1, x.2.2.2.2.2.2.2.2.2.2.2.2.1, x.2.2.2.2.2.2.2.2.2.2.2.2.2.1, x.2.2.2.2.2.2.2.2.2.2.2.2.2.2.1, x.2.2.2.2.2.2.2.2.2.2.2.2.2.2.2.1, ((x.2.2.2.2.2.2.2.2.2.2.2.2.2.2.2.2.1 + (1 : Int32)) - (1 : Int32)), x.2.2.2.2.2.2.2.2.2.2.2.2.2.2.2.2.2.1, t1, x.2.2.2.2.2.2.2.2.2.2.2.2.2.2.2.2.2.2.2)) rfl dX9_readsOrder_338 (fun H locs hH => ?_)
          refine lv_iconst (v := 0) hx hb dX9_readsOrder_341 (by decide) ?_
          cases hf
          exact e_Wz hC hH hr hlocks rfl rfl rfl dX9_readsOrder_342
        · have hf := ite_f hf c22_3
          by_cases c22_4 : t1 = (103 : Int32)
          · have hf := ite_t hf c22_4
            have e9 : (t1).toInt = 103 := by rw [c22_4]; decide
            refine lv_tableIn (tgt := 331) hx hb dX9_readsOrder_22 (by omega) (by omega) (by rw [e9]; rfl) (by decide) ?_
            refine lv_aload_n hx hb dX9_readsOrder_331 rfl (lv_at hl 0 rfl) ?_
            refine lv_dup hx hb dX9_readsOrder_332 rfl ?_
            refine gX9_201 hC hH.1 0 rfl (v := .int (x.2.2.2.2.2.2.2.2.2.2.2.2.2.2.2.2.1 + (1 : Int32))) rfl dX9_readsOrder_333 ?_
            refine lv_iconst (v := 1) hx hb dX9_readsOrder_336 (by decide) ?_
            refine lv_isub hx hb dX9_readsOrder_337 ?_
            refine pX9_201 hC hH 0 rfl (v := .int ((x.2.2.2.2.2.2.2.2.2.2.2.2.2.2.2.2.1 + (1 : Int32)) - (1 : Int32))) rfl rfl (Nat.le_of_ble_eq_true rfl) (W1 := wM E ad (x.1, x.2.1, x.2.2.1, x.2.2.2.1, x.2.2.2.2.1, x.2.2.2.2.2.1, x.2.2.2.2.2.2.1, x.2.2.2.2.2.2.2.1, x.2.2.2.2.2.2.2.2.1, x.2.2.2.2.2.2.2.2.2.1, x.2.2.2.2.2.2.2.2.2.2.1, x.2.2.2.2.2.2.2.2.2.2.2.1, x.2.2.2.2.2.2.2.2.2.2.2.2.1, x.2.2.2.2.2.2.2.2.2.2.2.2.2.1, x.2.2.2.2.2.2.2.2.2.2.2.2.2.2.1, x.2.2.2.2.2.2.2.2.2.2.2.2.2.2.2.1, ((x.2.2.2.2.2.2.2.2.2.2.2.2.2.2.2.2.1 + (1 : Int32)) - (1 : Int32)), x.2.2.2.2.2.2.2.2.2.2.2.2.2.2.2.2.2.1, t1, x.2.2.2.2.2.2.2.2.2.2.2.2.2.2.2.2.2.2.2)) rfl dX9_readsOrder_338 (fun H locs hH => ?_)
            refine lv_iconst (v := 0) hx hb dX9_readsOrder_341 (by decide) ?_
            cases hf
            exact e_Wz hC hH hr hlocks rfl rfl rfl dX9_readsOrder_342
          · have hf := ite_f hf c22_4
            by_cases c22_5 : t1 = (104 : Int32)
            · have hf := ite_t hf c22_5
              have e9 : (t1).toInt = 104 := by rw [c22_5]; decide
              refine lv_tableIn (tgt := 331) hx hb dX9_readsOrder_22 (by omega) (by omega) (by rw [e9]; rfl) (by decide) ?_
              refine lv_aload_n hx hb dX9_readsOrder_331 rfl (lv_at hl 0 rfl) ?_
              refine lv_dup hx hb dX9_readsOrder_332 rfl ?_
              refine gX9_201 hC hH.1 0 rfl (v := .int (x.2.2.2.2.2.2.2.2.2.2.2.2.2.2.2.2.1 + (1 : Int32))) rfl dX9_readsOrder_333 ?_
              refine lv_iconst (v := 1) hx hb dX9_readsOrder_336 (by decide) ?_
              refine lv_isub hx hb dX9_readsOrder_337 ?_
              refine pX9_201 hC hH 0 rfl (v := .int ((x.2.2.2.2.2.2.2.2.2.2.2.2.2.2.2.2.1 + (1 : Int32)) - (1 : Int32))) rfl rfl (Nat.le_of_ble_eq_true rfl) (W1 := wM E ad (x.1, x.2.1, x.2.2.1, x.2.2.2.1, x.2.2.2.2.1, x.2.2.2.2.2.1, x.2.2.2.2.2.2.1, x.2.2.2.2.2.2.2.1, x.2.2.2.2.2.2.2.2.1, x.2.2.2.2.2.2.2.2.2.1, x.2.2.2.2.2.2.2.2.2.2.1, x.2.2.2.2.2.2.2.2.2.2.2.1, x.2.2.2.2.2.2.2.2.2.2.2.2.1, x.2.2.2.2.2.2.2.2.2.2.2.2.2.1, x.2.2.2.2.2.2.2.2.2.2.2.2.2.2.1, x.2.2.2.2.2.2.2.2.2.2.2.2.2.2.2.1, ((x.2.2.2.2.2.2.2.2.2.2.2.2.2.2.2.2.1 + (1 : Int32)) - (1 : Int32)), x.2.2.2.2.2.2.2.2.2.2.2.2.2.2.2.2.2.1, t1, x.2.2.2.2.2.2.2.2.2.2.2.2.2.2.2.2.2.2.2)) rfl dX9_readsOrder_338 (fun H locs hH => ?_)
              refine lv_iconst (v := 0) hx hb dX9_readsOrder_341 (by decide) ?_
              cases hf
              exact e_Wz hC hH hr hlocks rfl rfl rfl dX9_readsOrder_342
            · have hf := ite_f hf c22_5
              by_cases c22_6 : t1 = (105 : Int32)
              · have hf := ite_t hf c22_6
                have e9 : (t1).toInt = 105 := by rw [c22_6]; decide
                refine lv_tableIn (tgt := 136) hx hb dX9_readsOrder_22 (by omega) (by omega) (by rw [e9]; rfl) (by decide) ?_
                refine lv_aload_n hx hb dX9_readsOrder_136 rfl (lv_at hl 0 rfl) ?_
                refine lv_bipush (v := 110) hx hb dX9_readsOrder_137 (by decide) ?_
                obtain ⟨t12, ht12, hf⟩ := ob hf
                refine k_WVsi hC LX9_207 ⟨Nat.le_of_ble_eq_true rfl, Nat.le_of_ble_eq_true rfl⟩ ⟨Nat.zero_le _, Nat.zero_le _⟩ (cM_reads l E ad (x.1, x.2.1, x.2.2.1, x.2.2.2.1, x.2.2.2.2.1, x.2.2.2.2.2.1, x.2.2.2.2.2.2.1, x.2.2.2.2.2.2.2.1, x.2.2.2.2.2.2.2.2.1, x.2.2.2.2.2.2.2.2.2.1, x.2.2.2.2.2.2.2.2.2.2.1, x.2.2.2.2.2.2.2.2.2.2.2.1, x.2.2.2.2.2.2.2.2.2.2.2.2.1, x.2.2.2.2.2.2.2.2.2.2.2.2.2.1, x.2.2.2.2.2.2.2.2.2.2.2.2.2.2.1, x.2.2.2.2.2.2.2.2.2.2.2.2.2.2.2.1, (x.2.2.2.2.2.2.2.2.2.2.2.2.2.2.2.2.1 + (1 : Int32)), x.2.2.2.2.2.2.2.2.2.2.2.2.2.2.2.2.2.1, t1, x.2.2.2.2.2.2.2.2.2.2.2.2.2.2.2.2.2.2.2) (110 : Int32) t12 ht12) rfl rfl hH rfl rfl rfl hl.1 rfl (Nat.le_of_ble_eq_true rfl) rfl dX9_readsOrder_139 (fun H locs hz139 hH => ?_)
                have hH : Hp E (adr (wM E ad x)) (wM E ad (x.1, x.2.1, x.2.2.1, x.2.2.2.1, x.2.2.2.2.1, x.2.2.2.2.2.1, x.2.2.2.2.2.2.1, x.2.2.2.2.2.2.2.1, x.2.2.2.2.2.2.2.2.1, x.2.2.2.2.2.2.2.2.2.1, x.2.2.2.2.2.2.2.2.2.2.1, x.2.2.2.2.2.2.2.2.2.2.2.1, x.2.2.2.2.2.2.2.2.2.2.2.2.1, x.2.2.2.2.2.2.2.2.2.2.2.2.2.1, x.2.2.2.2.2.2.2.2.2.2.2.2.2.2.1, x.2.2.2.2.2.2.2.2.2.2.2.2.2.2.2.1, t12.2, x.2.2.2.2.2.2.2.2.2.2.2.2.2.2.2.2.2.1, t1, x.2.2.2.2.2.2.2.2.2.2.2.2.2.2.2.2.2.2.2)) s.heap H locs := hH
                refine lv_if_eq (tgt := 165) hx hb dX9_readsOrder_142 (by decide) (fun c13 => ?_) (fun c13 => ?_)
                · have hf := ite_t hf c13
                  refine lv_iconst (v := 0) hx hb dX9_readsOrder_165 (by decide) ?_
                  cases hf
                  exact e_Wz hC hH hr hlocks rfl rfl rfl dX9_readsOrder_166
                · have hf := ite_f hf c13
                  refine lv_aload_n hx hb dX9_readsOrder_145 rfl (lv_at hl 0 rfl) ?_
                  refine lv_iconst (v := 0) hx hb dX9_readsOrder_146 (by decide) ?_
                  obtain ⟨t14, ht14, hf⟩ := ob hf
                  refine k_WVsi hC LX9_216 ⟨Nat.le_of_ble_eq_true rfl, Nat.le_of_ble_eq_true rfl⟩ ⟨Nat.zero_le _, Nat.zero_le _⟩ (cM_readsNumber l E ad (x.1, x.2.1, x.2.2.1, x.2.2.2.1, x.2.2.2.2.1, x.2.2.2.2.2.1, x.2.2.2.2.2.2.1, x.2.2.2.2.2.2.2.1, x.2.2.2.2.2.2.2.2.1, x.2.2.2.2.2.2.2.2.2.1, x.2.2.2.2.2.2.2.2.2.2.1, x.2.2.2.2.2.2.2.2.2.2.2.1, x.2.2.2.2.2.2.2.2.2.2.2.2.1, x.2.2.2.2.2.2.2.2.2.2.2.2.2.1, x.2.2.2.2.2.2.2.2.2.2.2.2.2.2.1, x.2.2.2.2.2.2.2.2.2.2.2.2.2.2.2.1, t12.2, x.2.2.2.2.2.2.2.2.2.2.2.2.2.2.2.2.2.1, t1, x.2.2.2.2.2.2.2.2.2.2.2.2.2.2.2.2.2.2.2) (0 : Int32) t14 ht14) rfl rfl hH rfl rfl rfl hl.1 rfl (Nat.le_of_ble_eq_true rfl) rfl dX9_readsOrder_147 (fun H locs hz147 hH => ?_)
                  have hH : Hp E (adr (wM E ad x)) (wM E ad (x.1, x.2.1, x.2.2.1, x.2.2.2.1, x.2.2.2.2.1, x.2.2.2.2.2.1, x.2.2.2.2.2.2.1, x.2.2.2.2.2.2.2.1, x.2.2.2.2.2.2.2.2.1, x.2.2.2.2.2.2.2.2.2.1, x.2.2.2.2.2.2.2.2.2.2.1, x.2.2.2.2.2.2.2.2.2.2.2.1, x.2.2.2.2.2.2.2.2.2.2.2.2.1, x.2.2.2.2.2.2.2.2.2.2.2.2.2.1, x.2.2.2.2.2.2.2.2.2.2.2.2.2.2.1, x.2.2.2.2.2.2.2.2.2.2.2.2.2.2.2.1, t14.2.1, t14.2.2, t1, x.2.2.2.2.2.2.2.2.2.2.2.2.2.2.2.2.2.2.2)) s.heap H locs := hH
                  refine lv_if_eq (tgt := 165) hx hb dX9_readsOrder_150 (by decide) (fun c15 => ?_) (fun c15 => ?_)
                  · have hf := ite_t hf c15
                    refine lv_iconst (v := 0) hx hb dX9_readsOrder_165 (by decide) ?_
                    cases hf
                    exact e_Wz hC hH hr hlocks rfl rfl rfl dX9_readsOrder_166
                  · have hf := ite_f hf c15
                    refine lv_aload_n hx hb dX9_readsOrder_153 rfl (lv_at hl 0 rfl) ?_
                    refine lv_iconst (v := 1) hx hb dX9_readsOrder_154 (by decide) ?_
                    obtain ⟨t16, ht16, hf⟩ := ob hf
                    refine k_WVsi hC LX9_216 ⟨Nat.le_of_ble_eq_true rfl, Nat.le_of_ble_eq_true rfl⟩ ⟨Nat.zero_le _, Nat.zero_le _⟩ (cM_readsNumber l E ad (x.1, x.2.1, x.2.2.1, x.2.2.2.1, x.2.2.2.2.1, x.2.2.2.2.2.1, x.2.2.2.2.2.2.1, x.2.2.2.2.2.2.2.1, x.2.2.2.2.2.2.2.2.1, x.2.2.2.2.2.2.2.2.2.1, x.2.2.2.2.2.2.2.2.2.2.1, x.2.2.2.2.2.2.2.2.2.2.2.1, x.2.2.2.2.2.2.2.2.2.2.2.2.1, x.2.2.2.2.2.2.2.2.2.2.2.2.2.1, x.2.2.2.2.2.2.2.2.2.2.2.2.2.2.1, x.2.2.2.2.2.2.2.2.2.2.2.2.2.2.2.1, t14.2.1, t14.2.2, t1, x.2.2.2.2.2.2.2.2.2.2.2.2.2.2.2.2.2.2.2) (1 : Int32) t16 ht16) rfl rfl hH rfl rfl rfl hl.1 rfl (Nat.le_of_ble_eq_true rfl) rfl dX9_readsOrder_155 (fun H locs hz155 hH => ?_)
                    have hH : Hp E (adr (wM E ad x)) (wM E ad (x.1, x.2.1, x.2.2.1, x.2.2.2.1, x.2.2.2.2.1, x.2.2.2.2.2.1, x.2.2.2.2.2.2.1, x.2.2.2.2.2.2.2.1, x.2.2.2.2.2.2.2.2.1, x.2.2.2.2.2.2.2.2.2.1, x.2.2.2.2.2.2.2.2.2.2.1, x.2.2.2.2.2.2.2.2.2.2.2.1, x.2.2.2.2.2.2.2.2.2.2.2.2.1, x.2.2.2.2.2.2.2.2.2.2.2.2.2.1, x.2.2.2.2.2.2.2.2.2.2.2.2.2.2.1, x.2.2.2.2.2.2.2.2.2.2.2.2.2.2.2.1, t16.2.1, t16.2.2, t1, x.2.2.2.2.2.2.2.2.2.2.2.2.2.2.2.2.2.2.2)) s.heap H locs := hH
                    refine lv_if_eq (tgt := 165) hx hb dX9_readsOrder_158 (by decide) (fun c17 => ?_) (fun c17 => ?_)
                    · have hf := ite_t hf c17
                      refine lv_iconst (v := 0) hx hb dX9_readsOrder_165 (by decide) ?_
                      cases hf
                      exact e_Wz hC hH hr hlocks rfl rfl rfl dX9_readsOrder_166
                    · have hf := ite_f hf c17
                      refine lv_iconst (v := 1) hx hb dX9_readsOrder_161 (by decide) ?_
                      refine lv_goto (tgt := 166) hx hb dX9_readsOrder_162 (by decide) ?_
                      cases hf
                      exact e_Wz hC hH hr hlocks rfl rfl rfl dX9_readsOrder_166
              · have hf := ite_f hf c22_6
                by_cases c22_7 : t1 = (106 : Int32)
                · have hf := ite_t hf c22_7
                  have e9 : (t1).toInt = 106 := by rw [c22_7]; decide
                  refine lv_tableIn (tgt := 331) hx hb dX9_readsOrder_22 (by omega) (by omega) (by rw [e9]; rfl) (by decide) ?_
                  refine lv_aload_n hx hb dX9_readsOrder_331 rfl (lv_at hl 0 rfl) ?_
                  refine lv_dup hx hb dX9_readsOrder_332 rfl ?_
                  refine gX9_201 hC hH.1 0 rfl (v := .int (x.2.2.2.2.2.2.2.2.2.2.2.2.2.2.2.2.1 + (1 : Int32))) rfl dX9_readsOrder_333 ?_
                  refine lv_iconst (v := 1) hx hb dX9_readsOrder_336 (by decide) ?_
                  refine lv_isub hx hb dX9_readsOrder_337 ?_
                  refine pX9_201 hC hH 0 rfl (v := .int ((x.2.2.2.2.2.2.2.2.2.2.2.2.2.2.2.2.1 + (1 : Int32)) - (1 : Int32))) rfl rfl (Nat.le_of_ble_eq_true rfl) (W1 := wM E ad (x.1, x.2.1, x.2.2.1, x.2.2.2.1, x.2.2.2.2.1, x.2.2.2.2.2.1, x.2.2.2.2.2.2.1, x.2.2.2.2.2.2.2.1, x.2.2.2.2.2.2.2.2.1, x.2.2.2.2.2.2.2.2.2.1, x.2.2.2.2.2.2.2.2.2.2.1, x.2.2.2.2.2.2.2.2.2.2.2.1, x.2.2.2.2.2.2.2.2.2.2.2.2.1, x.2.2.2.2.2.2.2.2.2.2.2.2.2.1, x.2.2.2.2.2.2.2.2.2.2.2.2.2.2.1, x.2.2.2.2.2.2.2.2.2.2.2.2.2.2.2.1, ((x.2.2.2.2.2.2.2.2.2.2.2.2.2.2.2.2.1 + (1 : Int32)) - (1 : Int32)), x.2.2.2.2.2.2.2.2.2.2.2.2.2.2.2.2.2.1, t1, x.2.2.2.2.2.2.2.2.2.2.2.2.2.2.2.2.2.2.2)) rfl dX9_readsOrder_338 (fun H locs hH => ?_)
                  refine lv_iconst (v := 0) hx hb dX9_readsOrder_341 (by decide) ?_
                  cases hf
                  exact e_Wz hC hH hr hlocks rfl rfl rfl dX9_readsOrder_342
                · have hf := ite_f hf c22_7
                  by_cases c22_8 : t1 = (107 : Int32)
                  · have hf := ite_t hf c22_8
                    have e9 : (t1).toInt = 107 := by rw [c22_8]; decide
                    refine lv_tableIn (tgt := 331) hx hb dX9_readsOrder_22 (by omega) (by omega) (by rw [e9]; rfl) (by decide) ?_
                    refine lv_aload_n hx hb dX9_readsOrder_331 rfl (lv_at hl 0 rfl) ?_
                    refine lv_dup hx hb dX9_readsOrder_332 rfl ?_
                    refine gX9_201 hC hH.1 0 rfl (v := .int (x.2.2.2.2.2.2.2.2.2.2.2.2.2.2.2.2.1 + (1 : Int32))) rfl dX9_readsOrder_333 ?_
                    refine lv_iconst (v := 1) hx hb dX9_readsOrder_336 (by decide) ?_
                    refine lv_isub hx hb dX9_readsOrder_337 ?_
                    refine pX9_201 hC hH 0 rfl (v := .int ((x.2.2.2.2.2.2.2.2.2.2.2.2.2.2.2.2.1 + (1 : Int32)) - (1 : Int32))) rfl rfl (Nat.le_of_ble_eq_true rfl) (W1 := wM E ad (x.1, x.2.1, x.2.2.1, x.2.2.2.1, x.2.2.2.2.1, x.2.2.2.2.2.1, x.2.2.2.2.2.2.1, x.2.2.2.2.2.2.2.1, x.2.2.2.2.2.2.2.2.1, x.2.2.2.2.2.2.2.2.2.1, x.2.2.2.2.2.2.2.2.2.2.1, x.2.2.2.2.2.2.2.2.2.2.2.1, x.2.2.2.2.2.2.2.2.2.2.2.2.1, x.2.2.2.2.2.2.2.2.2.2.2.2.2.1, x.2.2.2.2.2.2.2.2.2.2.2.2.2.2.1, x.2.2.2.2.2.2.2.2.2.2.2.2.2.2.2.1, ((x.2.2.2.2.2.2.2.2.2.2.2.2.2.2.2.2.1 + (1 : Int32)) - (1 : Int32)), x.2.2.2.2.2.2.2.2.2.2.2.2.2.2.2.2.2.1, t1, x.2.2.2.2.2.2.2.2.2.2.2.2.2.2.2.2.2.2.2)) rfl dX9_readsOrder_338 (fun H locs hH => ?_)
                    refine lv_iconst (v := 0) hx hb dX9_readsOrder_341 (by decide) ?_
                    cases hf
                    exact e_Wz hC hH hr hlocks rfl rfl rfl dX9_readsOrder_342
                  · have hf := ite_f hf c22_8
                    by_cases c22_9 : t1 = (108 : Int32)
                    · have hf := ite_t hf c22_9
                      have e9 : (t1).toInt = 108 := by rw [c22_9]; decide
                      refine lv_tableIn (tgt := 331) hx hb dX9_readsOrder_22 (by omega) (by omega) (by rw [e9]; rfl) (by decide) ?_
                      refine lv_aload_n hx hb dX9_readsOrder_331 rfl (lv_at hl 0 rfl) ?_
                      refine lv_dup hx hb dX9_readsOrder_332 rfl ?_
                      refine gX9_201 hC hH.1 0 rfl (v := .int (x.2.2.2.2.2.2.2.2.2.2.2.2.2.2.2.2.1 + (1 : Int32))) rfl dX9_readsOrder_333 ?_
                      refine lv_iconst (v := 1) hx hb dX9_readsOrder_336 (by decide) ?_
                      refine lv_isub hx hb dX9_readsOrder_337 ?_
                      refine pX9_201 hC hH 0 rfl (v := .int ((x.2.2.2.2.2.2.2.2.2.2.2.2.2.2.2.2.1 + (1 : Int32)) - (1 : Int32))) rfl rfl (Nat.le_of_ble_eq_true rfl) (W1 := wM E ad (x.1, x.2.1, x.2.2.1, x.2.2.2.1, x.2.2.2.2.1, x.2.2.2.2.2.1, x.2.2.2.2.2.2.1, x.2.2.2.2.2.2.2.1, x.2.2.2.2.2.2.2.2.1, x.2.2.2.2.2.2.2.2.2.1, x.2.2.2.2.2.2.2.2.2.2.1, x.2.2.2.2.2.2.2.2.2.2.2.1, x.2.2.2.2.2.2.2.2.2.2.2.2.1, x.2.2.2.2.2.2.2.2.2.2.2.2.2.1, x.2.2.2.2.2.2.2.2.2.2.2.2.2.2.1, x.2.2.2.2.2.2.2.2.2.2.2.2.2.2.2.1, ((x.2.2.2.2.2.2.2.2.2.2.2.2.2.2.2.2.1 + (1 : Int32)) - (1 : Int32)), x.2.2.2.2.2.2.2.2.2.2.2.2.2.2.2.2.2.1, t1, x.2.2.2.2.2.2.2.2.2.2.2.2.2.2.2.2.2.2.2)) rfl dX9_readsOrder_338 (fun H locs hH => ?_)
                      refine lv_iconst (v := 0) hx hb dX9_readsOrder_341 (by decide) ?_
                      cases hf
                      exact e_Wz hC hH hr hlocks rfl rfl rfl dX9_readsOrder_342
                    · have hf := ite_f hf c22_9
                      by_cases c22_10 : t1 = (109 : Int32)
                      · have hf := ite_t hf c22_10
                        have e9 : (t1).toInt = 109 := by rw [c22_10]; decide
                        refine lv_tableIn (tgt := 240) hx hb dX9_readsOrder_22 (by omega) (by omega) (by rw [e9]; rfl) (by decide) ?_
                        refine lv_aload_n hx hb dX9_readsOrder_240 rfl (lv_at hl 0 rfl) ?_
                        refine lv_bipush (v := 97) hx hb dX9_readsOrder_241 (by decide) ?_
                        obtain ⟨t18, ht18, hf⟩ := ob hf
                        refine k_WVsi hC LX9_207 ⟨Nat.le_of_ble_eq_true rfl, Nat.le_of_ble_eq_true rfl⟩ ⟨Nat.zero_le _, Nat.zero_le _⟩ (cM_reads l E ad (x.1, x.2.1, x.2.2.1, x.2.2.2.1, x.2.2.2.2.1, x.2.2.2.2.2.1, x.2.2.2.2.2.2.1, x.2.2.2.2.2.2.2.1, x.2.2.2.2.2.2.2.2.1, x.2.2.2.2.2.2.2.2.2.1, x.2.2.2.2.2.2.2.2.2.2.1, x.2.2.2.2.2.2.2.2.2.2.2.1, x.2.2.2.2.2.2.2.2.2.2.2.2.1, x.2.2.2.2.2.2.2.2.2.2.2.2.2.1, x.2.2.2.2.2.2.2.2.2.2.2.2.2.2.1, x.2.2.2.2.2.2.2.2.2.2.2.2.2.2.2.1, (x.2.2.2.2.2.2.2.2.2.2.2.2.2.2.2.2.1 + (1 : Int32)), x.2.2.2.2.2.2.2.2.2.2.2.2.2.2.2.2.2.1, t1, x.2.2.2.2.2.2.2.2.2.2.2.2.2.2.2.2.2.2.2) (97 : Int32) t18 ht18) rfl rfl hH rfl rfl rfl hl.1 rfl (Nat.le_of_ble_eq_true rfl) rfl dX9_readsOrder_243 (fun H locs hz243 hH => ?_)
                        have hH : Hp E (adr (wM E ad x)) (wM E ad (x.1, x.2.1, x.2.2.1, x.2.2.2.1, x.2.2.2.2.1, x.2.2.2.2.2.1, x.2.2.2.2.2.2.1, x.2.2.2.2.2.2.2.1, x.2.2.2.2.2.2.2.2.1, x.2.2.2.2.2.2.2.2.2.1, x.2.2.2.2.2.2.2.2.2.2.1, x.2.2.2.2.2.2.2.2.2.2.2.1, x.2.2.2.2.2.2.2.2.2.2.2.2.1, x.2.2.2.2.2.2.2.2.2.2.2.2.2.1, x.2.2.2.2.2.2.2.2.2.2.2.2.2.2.1, x.2.2.2.2.2.2.2.2.2.2.2.2.2.2.2.1, t18.2, x.2.2.2.2.2.2.2.2.2.2.2.2.2.2.2.2.2.1, t1, x.2.2.2.2.2.2.2.2.2.2.2.2.2.2.2.2.2.2.2)) s.heap H locs := hH
                        refine lv_if_eq (tgt := 279) hx hb dX9_readsOrder_246 (by decide) (fun c19 => ?_) (fun c19 => ?_)
                        · have hf := ite_t hf c19
                          refine lv_iconst (v := 0) hx hb dX9_readsOrder_279 (by decide) ?_
                          cases hf
                          exact e_Wz hC hH hr hlocks rfl rfl rfl dX9_readsOrder_280
                        · have hf := ite_f hf c19
                          refine lv_aload_n hx hb dX9_readsOrder_249 rfl (lv_at hl 0 rfl) ?_
                          refine lv_bipush (v := 114) hx hb dX9_readsOrder_250 (by decide) ?_
                          obtain ⟨t20, ht20, hf⟩ := ob hf
                          refine k_WVsi hC LX9_207 ⟨Nat.le_of_ble_eq_true rfl, Nat.le_of_ble_eq_true rfl⟩ ⟨Nat.zero_le _, Nat.zero_le _⟩ (cM_reads l E ad (x.1, x.2.1, x.2.2.1, x.2.2.2.1, x.2.2.2.2.1, x.2.2.2.2.2.1, x.2.2.2.2.2.2.1, x.2.2.2.2.2.2.2.1, x.2.2.2.2.2.2.2.2.1, x.2.2.2.2.2.2.2.2.2.1, x.2.2.2.2.2.2.2.2.2.2.1, x.2.2.2.2.2.2.2.2.2.2.2.1, x.2.2.2.2.2.2.2.2.2.2.2.2.1, x.2.2.2.2.2.2.2.2.2.2.2.2.2.1, x.2.2.2.2.2.2.2.2.2.2.2.2.2.2.1, x.2.2.2.2.2.2.2.2.2.2.2.2.2.2.2.1, t18.2, x.2.2.2.2.2.2.2.2.2.2.2.2.2.2.2.2.2.1, t1, x.2.2.2.2.2.2.2.2.2.2.2.2.2.2.2.2.2.2.2) (114 : Int32) t20 ht20) rfl rfl hH rfl rfl rfl hl.1 rfl (Nat.le_of_ble_eq_true rfl) rfl dX9_readsOrder_252 (fun H locs hz252 hH => ?_)
                          have hH : Hp E (adr (wM E ad x)) (wM E ad (x.1, x.2.1, x.2.2.1, x.2.2.2.1, x.2.2.2.2.1, x.2.2.2.2.2.1, x.2.2.2.2.2.2.1, x.2.2.2.2.2.2.2.1, x.2.2.2.2.2.2.2.2.1, x.2.2.2.2.2.2.2.2.2.1, x.2.2.2.2.2.2.2.2.2.2.1, x.2.2.2.2.2.2.2.2.2.2.2.1, x.2.2.2.2.2.2.2.2.2.2.2.2.1, x.2.2.2.2.2.2.2.2.2.2.2.2.2.1, x.2.2.2.2.2.2.2.2.2.2.2.2.2.2.1, x.2.2.2.2.2.2.2.2.2.2.2.2.2.2.2.1, t20.2, x.2.2.2.2.2.2.2.2.2.2.2.2.2.2.2.2.2.1, t1, x.2.2.2.2.2.2.2.2.2.2.2.2.2.2.2.2.2.2.2)) s.heap H locs := hH
                          refine lv_if_eq (tgt := 279) hx hb dX9_readsOrder_255 (by decide) (fun c21 => ?_) (fun c21 => ?_)
                          · have hf := ite_t hf c21
                            refine lv_iconst (v := 0) hx hb dX9_readsOrder_279 (by decide) ?_
                            cases hf
                            exact e_Wz hC hH hr hlocks rfl rfl rfl dX9_readsOrder_280
                          · have hf := ite_f hf c21
                            refine lv_aload_n hx hb dX9_readsOrder_258 rfl (lv_at hl 0 rfl) ?_
                            refine lv_bipush (v := 107) hx hb dX9_readsOrder_259 (by decide) ?_
                            obtain ⟨t22, ht22, hf⟩ := ob hf
                            refine k_WVsi hC LX9_207 ⟨Nat.le_of_ble_eq_true rfl, Nat.le_of_ble_eq_true rfl⟩ ⟨Nat.zero_le _, Nat.zero_le _⟩ (cM_reads l E ad (x.1, x.2.1, x.2.2.1, x.2.2.2.1, x.2.2.2.2.1, x.2.2.2.2.2.1, x.2.2.2.2.2.2.1, x.2.2.2.2.2.2.2.1, x.2.2.2.2.2.2.2.2.1, x.2.2.2.2.2.2.2.2.2.1, x.2.2.2.2.2.2.2.2.2.2.1, x.2.2.2.2.2.2.2.2.2.2.2.1, x.2.2.2.2.2.2.2.2.2.2.2.2.1, x.2.2.2.2.2.2.2.2.2.2.2.2.2.1, x.2.2.2.2.2.2.2.2.2.2.2.2.2.2.1, x.2.2.2.2.2.2.2.2.2.2.2.2.2.2.2.1, t20.2, x.2.2.2.2.2.2.2.2.2.2.2.2.2.2.2.2.2.1, t1, x.2.2.2.2.2.2.2.2.2.2.2.2.2.2.2.2.2.2.2) (107 : Int32) t22 ht22) rfl rfl hH rfl rfl rfl hl.1 rfl (Nat.le_of_ble_eq_true rfl) rfl dX9_readsOrder_261 (fun H locs hz261 hH => ?_)
                            have hH : Hp E (adr (wM E ad x)) (wM E ad (x.1, x.2.1, x.2.2.1, x.2.2.2.1, x.2.2.2.2.1, x.2.2.2.2.2.1, x.2.2.2.2.2.2.1, x.2.2.2.2.2.2.2.1, x.2.2.2.2.2.2.2.2.1, x.2.2.2.2.2.2.2.2.2.1, x.2.2.2.2.2.2.2.2.2.2.1, x.2.2.2.2.2.2.2.2.2.2.2.1, x.2.2.2.2.2.2.2.2.2.2.2.2.1, x.2.2.2.2.2.2.2.2.2.2.2.2.2.1, x.2.2.2.2.2.2.2.2.2.2.2.2.2.2.1, x.2.2.2.2.2.2.2.2.2.2.2.2.2.2.2.1, t22.2, x.2.2.2.2.2.2.2.2.2.2.2.2.2.2.2.2.2.1, t1, x.2.2.2.2.2.2.2.2.2.2.2.2.2.2.2.2.2.2.2)) s.heap H locs := hH
                            refine lv_if_eq (tgt := 279) hx hb dX9_readsOrder_264 (by decide) (fun c23 => ?_) (fun c23 => ?_)
                            · have hf := ite_t hf c23
                              refine lv_iconst (v := 0) hx hb dX9_readsOrder_279 (by decide) ?_
                              cases hf
                              exact e_Wz hC hH hr hlocks rfl rfl rfl dX9_readsOrder_280
                            · have hf := ite_f hf c23
                              refine lv_aload_n hx hb dX9_readsOrder_267 rfl (lv_at hl 0 rfl) ?_
                              refine lv_iconst (v := 0) hx hb dX9_readsOrder_268 (by decide) ?_
                              obtain ⟨t24, ht24, hf⟩ := ob hf
                              refine k_WVsi hC LX9_216 ⟨Nat.le_of_ble_eq_true rfl, Nat.le_of_ble_eq_true rfl⟩ ⟨Nat.zero_le _, Nat.zero_le _⟩ (cM_readsNumber l E ad (x.1, x.2.1, x.2.2.1, x.2.2.2.1, x.2.2.2.2.1, x.2.2.2.2.2.1, x.2.2.2.2.2.2.1, x.2.2.2.2.2.2.2.1, x.2.2.2.2.2.2.2.2.1, x.2.2.2.2.2.2.2.2.2.1, x.2.2.2.2.2.2.2.2.2.2.1, x.2.2.2.2.2.2.2.2.2.2.2.1, x.2.2.2.2.2.2.2.2.2.2.2.2.1, x.2.2.2.2.2.2.2.2.2.2.2.2.2.1, x.2.2.2.2.2.2.2.2.2.2.2.2.2.2.1, x.2.2.2.2.2.2.2.2.2.2.2.2.2.2.2.1, t22.2, x.2.2.2.2.2.2.2.2.2.2.2.2.2.2.2.2.2.1, t1, x.2.2.2.2.2.2.2.2.2.2.2.2.2.2.2.2.2.2.2) (0 : Int32) t24 ht24) rfl rfl hH rfl rfl rfl hl.1 rfl (Nat.le_of_ble_eq_true rfl) rfl dX9_readsOrder_269 (fun H locs hz269 hH => ?_)
                              have hH : Hp E (adr (wM E ad x)) (wM E ad (x.1, x.2.1, x.2.2.1, x.2.2.2.1, x.2.2.2.2.1, x.2.2.2.2.2.1, x.2.2.2.2.2.2.1, x.2.2.2.2.2.2.2.1, x.2.2.2.2.2.2.2.2.1, x.2.2.2.2.2.2.2.2.2.1, x.2.2.2.2.2.2.2.2.2.2.1, x.2.2.2.2.2.2.2.2.2.2.2.1, x.2.2.2.2.2.2.2.2.2.2.2.2.1, x.2.2.2.2.2.2.2.2.2.2.2.2.2.1, x.2.2.2.2.2.2.2.2.2.2.2.2.2.2.1, x.2.2.2.2.2.2.2.2.2.2.2.2.2.2.2.1, t24.2.1, t24.2.2, t1, x.2.2.2.2.2.2.2.2.2.2.2.2.2.2.2.2.2.2.2)) s.heap H locs := hH
                              refine lv_if_eq (tgt := 279) hx hb dX9_readsOrder_272 (by decide) (fun c25 => ?_) (fun c25 => ?_)
                              · have hf := ite_t hf c25
                                refine lv_iconst (v := 0) hx hb dX9_readsOrder_279 (by decide) ?_
                                cases hf
                                exact e_Wz hC hH hr hlocks rfl rfl rfl dX9_readsOrder_280
                              · have hf := ite_f hf c25
                                refine lv_iconst (v := 1) hx hb dX9_readsOrder_275 (by decide) ?_
                                refine lv_goto (tgt := 280) hx hb dX9_readsOrder_276 (by decide) ?_
                                cases hf
                                exact e_Wz hC hH hr hlocks rfl rfl rfl dX9_readsOrder_280
                      · have hf := ite_f hf c22_10
                        by_cases c22_11 : t1 = (110 : Int32)
                        · have hf := ite_t hf c22_11
                          have e9 : (t1).toInt = 110 := by rw [c22_11]; decide
                          refine lv_tableIn (tgt := 331) hx hb dX9_readsOrder_22 (by omega) (by omega) (by rw [e9]; rfl) (by decide) ?_
                          refine lv_aload_n hx hb dX9_readsOrder_331 rfl (lv_at hl 0 rfl) ?_
                          refine lv_dup hx hb dX9_readsOrder_332 rfl ?_
                          refine gX9_201 hC hH.1 0 rfl (v := .int (x.2.2.2.2.2.2.2.2.2.2.2.2.2.2.2.2.1 + (1 : Int32))) rfl dX9_readsOrder_333 ?_
                          refine lv_iconst (v := 1) hx hb dX9_readsOrder_336 (by decide) ?_
                          refine lv_isub hx hb dX9_readsOrder_337 ?_
                          refine pX9_201 hC hH 0 rfl (v := .int ((x.2.2.2.2.2.2.2.2.2.2.2.2.2.2.2.2.1 + (1 : Int32)) - (1 : Int32))) rfl rfl (Nat.le_of_ble_eq_true rfl) (W1 := wM E ad (x.1, x.2.1, x.2.2.1, x.2.2.2.1, x.2.2.2.2.1, x.2.2.2.2.2.1, x.2.2.2.2.2.2.1, x.2.2.2.2.2.2.2.1, x.2.2.2.2.2.2.2.2.1, x.2.2.2.2.2.2.2.2.2.1, x.2.2.2.2.2.2.2.2.2.2.1, x.2.2.2.2.2.2.2.2.2.2.2.1, x.2.2.2.2.2.2.2.2.2.2.2.2.1, x.2.2.2.2.2.2.2.2.2.2.2.2.2.1, x.2.2.2.2.2.2.2.2.2.2.2.2.2.2.1, x.2.2.2.2.2.2.2.2.2.2.2.2.2.2.2.1, ((x.2.2.2.2.2.2.2.2.2.2.2.2.2.2.2.2.1 + (1 : Int32)) - (1 : Int32)), x.2.2.2.2.2.2.2.2.2.2.2.2.2.2.2.2.2.1, t1, x.2.2.2.2.2.2.2.2.2.2.2.2.2.2.2.2.2.2.2)) rfl dX9_readsOrder_338 (fun H locs hH => ?_)
                          refine lv_iconst (v := 0) hx hb dX9_readsOrder_341 (by decide) ?_
                          cases hf
                          exact e_Wz hC hH hr hlocks rfl rfl rfl dX9_readsOrder_342
                        · have hf := ite_f hf c22_11
                          by_cases c22_12 : t1 = (111 : Int32)
                          · have hf := ite_t hf c22_12
                            have e9 : (t1).toInt = 111 := by rw [c22_12]; decide
                            refine lv_tableIn (tgt := 167) hx hb dX9_readsOrder_22 (by omega) (by omega) (by rw [e9]; rfl) (by decide) ?_
                            refine lv_aload_n hx hb dX9_readsOrder_167 rfl (lv_at hl 0 rfl) ?_
                            refine lv_bipush (v := 117) hx hb dX9_readsOrder_168 (by decide) ?_
                            obtain ⟨t26, ht26, hf⟩ := ob hf
                            refine k_WVsi hC LX9_207 ⟨Nat.le_of_ble_eq_true rfl, Nat.le_of_ble_eq_true rfl⟩ ⟨Nat.zero_le _, Nat.zero_le _⟩ (cM_reads l E ad (x.1, x.2.1, x.2.2.1, x.2.2.2.1, x.2.2.2.2.1, x.2.2.2.2.2.1, x.2.2.2.2.2.2.1, x.2.2.2.2.2.2.2.1, x.2.2.2.2.2.2.2.2.1, x.2.2.2.2.2.2.2.2.2.1, x.2.2.2.2.2.2.2.2.2.2.1, x.2.2.2.2.2.2.2.2.2.2.2.1, x.2.2.2.2.2.2.2.2.2.2.2.2.1, x.2.2.2.2.2.2.2.2.2.2.2.2.2.1, x.2.2.2.2.2.2.2.2.2.2.2.2.2.2.1, x.2.2.2.2.2.2.2.2.2.2.2.2.2.2.2.1, (x.2.2.2.2.2.2.2.2.2.2.2.2.2.2.2.2.1 + (1 : Int32)), x.2.2.2.2.2.2.2.2.2.2.2.2.2.2.2.2.2.1, t1, x.2.2.2.2.2.2.2.2.2.2.2.2.2.2.2.2.2.2.2) (117 : Int32) t26 ht26) rfl rfl hH rfl rfl rfl hl.1 rfl (Nat.le_of_ble_eq_true rfl) rfl dX9_readsOrder_170 (fun H locs hz170 hH => ?_)
                            have hH : Hp E (adr (wM E ad x)) (wM E ad (x.1, x.2.1, x.2.2.1, x.2.2.2.1, x.2.2.2.2.1, x.2.2.2.2.2.1, x.2.2.2.2.2.2.1, x.2.2.2.2.2.2.2.1, x.2.2.2.2.2.2.2.2.1, x.2.2.2.2.2.2.2.2.2.1, x.2.2.2.2.2.2.2.2.2.2.1, x.2.2.2.2.2.2.2.2.2.2.2.1, x.2.2.2.2.2.2.2.2.2.2.2.2.1, x.2.2.2.2.2.2.2.2.2.2.2.2.2.1, x.2.2.2.2.2.2.2.2.2.2.2.2.2.2.1, x.2.2.2.2.2.2.2.2.2.2.2.2.2.2.2.1, t26.2, x.2.2.2.2.2.2.2.2.2.2.2.2.2.2.2.2.2.1, t1, x.2.2.2.2.2.2.2.2.2.2.2.2.2.2.2.2.2.2.2)) s.heap H locs := hH
                            refine lv_if_eq (tgt := 197) hx hb dX9_readsOrder_173 (by decide) (fun c27 => ?_) (fun c27 => ?_)
                            · have hf := ite_t hf c27
                              refine lv_iconst (v := 0) hx hb dX9_readsOrder_197 (by decide) ?_
                              cases hf
                              exact e_Wz hC hH hr hlocks rfl rfl rfl dX9_readsOrder_198
                            · have hf := ite_f hf c27
                              refine lv_aload_n hx hb dX9_readsOrder_176 rfl (lv_at hl 0 rfl) ?_
                              refine lv_bipush (v := 116) hx hb dX9_readsOrder_177 (by decide) ?_
                              obtain ⟨t28, ht28, hf⟩ := ob hf
                              refine k_WVsi hC LX9_207 ⟨Nat.le_of_ble_eq_true rfl, Nat.le_of_ble_eq_true rfl⟩ ⟨Nat.zero_le _, Nat.zero_le _⟩ (cM_reads l E ad (x.1, x.2.1, x.2.2.1, x.2.2.2.1, x.2.2.2.2.1, x.2.2.2.2.2.1, x.2.2.2.2.2.2.1, x.2.2.2.2.2.2.2.1, x.2.2.2.2.2.2.2.2.1, x.2.2.2.2.2.2.2.2.2.1, x.2.2.2.2.2.2.2.2.2.2.1, x.2.2.2.2.2.2.2.2.2.2.2.1, x.2.2.2.2.2.2.2.2.2.2.2.2.1, x.2.2.2.2.2.2.2.2.2.2.2.2.2.1, x.2.2.2.2.2.2.2.2.2.2.2.2.2.2.1, x.2.2.2.2.2.2.2.2.2.2.2.2.2.2.2.1, t26.2, x.2.2.2.2.2.2.2.2.2.2.2.2.2.2.2.2.2.1, t1, x.2.2.2.2.2.2.2.2.2.2.2.2.2.2.2.2.2.2.2) (116 : Int32) t28 ht28) rfl rfl hH rfl rfl rfl hl.1 rfl (Nat.le_of_ble_eq_true rfl) rfl dX9_readsOrder_179 (fun H locs hz179 hH => ?_)
                              have hH : Hp E (adr (wM E ad x)) (wM E ad (x.1, x.2.1, x.2.2.1, x.2.2.2.1, x.2.2.2.2.1, x.2.2.2.2.2.1, x.2.2.2.2.2.2.1, x.2.2.2.2.2.2.2.1, x.2.2.2.2.2.2.2.2.1, x.2.2.2.2.2.2.2.2.2.1, x.2.2.2.2.2.2.2.2.2.2.1, x.2.2.2.2.2.2.2.2.2.2.2.1, x.2.2.2.2.2.2.2.2.2.2.2.2.1, x.2.2.2.2.2.2.2.2.2.2.2.2.2.1, x.2.2.2.2.2.2.2.2.2.2.2.2.2.2.1, x.2.2.2.2.2.2.2.2.2.2.2.2.2.2.2.1, t28.2, x.2.2.2.2.2.2.2.2.2.2.2.2.2.2.2.2.2.1, t1, x.2.2.2.2.2.2.2.2.2.2.2.2.2.2.2.2.2.2.2)) s.heap H locs := hH
                              refine lv_if_eq (tgt := 197) hx hb dX9_readsOrder_182 (by decide) (fun c29 => ?_) (fun c29 => ?_)
                              · have hf := ite_t hf c29
                                refine lv_iconst (v := 0) hx hb dX9_readsOrder_197 (by decide) ?_
                                cases hf
                                exact e_Wz hC hH hr hlocks rfl rfl rfl dX9_readsOrder_198
                              · have hf := ite_f hf c29
                                refine lv_aload_n hx hb dX9_readsOrder_185 rfl (lv_at hl 0 rfl) ?_
                                refine lv_iconst (v := 0) hx hb dX9_readsOrder_186 (by decide) ?_
                                obtain ⟨t30, ht30, hf⟩ := ob hf
                                refine k_WVsi hC LX9_216 ⟨Nat.le_of_ble_eq_true rfl, Nat.le_of_ble_eq_true rfl⟩ ⟨Nat.zero_le _, Nat.zero_le _⟩ (cM_readsNumber l E ad (x.1, x.2.1, x.2.2.1, x.2.2.2.1, x.2.2.2.2.1, x.2.2.2.2.2.1, x.2.2.2.2.2.2.1, x.2.2.2.2.2.2.2.1, x.2.2.2.2.2.2.2.2.1, x.2.2.2.2.2.2.2.2.2.1, x.2.2.2.2.2.2.2.2.2.2.1, x.2.2.2.2.2.2.2.2.2.2.2.1, x.2.2.2.2.2.2.2.2.2.2.2.2.1, x.2.2.2.2.2.2.2.2.2.2.2.2.2.1, x.2.2.2.2.2.2.2.2.2.2.2.2.2.2.1, x.2.2.2.2.2.2.2.2.2.2.2.2.2.2.2.1, t28.2, x.2.2.2.2.2.2.2.2.2.2.2.2.2.2.2.2.2.1, t1, x.2.2.2.2.2.2.2.2.2.2.2.2.2.2.2.2.2.2.2) (0 : Int32) t30 ht30) rfl rfl hH rfl rfl rfl hl.1 rfl (Nat.le_of_ble_eq_true rfl) rfl dX9_readsOrder_187 (fun H locs hz187 hH => ?_)
                                have hH : Hp E (adr (wM E ad x)) (wM E ad (x.1, x.2.1, x.2.2.1, x.2.2.2.1, x.2.2.2.2.1, x.2.2.2.2.2.1, x.2.2.2.2.2.2.1, x.2.2.2.2.2.2.2.1, x.2.2.2.2.2.2.2.2.1, x.2.2.2.2.2.2.2.2.2.1, x.2.2.2.2.2.2.2.2.2.2.1, x.2.2.2.2.2.2.2.2.2.2.2.1, x.2.2.2.2.2.2.2.2.2.2.2.2.1, x.2.2.2.2.2.2.2.2.2.2.2.2.2.1, x.2.2.2.2.2.2.2.2.2.2.2.2.2.2.1, x.2.2.2.2.2.2.2.2.2.2.2.2.2.2.2.1, t30.2.1, t30.2.2, t1, x.2.2.2.2.2.2.2.2.2.2.2.2.2.2.2.2.2.2.2)) s.heap H locs := hH
                                refine lv_if_eq (tgt := 197) hx hb dX9_readsOrder_190 (by decide) (fun c31 => ?_) (fun c31 => ?_)
                                · have hf := ite_t hf c31
                                  refine lv_iconst (v := 0) hx hb dX9_readsOrder_197 (by decide) ?_
                                  cases hf
                                  exact e_Wz hC hH hr hlocks rfl rfl rfl dX9_readsOrder_198
                                · have hf := ite_f hf c31
                                  refine lv_iconst (v := 1) hx hb dX9_readsOrder_193 (by decide) ?_
                                  refine lv_goto (tgt := 198) hx hb dX9_readsOrder_194 (by decide) ?_
                                  cases hf
                                  exact e_Wz hC hH hr hlocks rfl rfl rfl dX9_readsOrder_198
                          · have hf := ite_f hf c22_12
                            by_cases c22_13 : t1 = (112 : Int32)
                            · have hf := ite_t hf c22_13
                              have e9 : (t1).toInt = 112 := by rw [c22_13]; decide
                              refine lv_tableIn (tgt := 104) hx hb dX9_readsOrder_22 (by omega) (by omega) (by rw [e9]; rfl) (by decide) ?_
                              refine lv_aload_n hx hb dX9_readsOrder_104 rfl (lv_at hl 0 rfl) ?_
                              refine lv_bipush (v := 117) hx hb dX9_readsOrder_105 (by decide) ?_
                              obtain ⟨t32, ht32, hf⟩ := ob hf
                              refine k_WVsi hC LX9_207 ⟨Nat.le_of_ble_eq_true rfl, Nat.le_of_ble_eq_true rfl⟩ ⟨Nat.zero_le _, Nat.zero_le _⟩ (cM_reads l E ad (x.1, x.2.1, x.2.2.1, x.2.2.2.1, x.2.2.2.2.1, x.2.2.2.2.2.1, x.2.2.2.2.2.2.1, x.2.2.2.2.2.2.2.1, x.2.2.2.2.2.2.2.2.1, x.2.2.2.2.2.2.2.2.2.1, x.2.2.2.2.2.2.2.2.2.2.1, x.2.2.2.2.2.2.2.2.2.2.2.1, x.2.2.2.2.2.2.2.2.2.2.2.2.1, x.2.2.2.2.2.2.2.2.2.2.2.2.2.1, x.2.2.2.2.2.2.2.2.2.2.2.2.2.2.1, x.2.2.2.2.2.2.2.2.2.2.2.2.2.2.2.1, (x.2.2.2.2.2.2.2.2.2.2.2.2.2.2.2.2.1 + (1 : Int32)), x.2.2.2.2.2.2.2.2.2.2.2.2.2.2.2.2.2.1, t1, x.2.2.2.2.2.2.2.2.2.2.2.2.2.2.2.2.2.2.2) (117 : Int32) t32 ht32) rfl rfl hH rfl rfl rfl hl.1 rfl (Nat.le_of_ble_eq_true rfl) rfl dX9_readsOrder_107 (fun H locs hz107 hH => ?_)
                              have hH : Hp E (adr (wM E ad x)) (wM E ad (x.1, x.2.1, x.2.2.1, x.2.2.2.1, x.2.2.2.2.1, x.2.2.2.2.2.1, x.2.2.2.2.2.2.1, x.2.2.2.2.2.2.2.1, x.2.2.2.2.2.2.2.2.1, x.2.2.2.2.2.2.2.2.2.1, x.2.2.2.2.2.2.2.2.2.2.1, x.2.2.2.2.2.2.2.2.2.2.2.1, x.2.2.2.2.2.2.2.2.2.2.2.2.1, x.2.2.2.2.2.2.2.2.2.2.2.2.2.1, x.2.2.2.2.2.2.2.2.2.2.2.2.2.2.1, x.2.2.2.2.2.2.2.2.2.2.2.2.2.2.2.1, t32.2, x.2.2.2.2.2.2.2.2.2.2.2.2.2.2.2.2.2.1, t1, x.2.2.2.2.2.2.2.2.2.2.2.2.2.2.2.2.2.2.2)) s.heap H locs := hH
                              refine lv_if_eq (tgt := 134) hx hb dX9_readsOrder_110 (by decide) (fun c33 => ?_) (fun c33 => ?_)
                              · have hf := ite_t hf c33
                                refine lv_iconst (v := 0) hx hb dX9_readsOrder_134 (by decide) ?_
                                cases hf
                                exact e_Wz hC hH hr hlocks rfl rfl rfl dX9_readsOrder_135
                              · have hf := ite_f hf c33
                                refine lv_aload_n hx hb dX9_readsOrder_113 rfl (lv_at hl 0 rfl) ?_
                                refine lv_bipush (v := 116) hx hb dX9_readsOrder_114 (by decide) ?_
                                obtain ⟨t34, ht34, hf⟩ := ob hf
                                refine k_WVsi hC LX9_207 ⟨Nat.le_of_ble_eq_true rfl, Nat.le_of_ble_eq_true rfl⟩ ⟨Nat.zero_le _, Nat.zero_le _⟩ (cM_reads l E ad (x.1, x.2.1, x.2.2.1, x.2.2.2.1, x.2.2.2.2.1, x.2.2.2.2.2.1, x.2.2.2.2.2.2.1, x.2.2.2.2.2.2.2.1, x.2.2.2.2.2.2.2.2.1, x.2.2.2.2.2.2.2.2.2.1, x.2.2.2.2.2.2.2.2.2.2.1, x.2.2.2.2.2.2.2.2.2.2.2.1, x.2.2.2.2.2.2.2.2.2.2.2.2.1, x.2.2.2.2.2.2.2.2.2.2.2.2.2.1, x.2.2.2.2.2.2.2.2.2.2.2.2.2.2.1, x.2.2.2.2.2.2.2.2.2.2.2.2.2.2.2.1, t32.2, x.2.2.2.2.2.2.2.2.2.2.2.2.2.2.2.2.2.1, t1, x.2.2.2.2.2.2.2.2.2.2.2.2.2.2.2.2.2.2.2) (116 : Int32) t34 ht34) rfl rfl hH rfl rfl rfl hl.1 rfl (Nat.le_of_ble_eq_true rfl) rfl dX9_readsOrder_116 (fun H locs hz116 hH => ?_)
                                have hH : Hp E (adr (wM E ad x)) (wM E ad (x.1, x.2.1, x.2.2.1, x.2.2.2.1, x.2.2.2.2.1, x.2.2.2.2.2.1, x.2.2.2.2.2.2.1, x.2.2.2.2.2.2.2.1, x.2.2.2.2.2.2.2.2.1, x.2.2.2.2.2.2.2.2.2.1, x.2.2.2.2.2.2.2.2.2.2.1, x.2.2.2.2.2.2.2.2.2.2.2.1, x.2.2.2.2.2.2.2.2.2.2.2.2.1, x.2.2.2.2.2.2.2.2.2.2.2.2.2.1, x.2.2.2.2.2.2.2.2.2.2.2.2.2.2.1, x.2.2.2.2.2.2.2.2.2.2.2.2.2.2.2.1, t34.2, x.2.2.2.2.2.2.2.2.2.2.2.2.2.2.2.2.2.1, t1, x.2.2.2.2.2.2.2.2.2.2.2.2.2.2.2.2.2.2.2)) s.heap H locs := hH
                                refine lv_if_eq (tgt := 134) hx hb dX9_readsOrder_119 (by decide) (fun c35 => ?_) (fun c35 => ?_)
                                · have hf := ite_t hf c35
                                  refine lv_iconst (v := 0) hx hb dX9_readsOrder_134 (by decide) ?_
                                  cases hf
                                  exact e_Wz hC hH hr hlocks rfl rfl rfl dX9_readsOrder_135
                                · have hf := ite_f hf c35
                                  refine lv_aload_n hx hb dX9_readsOrder_122 rfl (lv_at hl 0 rfl) ?_
                                  refine lv_iconst (v := 0) hx hb dX9_readsOrder_123 (by decide) ?_
                                  obtain ⟨t36, ht36, hf⟩ := ob hf
                                  refine k_WVsi hC LX9_216 ⟨Nat.le_of_ble_eq_true rfl, Nat.le_of_ble_eq_true rfl⟩ ⟨Nat.zero_le _, Nat.zero_le _⟩ (cM_readsNumber l E ad (x.1, x.2.1, x.2.2.1, x.2.2.2.1, x.2.2.2.2.1, x.2.2.2.2.2.1, x.2.2.2.2.2.2.1, x.2.2.2.2.2.2.2.1, x.2.2.2.2.2.2.2.2.1, x.2.2.2.2.2.2.2.2.2.1, x.2.2.2.2.2.2.2.2.2.2.1, x.2.2.2.2.2.2.2.2.2.2.2.1, x.2.2.2.2.2.2.2.2.2.2.2.2.1, x.2.2.2.2.2.2.2.2.2.2.2.2.2.1, x.2.2.2.2.2.2.2.2.2.2.2.2.2.2.1, x.2.2.2.2.2.2.2.2.2.2.2.2.2.2.2.1, t34.2, x.2.2.2.2.2.2.2.2.2.2.2.2.2.2.2.2.2.1, t1, x.2.2.2.2.2.2.2.2.2.2.2.2.2.2.2.2.2.2.2) (0 : Int32) t36 ht36) rfl rfl hH rfl rfl rfl hl.1 rfl (Nat.le_of_ble_eq_true rfl) rfl dX9_readsOrder_124 (fun H locs hz124 hH => ?_)
                                  have hH : Hp E (adr (wM E ad x)) (wM E ad (x.1, x.2.1, x.2.2.1, x.2.2.2.1, x.2.2.2.2.1, x.2.2.2.2.2.1, x.2.2.2.2.2.2.1, x.2.2.2.2.2.2.2.1, x.2.2.2.2.2.2.2.2.1, x.2.2.2.2.2.2.2.2.2.1, x.2.2.2.2.2.2.2.2.2.2.1, x.2.2.2.2.2.2.2.2.2.2.2.1, x.2.2.2.2.2.2.2.2.2.2.2.2.1, x.2.2.2.2.2.2.2.2.2.2.2.2.2.1, x.2.2.2.2.2.2.2.2.2.2.2.2.2.2.1, x.2.2.2.2.2.2.2.2.2.2.2.2.2.2.2.1, t36.2.1, t36.2.2, t1, x.2.2.2.2.2.2.2.2.2.2.2.2.2.2.2.2.2.2.2)) s.heap H locs := hH
                                  refine lv_if_eq (tgt := 134) hx hb dX9_readsOrder_127 (by decide) (fun c37 => ?_) (fun c37 => ?_)
                                  · have hf := ite_t hf c37
                                    refine lv_iconst (v := 0) hx hb dX9_readsOrder_134 (by decide) ?_
                                    cases hf
                                    exact e_Wz hC hH hr hlocks rfl rfl rfl dX9_readsOrder_135
                                  · have hf := ite_f hf c37
                                    refine lv_iconst (v := 1) hx hb dX9_readsOrder_130 (by decide) ?_
                                    refine lv_goto (tgt := 135) hx hb dX9_readsOrder_131 (by decide) ?_
                                    cases hf
                                    exact e_Wz hC hH hr hlocks rfl rfl rfl dX9_readsOrder_135
                            · have hf := ite_f hf c22_13
                              by_cases c22_14 : t1 = (113 : Int32)
                              · have hf := ite_t hf c22_14
                                have e9 : (t1).toInt = 113 := by rw [c22_14]; decide
                                refine lv_tableIn (tgt := 331) hx hb dX9_readsOrder_22 (by omega) (by omega) (by rw [e9]; rfl) (by decide) ?_
                                refine lv_aload_n hx hb dX9_readsOrder_331 rfl (lv_at hl 0 rfl) ?_
                                refine lv_dup hx hb dX9_readsOrder_332 rfl ?_
                                refine gX9_201 hC hH.1 0 rfl (v := .int (x.2.2.2.2.2.2.2.2.2.2.2.2.2.2.2.2.1 + (1 : Int32))) rfl dX9_readsOrder_333 ?_
                                refine lv_iconst (v := 1) hx hb dX9_readsOrder_336 (by decide) ?_
                                refine lv_isub hx hb dX9_readsOrder_337 ?_
                                refine pX9_201 hC hH 0 rfl (v := .int ((x.2.2.2.2.2.2.2.2.2.2.2.2.2.2.2.2.1 + (1 : Int32)) - (1 : Int32))) rfl rfl (Nat.le_of_ble_eq_true rfl) (W1 := wM E ad (x.1, x.2.1, x.2.2.1, x.2.2.2.1, x.2.2.2.2.1, x.2.2.2.2.2.1, x.2.2.2.2.2.2.1, x.2.2.2.2.2.2.2.1, x.2.2.2.2.2.2.2.2.1, x.2.2.2.2.2.2.2.2.2.1, x.2.2.2.2.2.2.2.2.2.2.1, x.2.2.2.2.2.2.2.2.2.2.2.1, x.2.2.2.2.2.2.2.2.2.2.2.2.1, x.2.2.2.2.2.2.2.2.2.2.2.2.2.1, x.2.2.2.2.2.2.2.2.2.2.2.2.2.2.1, x.2.2.2.2.2.2.2.2.2.2.2.2.2.2.2.1, ((x.2.2.2.2.2.2.2.2.2.2.2.2.2.2.2.2.1 + (1 : Int32)) - (1 : Int32)), x.2.2.2.2.2.2.2.2.2.2.2.2.2.2.2.2.2.1, t1, x.2.2.2.2.2.2.2.2.2.2.2.2.2.2.2.2.2.2.2)) rfl dX9_readsOrder_338 (fun H locs hH => ?_)
                                refine lv_iconst (v := 0) hx hb dX9_readsOrder_341 (by decide) ?_
                                cases hf
                                exact e_Wz hC hH hr hlocks rfl rfl rfl dX9_readsOrder_342
                              · have hf := ite_f hf c22_14
                                by_cases c22_15 : t1 = (114 : Int32)
                                · have hf := ite_t hf c22_15
                                  have e9 : (t1).toInt = 114 := by rw [c22_15]; decide
                                  refine lv_tableIn (tgt := 331) hx hb dX9_readsOrder_22 (by omega) (by omega) (by rw [e9]; rfl) (by decide) ?_
                                  refine lv_aload_n hx hb dX9_readsOrder_331 rfl (lv_at hl 0 rfl) ?_
                                  refine lv_dup hx hb dX9_readsOrder_332 rfl ?_
                                  refine gX9_201 hC hH.1 0 rfl (v := .int (x.2.2.2.2.2.2.2.2.2.2.2.2.2.2.2.2.1 + (1 : Int32))) rfl dX9_readsOrder_333 ?_
                                  refine lv_iconst (v := 1) hx hb dX9_readsOrder_336 (by decide) ?_
                                  refine lv_isub hx hb dX9_readsOrder_337 ?_
                                  refine pX9_201 hC hH 0 rfl (v := .int ((x.2.2.2.2.2.2.2.2.2.2.2.2.2.2.2.2.1 + (1 : Int32)) - (1 : Int32))) rfl rfl (Nat.le_of_ble_eq_true rfl) (W1 := wM E ad (x.1, x.2.1, x.2.2.1, x.2.2.2.1, x.2.2.2.2.1, x.2.2.2.2.2.1, x.2.2.2.2.2.2.1, x.2.2.2.2.2.2.2.1, x.2.2.2.2.2.2.2.2.1, x.2.2.2.2.2.2.2.2.2.1, x.2.2.2.2.2.2.2.2.2.2.1, x.2.2.2.2.2.2.2.2.2.2.2.1, x.2.2.2.2.2.2.2.2.2.2.2.2.1, x.2.2.2.2.2.2.2.2.2.2.2.2.2.1, x.2.2.2.2.2.2.2.2.2.2.2.2.2.2.1, x.2.2.2.2.2.2.2.2.2.2.2.2.2.2.2.1, ((x.2.2.2.2.2.2.2.2.2.2.2.2.2.2.2.2.1 + (1 : Int32)) - (1 : Int32)), x.2.2.2.2.2.2.2.2.2.2.2.2.2.2.2.2.2.1, t1, x.2.2.2.2.2.2.2.2.2.2.2.2.2.2.2.2.2.2.2)) rfl dX9_readsOrder_338 (fun H locs hH => ?_)
                                  refine lv_iconst (v := 0) hx hb dX9_readsOrder_341 (by decide) ?_
                                  cases hf
                                  exact e_Wz hC hH hr hlocks rfl rfl rfl dX9_readsOrder_342
                                · have hf := ite_f hf c22_15
                                  by_cases c22_16 : t1 = (115 : Int32)
                                  · have hf := ite_t hf c22_16
                                    have e9 : (t1).toInt = 115 := by rw [c22_16]; decide
                                    refine lv_tableIn (tgt := 199) hx hb dX9_readsOrder_22 (by omega) (by omega) (by rw [e9]; rfl) (by decide) ?_
                                    refine lv_aload_n hx hb dX9_readsOrder_199 rfl (lv_at hl 0 rfl) ?_
                                    refine lv_bipush (v := 119) hx hb dX9_readsOrder_200 (by decide) ?_
                                    obtain ⟨t38, ht38, hf⟩ := ob hf
                                    refine k_WVsi hC LX9_207 ⟨Nat.le_of_ble_eq_true rfl, Nat.le_of_ble_eq_true rfl⟩ ⟨Nat.zero_le _, Nat.zero_le _⟩ (cM_reads l E ad (x.1, x.2.1, x.2.2.1, x.2.2.2.1, x.2.2.2.2.1, x.2.2.2.2.2.1, x.2.2.2.2.2.2.1, x.2.2.2.2.2.2.2.1, x.2.2.2.2.2.2.2.2.1, x.2.2.2.2.2.2.2.2.2.1, x.2.2.2.2.2.2.2.2.2.2.1, x.2.2.2.2.2.2.2.2.2.2.2.1, x.2.2.2.2.2.2.2.2.2.2.2.2.1, x.2.2.2.2.2.2.2.2.2.2.2.2.2.1, x.2.2.2.2.2.2.2.2.2.2.2.2.2.2.1, x.2.2.2.2.2.2.2.2.2.2.2.2.2.2.2.1, (x.2.2.2.2.2.2.2.2.2.2.2.2.2.2.2.2.1 + (1 : Int32)), x.2.2.2.2.2.2.2.2.2.2.2.2.2.2.2.2.2.1, t1, x.2.2.2.2.2.2.2.2.2.2.2.2.2.2.2.2.2.2.2) (119 : Int32) t38 ht38) rfl rfl hH rfl rfl rfl hl.1 rfl (Nat.le_of_ble_eq_true rfl) rfl dX9_readsOrder_202 (fun H locs hz202 hH => ?_)
                                    have hH : Hp E (adr (wM E ad x)) (wM E ad (x.1, x.2.1, x.2.2.1, x.2.2.2.1, x.2.2.2.2.1, x.2.2.2.2.2.1, x.2.2.2.2.2.2.1, x.2.2.2.2.2.2.2.1, x.2.2.2.2.2.2.2.2.1, x.2.2.2.2.2.2.2.2.2.1, x.2.2.2.2.2.2.2.2.2.2.1, x.2.2.2.2.2.2.2.2.2.2.2.1, x.2.2.2.2.2.2.2.2.2.2.2.2.1, x.2.2.2.2.2.2.2.2.2.2.2.2.2.1, x.2.2.2.2.2.2.2.2.2.2.2.2.2.2.1, x.2.2.2.2.2.2.2.2.2.2.2.2.2.2.2.1, t38.2, x.2.2.2.2.2.2.2.2.2.2.2.2.2.2.2.2.2.1, t1, x.2.2.2.2.2.2.2.2.2.2.2.2.2.2.2.2.2.2.2)) s.heap H locs := hH
                                    refine lv_if_eq (tgt := 238) hx hb dX9_readsOrder_205 (by decide) (fun c39 => ?_) (fun c39 => ?_)
                                    · have hf := ite_t hf c39
                                      refine lv_iconst (v := 0) hx hb dX9_readsOrder_238 (by decide) ?_
                                      cases hf
                                      exact e_Wz hC hH hr hlocks rfl rfl rfl dX9_readsOrder_239
                                    · have hf := ite_f hf c39
                                      refine lv_aload_n hx hb dX9_readsOrder_208 rfl (lv_at hl 0 rfl) ?_
                                      refine lv_bipush (v := 97) hx hb dX9_readsOrder_209 (by decide) ?_
                                      obtain ⟨t40, ht40, hf⟩ := ob hf
                                      refine k_WVsi hC LX9_207 ⟨Nat.le_of_ble_eq_true rfl, Nat.le_of_ble_eq_true rfl⟩ ⟨Nat.zero_le _, Nat.zero_le _⟩ (cM_reads l E ad (x.1, x.2.1, x.2.2.1, x.2.2.2.1, x.2.2.2.2.1, x.2.2.2.2.2.1, x.2.2.2.2.2.2.1, x.2.2.2.2.2.2.2.1, x.2.2.2.2.2.2.2.2.1, x.2.2.2.2.2.2.2.2.2.1, x.2.2.2.2.2.2.2.2.2.2.1, x.2.2.2.2.2.2.2.2.2.2.2.1, x.2.2.2.2.2.2.2.2.2.2.2.2.1, x.2.2.2.2.2.2.2.2.2.2.2.2.2.1, x.2.2.2.2.2.2.2.2.2.2.2.2.2.2.1, x.2.2.2.2.2.2.2.2.2.2.2.2.2.2.2.1, t38.2, x.2.2.2.2.2.2.2.2.2.2.2.2.2.2.2.2.2.1, t1, x.2.2.2.2.2.2.2.2.2.2.2.2.2.2.2.2.2.2.2) (97 : Int32) t40 ht40) rfl rfl hH rfl rfl rfl hl.1 rfl (Nat.le_of_ble_eq_true rfl) rfl dX9_readsOrder_211 (fun H locs hz211 hH => ?_)
                                      have hH : Hp E (adr (wM E ad x)) (wM E ad (x.1, x.2.1, x.2.2.1, x.2.2.2.1, x.2.2.2.2.1, x.2.2.2.2.2.1, x.2.2.2.2.2.2.1, x.2.2.2.2.2.2.2.1, x.2.2.2.2.2.2.2.2.1, x.2.2.2.2.2.2.2.2.2.1, x.2.2.2.2.2.2.2.2.2.2.1, x.2.2.2.2.2.2.2.2.2.2.2.1, x.2.2.2.2.2.2.2.2.2.2.2.2.1, x.2.2.2.2.2.2.2.2.2.2.2.2.2.1, x.2.2.2.2.2.2.2.2.2.2.2.2.2.2.1, x.2.2.2.2.2.2.2.2.2.2.2.2.2.2.2.1, t40.2, x.2.2.2.2.2.2.2.2.2.2.2.2.2.2.2.2.2.1, t1, x.2.2.2.2.2.2.2.2.2.2.2.2.2.2.2.2.2.2.2)) s.heap H locs := hH
                                      refine lv_if_eq (tgt := 238) hx hb dX9_readsOrder_214 (by decide) (fun c41 => ?_) (fun c41 => ?_)
                                      · have hf := ite_t hf c41
                                        refine lv_iconst (v := 0) hx hb dX9_readsOrder_238 (by decide) ?_
                                        cases hf
                                        exact e_Wz hC hH hr hlocks rfl rfl rfl dX9_readsOrder_239
                                      · have hf := ite_f hf c41
                                        refine lv_aload_n hx hb dX9_readsOrder_217 rfl (lv_at hl 0 rfl) ?_
                                        refine lv_bipush (v := 112) hx hb dX9_readsOrder_218 (by decide) ?_
                                        obtain ⟨t42, ht42, hf⟩ := ob hf
                                        refine k_WVsi hC LX9_207 ⟨Nat.le_of_ble_eq_true rfl, Nat.le_of_ble_eq_true rfl⟩ ⟨Nat.zero_le _, Nat.zero_le _⟩ (cM_reads l E ad (x.1, x.2.1, x.2.2.1, x.2.2.2.1, x.2.2.2.2.1, x.2.2.2.2.2.1, x.2.2.2.2.2.2.1, x.2.2.2.2.2.2.2.1, x.2.2.2.2.2.2.2.2.1, x.2.2.2.2.2.2.2.2.2.1, x.2.2.2.2.2.2.2.2.2.2.1, x.2.2.2.2.2.2.2.2.2.2.2.1, x.2.2.2.2.2.2.2.2.2.2.2.2.1, x.2.2.2.2.2.2.2.2.2.2.2.2.2.1, x.2.2.2.2.2.2.2.2.2.2.2.2.2.2.1, x.2.2.2.2.2.2.2.2.2.2.2.2.2.2.2.1, t40.2, x.2.2.2.2.2.2.2.2.2.2.2.2.2.2.2.2.2.1, t1, x.2.2.2.2.2.2.2.2.2.2.2.2.2.2.2.2.2.2.2) (112 : Int32) t42 ht42) rfl rfl hH rfl rfl rfl hl.1 rfl (Nat.le_of_ble_eq_true rfl) rfl dX9_readsOrder_220 (fun H locs hz220 hH => ?_)
                                        have hH : Hp E (adr (wM E ad x)) (wM E ad (x.1, x.2.1, x.2.2.1, x.2.2.2.1, x.2.2.2.2.1, x.2.2.2.2.2.1, x.2.2.2.2.2.2.1, x.2.2.2.2.2.2.2.1, x.2.2.2.2.2.2.2.2.1, x.2.2.2.2.2.2.2.2.2.1, x.2.2.2.2.2.2.2.2.2.2.1, x.2.2.2.2.2.2.2.2.2.2.2.1, x.2.2.2.2.2.2.2.2.2.2.2.2.1, x.2.2.2.2.2.2.2.2.2.2.2.2.2.1, x.2.2.2.2.2.2.2.2.2.2.2.2.2.2.1, x.2.2.2.2.2.2.2.2.2.2.2.2.2.2.2.1, t42.2, x.2.2.2.2.2.2.2.2.2.2.2.2.2.2.2.2.2.1, t1, x.2.2.2.2.2.2.2.2.2.2.2.2.2.2.2.2.2.2.2)) s.heap H locs := hH
                                        refine lv_if_eq (tgt := 238) hx hb dX9_readsOrder_223 (by decide) (fun c43 => ?_) (fun c43 => ?_)
                                        · have hf := ite_t hf c43
                                          refine lv_iconst (v := 0) hx hb dX9_readsOrder_238 (by decide) ?_
                                          cases hf
                                          exact e_Wz hC hH hr hlocks rfl rfl rfl dX9_readsOrder_239
                                        · have hf := ite_f hf c43
                                          refine lv_aload_n hx hb dX9_readsOrder_226 rfl (lv_at hl 0 rfl) ?_
                                          refine lv_iconst (v := 0) hx hb dX9_readsOrder_227 (by decide) ?_
                                          obtain ⟨t44, ht44, hf⟩ := ob hf
                                          refine k_WVsi hC LX9_216 ⟨Nat.le_of_ble_eq_true rfl, Nat.le_of_ble_eq_true rfl⟩ ⟨Nat.zero_le _, Nat.zero_le _⟩ (cM_readsNumber l E ad (x.1, x.2.1, x.2.2.1, x.2.2.2.1, x.2.2.2.2.1, x.2.2.2.2.2.1, x.2.2.2.2.2.2.1, x.2.2.2.2.2.2.2.1, x.2.2.2.2.2.2.2.2.1, x.2.2.2.2.2.2.2.2.2.1, x.2.2.2.2.2.2.2.2.2.2.1, x.2.2.2.2.2.2.2.2.2.2.2.1, x.2.2.2.2.2.2.2.2.2.2.2.2.1, x.2.2.2.2.2.2.2.2.2.2.2.2.2.1, x.2.2.2.2.2.2.2.2.2.2.2.2.2.2.1, x.2.2.2.2.2.2.2.2.2.2.2.2.2.2.2.1, t42.2, x.2.2.2.2.2.2.2.2.2.2.2.2.2.2.2.2.2.1, t1, x.2.2.2.2.2.2.2.2.2.2.2.2.2.2.2.2.2.2.2) (0 : Int32) t44 ht44) rfl rfl hH rfl rfl rfl hl.1 rfl (Nat.le_of_ble_eq_true rfl) rfl dX9_readsOrder_228 (fun H locs hz228 hH => ?_)
                                          have hH : Hp E (adr (wM E ad x)) (wM E ad (x.1, x.2.1, x.2.2.1, x.2.2.2.1, x.2.2.2.2.1, x.2.2.2.2.2.1, x.2.2.2.2.2.2.1, x.2.2.2.2.2.2.2.1, x.2.2.2.2.2.2.2.2.1, x.2.2.2.2.2.2.2.2.2.1, x.2.2.2.2.2.2.2.2.2.2.1, x.2.2.2.2.2.2.2.2.2.2.2.1, x.2.2.2.2.2.2.2.2.2.2.2.2.1, x.2.2.2.2.2.2.2.2.2.2.2.2.2.1, x.2.2.2.2.2.2.2.2.2.2.2.2.2.2.1, x.2.2.2.2.2.2.2.2.2.2.2.2.2.2.2.1, t44.2.1, t44.2.2, t1, x.2.2.2.2.2.2.2.2.2.2.2.2.2.2.2.2.2.2.2)) s.heap H locs := hH
                                          refine lv_if_eq (tgt := 238) hx hb dX9_readsOrder_231 (by decide) (fun c45 => ?_) (fun c45 => ?_)
                                          · have hf := ite_t hf c45
                                            refine lv_iconst (v := 0) hx hb dX9_readsOrder_238 (by decide) ?_
                                            cases hf
                                            exact e_Wz hC hH hr hlocks rfl rfl rfl dX9_readsOrder_239
                                          · have hf := ite_f hf c45
                                            refine lv_iconst (v := 1) hx hb dX9_readsOrder_234 (by decide) ?_
                                            refine lv_goto (tgt := 239) hx hb dX9_readsOrder_235 (by decide) ?_
                                            cases hf
                                            exact e_Wz hC hH hr hlocks rfl rfl rfl dX9_readsOrder_239
                                  · have hf := ite_f hf c22_16
                                    refine lv_tableOut (tgt := 331) hx hb dX9_readsOrder_22 (by have n99 := lv_neT c22_0 (a := 99) (by decide); have n100 := lv_neT c22_1 (a := 100) (by decide); have n101 := lv_neT c22_2 (a := 101) (by decide); have n102 := lv_neT c22_3 (a := 102) (by decide); have n103 := lv_neT c22_4 (a := 103) (by decide); have n104 := lv_neT c22_5 (a := 104) (by decide); have n105 := lv_neT c22_6 (a := 105) (by decide); have n106 := lv_neT c22_7 (a := 106) (by decide); have n107 := lv_neT c22_8 (a := 107) (by decide); have n108 := lv_neT c22_9 (a := 108) (by decide); have n109 := lv_neT c22_10 (a := 109) (by decide); have n110 := lv_neT c22_11 (a := 110) (by decide); have n111 := lv_neT c22_12 (a := 111) (by decide); have n112 := lv_neT c22_13 (a := 112) (by decide); have n113 := lv_neT c22_14 (a := 113) (by decide); have n114 := lv_neT c22_15 (a := 114) (by decide); have n115 := lv_neT c22_16 (a := 115) (by decide); omega) (by decide) ?_
                                    refine lv_aload_n hx hb dX9_readsOrder_331 rfl (lv_at hl 0 rfl) ?_
                                    refine lv_dup hx hb dX9_readsOrder_332 rfl ?_
                                    refine gX9_201 hC hH.1 0 rfl (v := .int (x.2.2.2.2.2.2.2.2.2.2.2.2.2.2.2.2.1 + (1 : Int32))) rfl dX9_readsOrder_333 ?_
                                    refine lv_iconst (v := 1) hx hb dX9_readsOrder_336 (by decide) ?_
                                    refine lv_isub hx hb dX9_readsOrder_337 ?_
                                    refine pX9_201 hC hH 0 rfl (v := .int ((x.2.2.2.2.2.2.2.2.2.2.2.2.2.2.2.2.1 + (1 : Int32)) - (1 : Int32))) rfl rfl (Nat.le_of_ble_eq_true rfl) (W1 := wM E ad (x.1, x.2.1, x.2.2.1, x.2.2.2.1, x.2.2.2.2.1, x.2.2.2.2.2.1, x.2.2.2.2.2.2.1, x.2.2.2.2.2.2.2.1, x.2.2.2.2.2.2.2.2.1, x.2.2.2.2.2.2.2.2.2.1, x.2.2.2.2.2.2.2.2.2.2.1, x.2.2.2.2.2.2.2.2.2.2.2.1, x.2.2.2.2.2.2.2.2.2.2.2.2.1, x.2.2.2.2.2.2.2.2.2.2.2.2.2.1, x.2.2.2.2.2.2.2.2.2.2.2.2.2.2.1, x.2.2.2.2.2.2.2.2.2.2.2.2.2.2.2.1, ((x.2.2.2.2.2.2.2.2.2.2.2.2.2.2.2.2.1 + (1 : Int32)) - (1 : Int32)), x.2.2.2.2.2.2.2.2.2.2.2.2.2.2.2.2.2.1, t1, x.2.2.2.2.2.2.2.2.2.2.2.2.2.2.2.2.2.2.2)) rfl dX9_readsOrder_338 (fun H locs hH => ?_)
                                    refine lv_iconst (v := 0) hx hb dX9_readsOrder_341 (by decide) ?_
                                    cases hf
                                    exact e_Wz hC hH hr hlocks rfl rfl rfl dX9_readsOrder_342
abbrev rmM_readsAll : Room := { frames := 4, cells := 0, slots := 0, locals := 85 }
set_option maxHeartbeats 4000000 in
set_option maxRecDepth 100000 in
theorem cM_readsAll (l : Launch) (E : eE) (ad : Nat → Nat) (x : TM) (t : Int32 × Int32 × (Nat → Int32) × Int32) (hf : fM_readsAll x.2.2.2.2.2.2.2.2.2.2.2.2.2.2.1 x.2.2.2.2.2.2.2.2.2.2.2.2.2.2.2.1 x.2.2.2.2.2.2.2.2.2.2.2.2.2.2.2.2.1 x.2.2.2.2.2.2.2.2.2.2.2.2.2.2.2.2.2.1 x.2.2.2.2.2.2.2.2.2.2.2.2.2.2.2.2.2.2.1 = some t) : cW l E yX9_readsAll cX9_readsAll 2 (some .boolean) rmM_readsAll [.ref (ad 0)] (wM E ad x) (some (.int t.1)) (wM E ad (x.1, x.2.1, x.2.2.1, x.2.2.2.1, x.2.2.2.2.1, x.2.2.2.2.2.1, x.2.2.2.2.2.2.1, x.2.2.2.2.2.2.2.1, x.2.2.2.2.2.2.2.2.1, x.2.2.2.2.2.2.2.2.2.1, x.2.2.2.2.2.2.2.2.2.2.1, x.2.2.2.2.2.2.2.2.2.2.2.1, x.2.2.2.2.2.2.2.2.2.2.2.2.1, x.2.2.2.2.2.2.2.2.2.2.2.2.2.1, x.2.2.2.2.2.2.2.2.2.2.2.2.2.2.1, x.2.2.2.2.2.2.2.2.2.2.2.2.2.2.2.1, t.2.1, t.2.2.1, t.2.2.2, x.2.2.2.2.2.2.2.2.2.2.2.2.2.2.2.2.2.2.2)) := by
  refine Met.ofW (cc := cX9_readsAll) (maxL := 2) (ret := (some .boolean)) (by decide) rfl ?_
  intro p e s m args below meth c s₁ B hml hv
  obtain ⟨hargs, hP, hK, hD0⟩ := hv
  have hx := B.exec
  have hb := B.bytes
  have hr := B.returns
  have hts := atoms_spec (ws := ws_ yX9_readsAll cX9_readsAll 2 (some .boolean)) B.pre
  have hta : ∀ w ∈ lw_all, w.before args s = true := fun w h => hts w (List.mem_cons_of_mem _ h)
  have hown : s.vm.findClass RX9 = some m.cls := findClass_of_methodNamed B.named
  have hlocks := B.notSynchronized
  have hC : Cx p s m args c cX9_readsAll 2 RX9 E := ⟨hx, hb, hml, hown, hta, hK⟩
  have hH : Hp E (adr (wM E ad x)) (wM E ad x) s.heap s.heap [] := Hp.start hP hD0
  obtain ⟨ls, he, hl⟩ := entry_ (m := m) (n := 2) hargs (Nat.le_of_ble_eq_true rfl)
  rw [he]
  have hl : lv_has ls 2 [(0, .ref (ad 0))] := hl
  show W p l e rmM_readsAll s m args below meth c s.heap [] 0 0 (MQ below (qW E (some .boolean) (some (.int t.1)) (wM E ad x) (wM E ad (x.1, x.2.1, x.2.2.1, x.2.2.2.1, x.2.2.2.2.1, x.2.2.2.2.2.1, x.2.2.2.2.2.2.1, x.2.2.2.2.2.2.2.1, x.2.2.2.2.2.2.2.2.1, x.2.2.2.2.2.2.2.2.2.1, x.2.2.2.2.2.2.2.2.2.2.1, x.2.2.2.2.2.2.2.2.2.2.2.1, x.2.2.2.2.2.2.2.2.2.2.2.2.1, x.2.2.2.2.2.2.2.2.2.2.2.2.2.1, x.2.2.2.2.2.2.2.2.2.2.2.2.2.2.1, x.2.2.2.2.2.2.2.2.2.2.2.2.2.2.2.1, t.2.1, t.2.2.1, t.2.2.2, x.2.2.2.2.2.2.2.2.2.2.2.2.2.2.2.2.2.2.2))) args s 0 0 (adr (wM E ad x))) (F0 m 0 ls [])
  suffices hmain : ∀ (H : Heap) (locs : List Loc), Hp E (adr (wM E ad x)) (wM E ad x) s.heap H locs → W p l e rmM_readsAll s m args below meth c H locs 0 0 (MQ below (qW E (some .boolean) (some (.int t.1)) (wM E ad x) (wM E ad (x.1, x.2.1, x.2.2.1, x.2.2.2.1, x.2.2.2.2.1, x.2.2.2.2.2.1, x.2.2.2.2.2.2.1, x.2.2.2.2.2.2.2.1, x.2.2.2.2.2.2.2.2.1, x.2.2.2.2.2.2.2.2.2.1, x.2.2.2.2.2.2.2.2.2.2.1, x.2.2.2.2.2.2.2.2.2.2.2.1, x.2.2.2.2.2.2.2.2.2.2.2.2.1, x.2.2.2.2.2.2.2.2.2.2.2.2.2.1, x.2.2.2.2.2.2.2.2.2.2.2.2.2.2.1, x.2.2.2.2.2.2.2.2.2.2.2.2.2.2.2.1, t.2.1, t.2.2.1, t.2.2.2, x.2.2.2.2.2.2.2.2.2.2.2.2.2.2.2.2.2.2.2))) args s 0 0 (adr (wM E ad x))) (F0 m 0 ls []) from hmain _ _ hH
  clear hH
  have L7 : ∀ (n : Nat) (y0_16 : Int32) (y0_17 : (Nat → Int32)) (y0_18 : Int32) (a1 : Int32) (ls : Array Slot), lv_has ls 2 [(0, .ref (ad 0)), (1, .int a1)] → ∀ (H : Heap) (locs : List Loc), Hp E (adr (wM E ad x)) (wM E ad (x.1, x.2.1, x.2.2.1, x.2.2.2.1, x.2.2.2.2.1, x.2.2.2.2.2.1, x.2.2.2.2.2.2.1, x.2.2.2.2.2.2.2.1, x.2.2.2.2.2.2.2.2.1, x.2.2.2.2.2.2.2.2.2.1, x.2.2.2.2.2.2.2.2.2.2.1, x.2.2.2.2.2.2.2.2.2.2.2.1, x.2.2.2.2.2.2.2.2.2.2.2.2.1, x.2.2.2.2.2.2.2.2.2.2.2.2.2.1, x.2.2.2.2.2.2.2.2.2.2.2.2.2.2.1, x.2.2.2.2.2.2.2.2.2.2.2.2.2.2.2.1, y0_16, y0_17, y0_18, x.2.2.2.2.2.2.2.2.2.2.2.2.2.2.2.2.2.2.2)) s.heap H locs → fM_readsAll_7 n x.2.2.2.2.2.2.2.2.2.2.2.2.2.2.1 x.2.2.2.2.2.2.2.2.2.2.2.2.2.2.2.1 y0_16 y0_17 y0_18 a1 = some t → W p l e rmM_readsAll s m args below meth c H locs 0 0 (MQ below (qW E (some .boolean) (some (.int t.1)) (wM E ad x) (wM E ad (x.1, x.2.1, x.2.2.1, x.2.2.2.1, x.2.2.2.2.1, x.2.2.2.2.2.1, x.2.2.2.2.2.2.1, x.2.2.2.2.2.2.2.1, x.2.2.2.2.2.2.2.2.1, x.2.2.2.2.2.2.2.2.2.1, x.2.2.2.2.2.2.2.2.2.2.1, x.2.2.2.2.2.2.2.2.2.2.2.1, x.2.2.2.2.2.2.2.2.2.2.2.2.1, x.2.2.2.2.2.2.2.2.2.2.2.2.2.1, x.2.2.2.2.2.2.2.2.2.2.2.2.2.2.1, x.2.2.2.2.2.2.2.2.2.2.2.2.2.2.2.1, t.2.1, t.2.2.1, t.2.2.2, x.2.2.2.2.2.2.2.2.2.2.2.2.2.2.2.2.2.2.2))) args s 0 0 (adr (wM E ad x))) (F0 m 7 ls []) := by
    intro n
    induction n with
    | zero => intro y0_16 y0_17 y0_18 a1 ls hl H locs hH hf; cases hf
    | succ n ih =>
      intro y0_16 y0_17 y0_18 a1 ls hl H locs hH hf
      rw [fM_readsAll_7] at hf
      refine lv_iload_n hx hb dX9_readsAll_7 rfl (lv_at hl 1 rfl) ?_
      refine lv_if_eq (tgt := 30) hx hb dX9_readsAll_8 (by decide) (fun c1 => ?_) (fun c1 => ?_)
      · have hf := ite_t hf c1
        refine lv_aload_n hx hb dX9_readsAll_30 rfl (lv_at hl 0 rfl) ?_
        refine gX9_201 hC hH.1 0 rfl (v := .int y0_16) rfl dX9_readsAll_31 ?_
        refine lv_aload_n hx hb dX9_readsAll_34 rfl (lv_at hl 0 rfl) ?_
        refine gX9_198 hC hH.1 0 rfl (v := .int x.2.2.2.2.2.2.2.2.2.2.2.2.2.2.2.1) rfl dX9_readsAll_35 ?_
        refine lv_icmp_ne (tgt := 45) hx hb dX9_readsAll_38 (by decide) (fun c2 => ?_) (fun c2 => ?_)
        · have hf := ite_f hf c2
          refine lv_iconst (v := 0) hx hb dX9_readsAll_45 (by decide) ?_
          cases hf
          exact e_Wz hC hH hr hlocks rfl rfl rfl dX9_readsAll_46
        · have hf := ite_t hf c2
          refine lv_iconst (v := 1) hx hb dX9_readsAll_41 (by decide) ?_
          refine lv_goto (tgt := 46) hx hb dX9_readsAll_42 (by decide) ?_
          cases hf
          exact e_Wz hC hH hr hlocks rfl rfl rfl dX9_readsAll_46
      · have hf := ite_f hf c1
        refine lv_aload_n hx hb dX9_readsAll_11 rfl (lv_at hl 0 rfl) ?_
        obtain ⟨t3, ht3, hf⟩ := ob hf
        refine k_WVsi hC LX9_219 ⟨Nat.le_of_ble_eq_true rfl, Nat.le_of_ble_eq_true rfl⟩ ⟨Nat.zero_le _, Nat.zero_le _⟩ (cM_readsOrder l E ad (x.1, x.2.1, x.2.2.1, x.2.2.2.1, x.2.2.2.2.1, x.2.2.2.2.2.1, x.2.2.2.2.2.2.1, x.2.2.2.2.2.2.2.1, x.2.2.2.2.2.2.2.2.1, x.2.2.2.2.2.2.2.2.2.1, x.2.2.2.2.2.2.2.2.2.2.1, x.2.2.2.2.2.2.2.2.2.2.2.1, x.2.2.2.2.2.2.2.2.2.2.2.2.1, x.2.2.2.2.2.2.2.2.2.2.2.2.2.1, x.2.2.2.2.2.2.2.2.2.2.2.2.2.2.1, x.2.2.2.2.2.2.2.2.2.2.2.2.2.2.2.1, y0_16, y0_17, y0_18, x.2.2.2.2.2.2.2.2.2.2.2.2.2.2.2.2.2.2.2) t3 ht3) rfl rfl hH rfl rfl rfl hl.1 rfl (Nat.le_of_ble_eq_true rfl) rfl dX9_readsAll_12 (fun H locs hz12 hH => ?_)
        have hH : Hp E (adr (wM E ad x)) (wM E ad (x.1, x.2.1, x.2.2.1, x.2.2.2.1, x.2.2.2.2.1, x.2.2.2.2.2.1, x.2.2.2.2.2.2.1, x.2.2.2.2.2.2.2.1, x.2.2.2.2.2.2.2.2.1, x.2.2.2.2.2.2.2.2.2.1, x.2.2.2.2.2.2.2.2.2.2.1, x.2.2.2.2.2.2.2.2.2.2.2.1, x.2.2.2.2.2.2.2.2.2.2.2.2.1, x.2.2.2.2.2.2.2.2.2.2.2.2.2.1, x.2.2.2.2.2.2.2.2.2.2.2.2.2.2.1, x.2.2.2.2.2.2.2.2.2.2.2.2.2.2.2.1, t3.2.1, t3.2.2.1, t3.2.2.2, x.2.2.2.2.2.2.2.2.2.2.2.2.2.2.2.2.2.2.2)) s.heap H locs := hH
        refine lv_if_ne (tgt := 20) hx hb dX9_readsAll_15 (by decide) (fun c4 => ?_) (fun c4 => ?_)
        · have hf := ite_f hf c4
          refine lv_aload_n hx hb dX9_readsAll_20 rfl (lv_at hl 0 rfl) ?_
          refine lv_bipush (v := 59) hx hb dX9_readsAll_21 (by decide) ?_
          obtain ⟨t5, ht5, hf⟩ := ob hf
          refine k_WVsi hC LX9_207 ⟨Nat.le_of_ble_eq_true rfl, Nat.le_of_ble_eq_true rfl⟩ ⟨Nat.zero_le _, Nat.zero_le _⟩ (cM_reads l E ad (x.1, x.2.1, x.2.2.1, x.2.2.2.1, x.2.2.2.2.1, x.2.2.2.2.2.1, x.2.2.2.2.2.2.1, x.2.2.2.2.2.2.2.1, x.2.2.2.2.2.2.2.2.1, x.2.2.2.2.2.2.2.2.2.1, x.2.2.2.2.2.2.2.2.2.2.1, x.2.2.2.2.2.2.2.2.2.2.2.1, x.2.2.2.2.2.2.2.2.2.2.2.2.1, x.2.2.2.2.2.2.2.2.2.2.2.2.2.1, x.2.2.2.2.2.2.2.2.2.2.2.2.2.2.1, x.2.2.2.2.2.2.2.2.2.2.2.2.2.2.2.1, t3.2.1, t3.2.2.1, t3.2.2.2, x.2.2.2.2.2.2.2.2.2.2.2.2.2.2.2.2.2.2.2) (59 : Int32) t5 ht5) rfl rfl hH rfl rfl rfl hl.1 rfl (Nat.le_of_ble_eq_true rfl) rfl dX9_readsAll_23 (fun H locs hz23 hH => ?_)
          have hH : Hp E (adr (wM E ad x)) (wM E ad (x.1, x.2.1, x.2.2.1, x.2.2.2.1, x.2.2.2.2.1, x.2.2.2.2.2.1, x.2.2.2.2.2.2.1, x.2.2.2.2.2.2.2.1, x.2.2.2.2.2.2.2.2.1, x.2.2.2.2.2.2.2.2.2.1, x.2.2.2.2.2.2.2.2.2.2.1, x.2.2.2.2.2.2.2.2.2.2.2.1, x.2.2.2.2.2.2.2.2.2.2.2.2.1, x.2.2.2.2.2.2.2.2.2.2.2.2.2.1, x.2.2.2.2.2.2.2.2.2.2.2.2.2.2.1, x.2.2.2.2.2.2.2.2.2.2.2.2.2.2.2.1, t5.2, t3.2.2.1, t3.2.2.2, x.2.2.2.2.2.2.2.2.2.2.2.2.2.2.2.2.2.2.2)) s.heap H locs := hH
          refine lv_istore_n (lv' := [(1, .int t5.1), (0, .ref (ad 0))]) hx hb dX9_readsAll_26 rfl hl (by decide) rfl (fun ls hl => ?_)
          refine lv_goto (tgt := 7) hx hb dX9_readsAll_27 (by decide) ?_
          exact ih t5.2 t3.2.2.1 t3.2.2.2 t5.1 ls (lv_sub hl [1, 0] rfl) _ _ hH hf
        · have hf := ite_t hf c4
          refine lv_iconst (v := 0) hx hb dX9_readsAll_18 (by decide) ?_
          cases hf
          exact e_Wz hC hH hr hlocks rfl rfl rfl dX9_readsAll_19
  intro H locs hH
  rw [fM_readsAll] at hf
  refine lv_aload_n hx hb dX9_readsAll_0 rfl (lv_at hl 0 rfl) ?_
  refine lv_iconst (v := 0) hx hb dX9_readsAll_1 (by decide) ?_
  refine pX9_201 hC hH 0 rfl (v := .int (0 : Int32)) rfl rfl (Nat.le_of_ble_eq_true rfl) (W1 := wM E ad (x.1, x.2.1, x.2.2.1, x.2.2.2.1, x.2.2.2.2.1, x.2.2.2.2.2.1, x.2.2.2.2.2.2.1, x.2.2.2.2.2.2.2.1, x.2.2.2.2.2.2.2.2.1, x.2.2.2.2.2.2.2.2.2.1, x.2.2.2.2.2.2.2.2.2.2.1, x.2.2.2.2.2.2.2.2.2.2.2.1, x.2.2.2.2.2.2.2.2.2.2.2.2.1, x.2.2.2.2.2.2.2.2.2.2.2.2.2.1, x.2.2.2.2.2.2.2.2.2.2.2.2.2.2.1, x.2.2.2.2.2.2.2.2.2.2.2.2.2.2.2.1, (0 : Int32), x.2.2.2.2.2.2.2.2.2.2.2.2.2.2.2.2.2)) rfl dX9_readsAll_2 (fun H locs hH => ?_)
  refine lv_iconst (v := 1) hx hb dX9_readsAll_5 (by decide) ?_
  refine lv_istore_n (lv' := [(1, .int (1 : Int32)), (0, .ref (ad 0))]) hx hb dX9_readsAll_6 rfl hl (by decide) rfl (fun ls hl => ?_)
  exact L7 FU (0 : Int32) x.2.2.2.2.2.2.2.2.2.2.2.2.2.2.2.2.2.1 x.2.2.2.2.2.2.2.2.2.2.2.2.2.2.2.2.2.2.1 (1 : Int32) ls (lv_sub hl [1, 0] rfl) _ _ hH hf
abbrev rmM_notNow : Room := { frames := 3, cells := 0, slots := 0, locals := 64 }
set_option maxHeartbeats 4000000 in
set_option maxRecDepth 100000 in
theorem cM_notNow (l : Launch) (E : eE) (ad : Nat → Nat) (x : TM) (t : Int32 × Int32 × Int32) (hf : fM_notNow x.2.2.1 x.2.2.2.1 x.2.2.2.2.1 x.2.2.2.2.2.2.2.2.2.2.2.2.2.2.2.2.2.1 x.2.2.2.2.2.2.2.2.2.2.2.2.2.2.2.2.2.2.1 = some t) : cW l E yX9_notNow cX9_notNow 2 (some .int) rmM_notNow [.ref (ad 0)] (wM E ad x) (some (.int t.1)) (wM E ad (x.1, x.2.1, t.2.1, t.2.2, x.2.2.2.2)) := by
  refine Met.ofW (cc := cX9_notNow) (maxL := 2) (ret := (some .int)) (by decide) rfl ?_
  intro p e s m args below meth c s₁ B hml hv
  obtain ⟨hargs, hP, hK, hD0⟩ := hv
  have hx := B.exec
  have hb := B.bytes
  have hr := B.returns
  have hts := atoms_spec (ws := ws_ yX9_notNow cX9_notNow 2 (some .int)) B.pre
  have hta : ∀ w ∈ lw_all, w.before args s = true := fun w h => hts w (List.mem_cons_of_mem _ h)
  have hown : s.vm.findClass RX9 = some m.cls := findClass_of_methodNamed B.named
  have hlocks := B.notSynchronized
  have hC : Cx p s m args c cX9_notNow 2 RX9 E := ⟨hx, hb, hml, hown, hta, hK⟩
  have hH : Hp E (adr (wM E ad x)) (wM E ad x) s.heap s.heap [] := Hp.start hP hD0
  obtain ⟨ls, he, hl⟩ := entry_ (m := m) (n := 2) hargs (Nat.le_of_ble_eq_true rfl)
  rw [he]
  have hl : lv_has ls 2 [(0, .ref (ad 0))] := hl
  show W p l e rmM_notNow s m args below meth c s.heap [] 0 0 (MQ below (qW E (some .int) (some (.int t.1)) (wM E ad x) (wM E ad (x.1, x.2.1, t.2.1, t.2.2, x.2.2.2.2))) args s 0 0 (adr (wM E ad x))) (F0 m 0 ls [])
  suffices hmain : ∀ (H : Heap) (locs : List Loc), Hp E (adr (wM E ad x)) (wM E ad x) s.heap H locs → W p l e rmM_notNow s m args below meth c H locs 0 0 (MQ below (qW E (some .int) (some (.int t.1)) (wM E ad x) (wM E ad (x.1, x.2.1, t.2.1, t.2.2, x.2.2.2.2))) args s 0 0 (adr (wM E ad x))) (F0 m 0 ls []) from hmain _ _ hH
  clear hH
  intro H locs hH
  rw [fM_notNow] at hf
  refine lv_aload_n hx hb dX9_notNow_0 rfl (lv_at hl 0 rfl) ?_
  refine gX9_32 hC hH.1 0 rfl (v := .ref (ad 8)) rfl dX9_notNow_1 ?_
  refine lv_iconst (v := 0) hx hb dX9_notNow_4 (by decide) ?_
  obtain ⟨v1, hv1, hf⟩ := ob hf
  obtain ⟨hv1a, hv1b⟩ := ldA_ok hv1
  refine a_ild hC hH.1 8 rfl hv1a hv1b dX9_notNow_5 ?_
  refine lv_istore_n (lv' := [(1, .int v1), (0, .ref (ad 0))]) hx hb dX9_notNow_6 rfl hl (by decide) rfl (fun ls hl => ?_)
  refine lv_aload_n hx hb dX9_notNow_7 rfl (lv_at hl 1 rfl) ?_
  refine gX9_213 hC hH.1 0 rfl (v := .int x.2.2.2.2.2.2.2.2.2.2.2.2.2.2.2.2.2.2.1) rfl dX9_notNow_8 ?_
  by_cases c11_0 : x.2.2.2.2.2.2.2.2.2.2.2.2.2.2.2.2.2.2.1 = (105 : Int32)
  · have hf := ite_t hf c11_0
    refine lv_lookup (tgt := 64) hx hb dX9_notNow_11 (by decide) (by rw [c11_0]; decide) (by decide) ?_
    refine lv_aload_n hx hb dX9_notNow_64 rfl (lv_at hl 1 rfl) ?_
    refine lv_iload_n hx hb dX9_notNow_65 rfl (lv_at hl 0 rfl) ?_
    refine lv_aload_n hx hb dX9_notNow_66 rfl (lv_at hl 1 rfl) ?_
    refine gX9_32 hC hH.1 0 rfl (v := .ref (ad 8)) rfl dX9_notNow_67 ?_
    refine lv_iconst (v := 1) hx hb dX9_notNow_70 (by decide) ?_
    obtain ⟨v2, hv2, hf⟩ := ob hf
    obtain ⟨hv2a, hv2b⟩ := ldA_ok hv2
    refine a_ild hC hH.1 8 rfl hv2a hv2b dX9_notNow_71 ?_
    obtain ⟨t3, ht3, hf⟩ := ob hf
    refine k_WVsi hC LX9_72 ⟨Nat.le_of_ble_eq_true rfl, Nat.le_of_ble_eq_true rfl⟩ ⟨Nat.zero_le _, Nat.zero_le _⟩ (cM_notInsert l E ad x v1 v2 t3 ht3) rfl rfl hH rfl rfl rfl hl.1 rfl (Nat.le_of_ble_eq_true rfl) rfl dX9_notNow_72 (fun H locs hz72 hH => ?_)
    have hH : Hp E (adr (wM E ad x)) (wM E ad (x.1, x.2.1, t3.2.1, t3.2.2, x.2.2.2.2)) s.heap H locs := hH
    cases hf
    exact e_Wi hC hH hr hlocks rfl rfl dX9_notNow_75
  · have hf := ite_f hf c11_0
    by_cases c11_1 : x.2.2.2.2.2.2.2.2.2.2.2.2.2.2.2.2.2.2.1 = (111 : Int32)
    · have hf := ite_t hf c11_1
      refine lv_lookup (tgt := 76) hx hb dX9_notNow_11 (by decide) (by rw [c11_1]; decide) (by decide) ?_
      refine lv_aload_n hx hb dX9_notNow_76 rfl (lv_at hl 1 rfl) ?_
      refine lv_iload_n hx hb dX9_notNow_77 rfl (lv_at hl 0 rfl) ?_
      obtain ⟨t4, ht4, hf⟩ := ob hf
      refine k_PVi hC LX9_89 ⟨Nat.le_of_ble_eq_true rfl, Nat.le_of_ble_eq_true rfl⟩ ⟨Nat.zero_le _, Nat.zero_le _⟩ (cM_isLetter l E ad x v1 t4 ht4) rfl rfl hH.1 rfl rfl hl.1 rfl (Nat.le_of_ble_eq_true rfl) rfl dX9_notNow_78 (fun hz78 => ?_)
      refine lv_if_eq (tgt := 88) hx hb dX9_notNow_81 (by decide) (fun c5 => ?_) (fun c5 => ?_)
      · have hf := ite_t hf c5
        refine lv_bipush (v := (-11)) hx hb dX9_notNow_88 (by decide) ?_
        cases hf
        exact e_Wi hC hH hr hlocks rfl rfl dX9_notNow_90
      · have hf := ite_f hf c5
        refine lv_iconst (v := 0) hx hb dX9_notNow_84 (by decide) ?_
        refine lv_goto (tgt := 90) hx hb dX9_notNow_85 (by decide) ?_
        cases hf
        exact e_Wi hC hH hr hlocks rfl rfl dX9_notNow_90
    · have hf := ite_f hf c11_1
      by_cases c11_2 : x.2.2.2.2.2.2.2.2.2.2.2.2.2.2.2.2.2.2.1 = (112 : Int32)
      · have hf := ite_t hf c11_2
        refine lv_lookup (tgt := 52) hx hb dX9_notNow_11 (by decide) (by rw [c11_2]; decide) (by decide) ?_
        refine lv_aload_n hx hb dX9_notNow_52 rfl (lv_at hl 1 rfl) ?_
        refine lv_aload_n hx hb dX9_notNow_53 rfl (lv_at hl 1 rfl) ?_
        refine gX9_7 hC hH.1 0 rfl (v := .ref (ad 1)) rfl dX9_notNow_54 ?_
        refine lv_iconst (v := 0) hx hb dX9_notNow_57 (by decide) ?_
        obtain ⟨v6, hv6, hf⟩ := ob hf
        obtain ⟨hv6a, hv6b⟩ := ldA_ok hv6
        refine a_ild hC hH.1 1 rfl hv6a hv6b dX9_notNow_58 ?_
        refine lv_iload_n hx hb dX9_notNow_59 rfl (lv_at hl 0 rfl) ?_
        obtain ⟨t7, ht7, hf⟩ := ob hf
        refine k_WVsi hC LX9_72 ⟨Nat.le_of_ble_eq_true rfl, Nat.le_of_ble_eq_true rfl⟩ ⟨Nat.zero_le _, Nat.zero_le _⟩ (cM_notInsert l E ad x v6 v1 t7 ht7) rfl rfl hH rfl rfl rfl hl.1 rfl (Nat.le_of_ble_eq_true rfl) rfl dX9_notNow_60 (fun H locs hz60 hH => ?_)
        have hH : Hp E (adr (wM E ad x)) (wM E ad (x.1, x.2.1, t7.2.1, t7.2.2, x.2.2.2.2)) s.heap H locs := hH
        cases hf
        exact e_Wi hC hH hr hlocks rfl rfl dX9_notNow_63
      · have hf := ite_f hf c11_2
        by_cases c11_3 : x.2.2.2.2.2.2.2.2.2.2.2.2.2.2.2.2.2.2.1 = (115 : Int32)
        · have hf := ite_t hf c11_3
          refine lv_lookup (tgt := 91) hx hb dX9_notNow_11 (by decide) (by rw [c11_3]; decide) (by decide) ?_
          refine lv_aload_n hx hb dX9_notNow_91 rfl (lv_at hl 1 rfl) ?_
          refine lv_iload_n hx hb dX9_notNow_92 rfl (lv_at hl 0 rfl) ?_
          obtain ⟨t8, ht8, hf⟩ := ob hf
          refine k_WVsi hC LX9_95 ⟨Nat.le_of_ble_eq_true rfl, Nat.le_of_ble_eq_true rfl⟩ ⟨Nat.zero_le _, Nat.zero_le _⟩ (cM_notSwap l E ad x v1 t8 ht8) rfl rfl hH rfl rfl rfl hl.1 rfl (Nat.le_of_ble_eq_true rfl) rfl dX9_notNow_93 (fun H locs hz93 hH => ?_)
          have hH : Hp E (adr (wM E ad x)) (wM E ad (x.1, x.2.1, t8.2.1, t8.2.2, x.2.2.2.2)) s.heap H locs := hH
          cases hf
          exact e_Wi hC hH hr hlocks rfl rfl dX9_notNow_96
        · have hf := ite_f hf c11_3
          refine lv_lookup (tgt := 97) hx hb dX9_notNow_11 (by decide) (by show Op.lookupswitch.offset [(105, 53), (111, 65), (112, 41), (115, 80)] _ _ = _; rw [lv_osw c11_0 (by decide), lv_osw c11_1 (by decide), lv_osw c11_2 (by decide), lv_osw c11_3 (by decide)]; rfl) (by decide) ?_
          refine lv_aload_n hx hb dX9_notNow_97 rfl (lv_at hl 1 rfl) ?_
          refine lv_iload_n hx hb dX9_notNow_98 rfl (lv_at hl 0 rfl) ?_
          refine lv_aload_n hx hb dX9_notNow_99 rfl (lv_at hl 1 rfl) ?_
          refine gX9_213 hC hH.1 0 rfl (v := .int x.2.2.2.2.2.2.2.2.2.2.2.2.2.2.2.2.2.2.1) rfl dX9_notNow_100 ?_
          refine lv_bipush (v := 109) hx hb dX9_notNow_103 (by decide) ?_
          refine lv_icmp_ne (tgt := 112) hx hb dX9_notNow_105 (by decide) (fun c9 => ?_) (fun c9 => ?_)
          · have hf := ite_f hf c9
            refine lv_iconst (v := 0) hx hb dX9_notNow_112 (by decide) ?_
            obtain ⟨t10, ht10, hf⟩ := ob hf
            refine k_WVsi hC LX9_108 ⟨Nat.le_of_ble_eq_true rfl, Nat.le_of_ble_eq_true rfl⟩ ⟨Nat.zero_le _, Nat.zero_le _⟩ (cM_notMark l E ad x v1 (0 : Int32) t10 ht10) rfl rfl hH rfl rfl rfl hl.1 rfl (Nat.le_of_ble_eq_true rfl) rfl dX9_notNow_113 (fun H locs hz113 hH => ?_)
            have hH : Hp E (adr (wM E ad x)) (wM E ad (x.1, x.2.1, t10.2.1, t10.2.2, x.2.2.2.2)) s.heap H locs := hH
            cases hf
            exact e_Wi hC hH hr hlocks rfl rfl dX9_notNow_116
          · have hf := ite_t hf c9
            refine lv_iconst (v := 1) hx hb dX9_notNow_108 (by decide) ?_
            refine lv_goto (tgt := 113) hx hb dX9_notNow_109 (by decide) ?_
            obtain ⟨t11, ht11, hf⟩ := ob hf
            refine k_WVsi hC LX9_108 ⟨Nat.le_of_ble_eq_true rfl, Nat.le_of_ble_eq_true rfl⟩ ⟨Nat.zero_le _, Nat.zero_le _⟩ (cM_notMark l E ad x v1 (1 : Int32) t11 ht11) rfl rfl hH rfl rfl rfl hl.1 rfl (Nat.le_of_ble_eq_true rfl) rfl dX9_notNow_113 (fun H locs hz113 hH => ?_)
            have hH : Hp E (adr (wM E ad x)) (wM E ad (x.1, x.2.1, t11.2.1, t11.2.2, x.2.2.2.2)) s.heap H locs := hH
            cases hf
            exact e_Wi hC hH hr hlocks rfl rfl dX9_notNow_116
abbrev rmM_doesNow : Room := { frames := 2, cells := 0, slots := 0, locals := 44 }
set_option maxHeartbeats 4000000 in
set_option maxRecDepth 100000 in
theorem cM_doesNow (l : Launch) (E : eE) (ad : Nat → Nat) (x : TM) (t : (Nat → Int32)) (hf : fM_doesNow x.2.2.2.2.1 x.2.2.2.2.2.2.2.2.2.2.2.2.2.2.2.2.2.1 x.2.2.2.2.2.2.2.2.2.2.2.2.2.2.2.2.2.2.1 = some t) : cW l E yX9_doesNow cX9_doesNow 2 none rmM_doesNow [.ref (ad 0)] (wM E ad x) none (wM E ad (x.1, x.2.1, x.2.2.1, x.2.2.2.1, t, x.2.2.2.2.2)) := by
  refine Met.ofW (cc := cX9_doesNow) (maxL := 2) (ret := none) (by decide) rfl ?_
  intro p e s m args below meth c s₁ B hml hv
  obtain ⟨hargs, hP, hK, hD0⟩ := hv
  have hx := B.exec
  have hb := B.bytes
  have hr := B.returns
  have hts := atoms_spec (ws := ws_ yX9_doesNow cX9_doesNow 2 none) B.pre
  have hta : ∀ w ∈ lw_all, w.before args s = true := fun w h => hts w (List.mem_cons_of_mem _ h)
  have hown : s.vm.findClass RX9 = some m.cls := findClass_of_methodNamed B.named
  have hlocks := B.notSynchronized
  have hC : Cx p s m args c cX9_doesNow 2 RX9 E := ⟨hx, hb, hml, hown, hta, hK⟩
  have hH : Hp E (adr (wM E ad x)) (wM E ad x) s.heap s.heap [] := Hp.start hP hD0
  obtain ⟨ls, he, hl⟩ := entry_ (m := m) (n := 2) hargs (Nat.le_of_ble_eq_true rfl)
  rw [he]
  have hl : lv_has ls 2 [(0, .ref (ad 0))] := hl
  show W p l e rmM_doesNow s m args below meth c s.heap [] 0 0 (MQ below (qW E none none (wM E ad x) (wM E ad (x.1, x.2.1, x.2.2.1, x.2.2.2.1, t, x.2.2.2.2.2))) args s 0 0 (adr (wM E ad x))) (F0 m 0 ls [])
  suffices hmain : ∀ (H : Heap) (locs : List Loc), Hp E (adr (wM E ad x)) (wM E ad x) s.heap H locs → W p l e rmM_doesNow s m args below meth c H locs 0 0 (MQ below (qW E none none (wM E ad x) (wM E ad (x.1, x.2.1, x.2.2.1, x.2.2.2.1, t, x.2.2.2.2.2))) args s 0 0 (adr (wM E ad x))) (F0 m 0 ls []) from hmain _ _ hH
  clear hH
  intro H locs hH
  rw [fM_doesNow] at hf
  refine lv_aload_n hx hb dX9_doesNow_0 rfl (lv_at hl 0 rfl) ?_
  refine gX9_32 hC hH.1 0 rfl (v := .ref (ad 8)) rfl dX9_doesNow_1 ?_
  refine lv_iconst (v := 0) hx hb dX9_doesNow_4 (by decide) ?_
  obtain ⟨v1, hv1, hf⟩ := ob hf
  obtain ⟨hv1a, hv1b⟩ := ldA_ok hv1
  refine a_ild hC hH.1 8 rfl hv1a hv1b dX9_doesNow_5 ?_
  refine lv_istore_n (lv' := [(1, .int v1), (0, .ref (ad 0))]) hx hb dX9_doesNow_6 rfl hl (by decide) rfl (fun ls hl => ?_)
  refine lv_aload_n hx hb dX9_doesNow_7 rfl (lv_at hl 1 rfl) ?_
  refine gX9_213 hC hH.1 0 rfl (v := .int x.2.2.2.2.2.2.2.2.2.2.2.2.2.2.2.2.2.2.1) rfl dX9_doesNow_8 ?_
  by_cases c11_0 : x.2.2.2.2.2.2.2.2.2.2.2.2.2.2.2.2.2.2.1 = (105 : Int32)
  · have hf := ite_t hf c11_0
    refine lv_lookup (tgt := 66) hx hb dX9_doesNow_11 (by decide) (by rw [c11_0]; decide) (by decide) ?_
    refine lv_aload_n hx hb dX9_doesNow_66 rfl (lv_at hl 1 rfl) ?_
    refine lv_iload_n hx hb dX9_doesNow_67 rfl (lv_at hl 0 rfl) ?_
    refine lv_aload_n hx hb dX9_doesNow_68 rfl (lv_at hl 1 rfl) ?_
    refine gX9_32 hC hH.1 0 rfl (v := .ref (ad 8)) rfl dX9_doesNow_69 ?_
    refine lv_iconst (v := 1) hx hb dX9_doesNow_72 (by decide) ?_
    obtain ⟨v2, hv2, hf⟩ := ob hf
    obtain ⟨hv2a, hv2b⟩ := ldA_ok hv2
    refine a_ild hC hH.1 8 rfl hv2a hv2b dX9_doesNow_73 ?_
    obtain ⟨t3, ht3, hf⟩ := ob hf
    refine k_WVsv hC LX9_82 ⟨Nat.le_of_ble_eq_true rfl, Nat.le_of_ble_eq_true rfl⟩ ⟨Nat.zero_le _, Nat.zero_le _⟩ (cM_comes l E ad x v1 v2 t3 ht3) rfl rfl hH rfl rfl rfl hl.1 rfl (Nat.le_of_ble_eq_true rfl) rfl dX9_doesNow_74 (fun H locs hz74 hH => ?_)
    have hH : Hp E (adr (wM E ad x)) (wM E ad (x.1, x.2.1, x.2.2.1, x.2.2.2.1, t3, x.2.2.2.2.2)) s.heap H locs := hH
    refine lv_goto (tgt := 118) hx hb dX9_doesNow_77 (by decide) ?_
    cases hf
    exact e_Wv hC hH hr hlocks rfl dX9_doesNow_118
  · have hf := ite_f hf c11_0
    by_cases c11_1 : x.2.2.2.2.2.2.2.2.2.2.2.2.2.2.2.2.2.2.1 = (111 : Int32)
    · have hf := ite_t hf c11_1
      refine lv_lookup (tgt := 80) hx hb dX9_doesNow_11 (by decide) (by rw [c11_1]; decide) (by decide) ?_
      refine lv_aload_n hx hb dX9_doesNow_80 rfl (lv_at hl 1 rfl) ?_
      refine lv_iload_n hx hb dX9_doesNow_81 rfl (lv_at hl 0 rfl) ?_
      obtain ⟨t4, ht4, hf⟩ := ob hf
      refine k_WVsi hC LX9_92 ⟨Nat.le_of_ble_eq_true rfl, Nat.le_of_ble_eq_true rfl⟩ ⟨Nat.zero_le _, Nat.zero_le _⟩ (cM_goes l E ad x v1 t4 ht4) rfl rfl hH rfl rfl rfl hl.1 rfl (Nat.le_of_ble_eq_true rfl) rfl dX9_doesNow_82 (fun H locs hz82 hH => ?_)
      have hH : Hp E (adr (wM E ad x)) (wM E ad (x.1, x.2.1, x.2.2.1, x.2.2.2.1, t4.2, x.2.2.2.2.2)) s.heap H locs := hH
      refine lv_pop hx hb dX9_doesNow_85 rfl ?_
      refine lv_goto (tgt := 118) hx hb dX9_doesNow_86 (by decide) ?_
      cases hf
      exact e_Wv hC hH hr hlocks rfl dX9_doesNow_118
    · have hf := ite_f hf c11_1
      by_cases c11_2 : x.2.2.2.2.2.2.2.2.2.2.2.2.2.2.2.2.2.2.1 = (112 : Int32)
      · have hf := ite_t hf c11_2
        refine lv_lookup (tgt := 52) hx hb dX9_doesNow_11 (by decide) (by rw [c11_2]; decide) (by decide) ?_
        refine lv_aload_n hx hb dX9_doesNow_52 rfl (lv_at hl 1 rfl) ?_
        refine lv_aload_n hx hb dX9_doesNow_53 rfl (lv_at hl 1 rfl) ?_
        refine gX9_7 hC hH.1 0 rfl (v := .ref (ad 1)) rfl dX9_doesNow_54 ?_
        refine lv_iconst (v := 0) hx hb dX9_doesNow_57 (by decide) ?_
        obtain ⟨v5, hv5, hf⟩ := ob hf
        obtain ⟨hv5a, hv5b⟩ := ldA_ok hv5
        refine a_ild hC hH.1 1 rfl hv5a hv5b dX9_doesNow_58 ?_
        refine lv_iload_n hx hb dX9_doesNow_59 rfl (lv_at hl 0 rfl) ?_
        obtain ⟨t6, ht6, hf⟩ := ob hf
        refine k_WVsv hC LX9_82 ⟨Nat.le_of_ble_eq_true rfl, Nat.le_of_ble_eq_true rfl⟩ ⟨Nat.zero_le _, Nat.zero_le _⟩ (cM_comes l E ad x v5 v1 t6 ht6) rfl rfl hH rfl rfl rfl hl.1 rfl (Nat.le_of_ble_eq_true rfl) rfl dX9_doesNow_60 (fun H locs hz60 hH => ?_)
        have hH : Hp E (adr (wM E ad x)) (wM E ad (x.1, x.2.1, x.2.2.1, x.2.2.2.1, t6, x.2.2.2.2.2)) s.heap H locs := hH
        refine lv_goto (tgt := 118) hx hb dX9_doesNow_63 (by decide) ?_
        cases hf
        exact e_Wv hC hH hr hlocks rfl dX9_doesNow_118
      · have hf := ite_f hf c11_2
        by_cases c11_3 : x.2.2.2.2.2.2.2.2.2.2.2.2.2.2.2.2.2.2.1 = (115 : Int32)
        · have hf := ite_t hf c11_3
          refine lv_lookup (tgt := 89) hx hb dX9_doesNow_11 (by decide) (by rw [c11_3]; decide) (by decide) ?_
          refine lv_aload_n hx hb dX9_doesNow_89 rfl (lv_at hl 1 rfl) ?_
          refine lv_iload_n hx hb dX9_doesNow_90 rfl (lv_at hl 0 rfl) ?_
          obtain ⟨t7, ht7, hf⟩ := ob hf
          refine k_WVsi hC LX9_98 ⟨Nat.le_of_ble_eq_true rfl, Nat.le_of_ble_eq_true rfl⟩ ⟨Nat.zero_le _, Nat.zero_le _⟩ (cM_swaps l E ad x v1 t7 ht7) rfl rfl hH rfl rfl rfl hl.1 rfl (Nat.le_of_ble_eq_true rfl) rfl dX9_doesNow_91 (fun H locs hz91 hH => ?_)
          have hH : Hp E (adr (wM E ad x)) (wM E ad (x.1, x.2.1, x.2.2.1, x.2.2.2.1, t7.2, x.2.2.2.2.2)) s.heap H locs := hH
          refine lv_pop hx hb dX9_doesNow_94 rfl ?_
          refine lv_goto (tgt := 118) hx hb dX9_doesNow_95 (by decide) ?_
          cases hf
          exact e_Wv hC hH hr hlocks rfl dX9_doesNow_118
        · have hf := ite_f hf c11_3
          refine lv_lookup (tgt := 98) hx hb dX9_doesNow_11 (by decide) (by show Op.lookupswitch.offset [(105, 55), (111, 69), (112, 41), (115, 78)] _ _ = _; rw [lv_osw c11_0 (by decide), lv_osw c11_1 (by decide), lv_osw c11_2 (by decide), lv_osw c11_3 (by decide)]; rfl) (by decide) ?_
          refine lv_aload_n hx hb dX9_doesNow_98 rfl (lv_at hl 1 rfl) ?_
          refine lv_iload_n hx hb dX9_doesNow_99 rfl (lv_at hl 0 rfl) ?_
          refine lv_aload_n hx hb dX9_doesNow_100 rfl (lv_at hl 1 rfl) ?_
          refine gX9_213 hC hH.1 0 rfl (v := .int x.2.2.2.2.2.2.2.2.2.2.2.2.2.2.2.2.2.2.1) rfl dX9_doesNow_101 ?_
          refine lv_bipush (v := 109) hx hb dX9_doesNow_104 (by decide) ?_
          refine lv_icmp_ne (tgt := 113) hx hb dX9_doesNow_106 (by decide) (fun c8 => ?_) (fun c8 => ?_)
          · have hf := ite_f hf c8
            refine lv_iconst (v := 0) hx hb dX9_doesNow_113 (by decide) ?_
            obtain ⟨t9, ht9, hf⟩ := ob hf
            refine k_WVsi hC LX9_112 ⟨Nat.le_of_ble_eq_true rfl, Nat.le_of_ble_eq_true rfl⟩ ⟨Nat.zero_le _, Nat.zero_le _⟩ (cM_marks l E ad x v1 (0 : Int32) t9 ht9) rfl rfl hH rfl rfl rfl hl.1 rfl (Nat.le_of_ble_eq_true rfl) rfl dX9_doesNow_114 (fun H locs hz114 hH => ?_)
            have hH : Hp E (adr (wM E ad x)) (wM E ad (x.1, x.2.1, x.2.2.1, x.2.2.2.1, t9.2, x.2.2.2.2.2)) s.heap H locs := hH
            refine lv_pop hx hb dX9_doesNow_117 rfl ?_
            cases hf
            exact e_Wv hC hH hr hlocks rfl dX9_doesNow_118
          · have hf := ite_t hf c8
            refine lv_iconst (v := 1) hx hb dX9_doesNow_109 (by decide) ?_
            refine lv_goto (tgt := 114) hx hb dX9_doesNow_110 (by decide) ?_
            obtain ⟨t10, ht10, hf⟩ := ob hf
            refine k_WVsi hC LX9_112 ⟨Nat.le_of_ble_eq_true rfl, Nat.le_of_ble_eq_true rfl⟩ ⟨Nat.zero_le _, Nat.zero_le _⟩ (cM_marks l E ad x v1 (1 : Int32) t10 ht10) rfl rfl hH rfl rfl rfl hl.1 rfl (Nat.le_of_ble_eq_true rfl) rfl dX9_doesNow_114 (fun H locs hz114 hH => ?_)
            have hH : Hp E (adr (wM E ad x)) (wM E ad (x.1, x.2.1, x.2.2.1, x.2.2.2.1, t10.2, x.2.2.2.2.2)) s.heap H locs := hH
            refine lv_pop hx hb dX9_doesNow_117 rfl ?_
            cases hf
            exact e_Wv hC hH hr hlocks rfl dX9_doesNow_118
abbrev rmM_doesAll : Room := { frames := 4, cells := 0, slots := 0, locals := 85 }
set_option maxHeartbeats 4000000 in
set_option maxRecDepth 100000 in
theorem cM_doesAll (l : Launch) (E : eE) (ad : Nat → Nat) (x : TM) (t : Int32 × Int32 × Int32 × (Nat → Int32) × Int32 × (Nat → Int32) × Int32 × Int32) (hf : fM_doesAll x.2.2.1 x.2.2.2.1 x.2.2.2.2.1 x.2.2.2.2.2.2.2.2.2.2.2.2.2.2.1 x.2.2.2.2.2.2.2.2.2.2.2.2.2.2.2.1 x.2.2.2.2.2.2.2.2.2.2.2.2.2.2.2.2.1 x.2.2.2.2.2.2.2.2.2.2.2.2.2.2.2.2.2.1 x.2.2.2.2.2.2.2.2.2.2.2.2.2.2.2.2.2.2.1 x.2.2.2.2.2.2.2.2.2.2.2.2.2.2.2.2.2.2.2 = some t) : cW l E yX9_doesAll cX9_doesAll 2 (some .boolean) rmM_doesAll [.ref (ad 0)] (wM E ad x) (some (.int t.1)) (wM E ad (x.1, x.2.1, t.2.1, t.2.2.1, t.2.2.2.1, x.2.2.2.2.2.1, x.2.2.2.2.2.2.1, x.2.2.2.2.2.2.2.1, x.2.2.2.2.2.2.2.2.1, x.2.2.2.2.2.2.2.2.2.1, x.2.2.2.2.2.2.2.2.2.2.1, x.2.2.2.2.2.2.2.2.2.2.2.1, x.2.2.2.2.2.2.2.2.2.2.2.2.1, x.2.2.2.2.2.2.2.2.2.2.2.2.2.1, x.2.2.2.2.2.2.2.2.2.2.2.2.2.2.1, x.2.2.2.2.2.2.2.2.2.2.2.2.2.2.2.1, t.2.2.2.2.1, t.2.2.2.2.2.1, t.2.2.2.2.2.2.1, t.2.2.2.2.2.2.2)) := by
  refine Met.ofW (cc := cX9_doesAll) (maxL := 2) (ret := (some .boolean)) (by decide) rfl ?_
  intro p e s m args below meth c s₁ B hml hv
  obtain ⟨hargs, hP, hK, hD0⟩ := hv
  have hx := B.exec
  have hb := B.bytes
  have hr := B.returns
  have hts := atoms_spec (ws := ws_ yX9_doesAll cX9_doesAll 2 (some .boolean)) B.pre
  have hta : ∀ w ∈ lw_all, w.before args s = true := fun w h => hts w (List.mem_cons_of_mem _ h)
  have hown : s.vm.findClass RX9 = some m.cls := findClass_of_methodNamed B.named
  have hlocks := B.notSynchronized
  have hC : Cx p s m args c cX9_doesAll 2 RX9 E := ⟨hx, hb, hml, hown, hta, hK⟩
  have hH : Hp E (adr (wM E ad x)) (wM E ad x) s.heap s.heap [] := Hp.start hP hD0
  obtain ⟨ls, he, hl⟩ := entry_ (m := m) (n := 2) hargs (Nat.le_of_ble_eq_true rfl)
  rw [he]
  have hl : lv_has ls 2 [(0, .ref (ad 0))] := hl
  show W p l e rmM_doesAll s m args below meth c s.heap [] 0 0 (MQ below (qW E (some .boolean) (some (.int t.1)) (wM E ad x) (wM E ad (x.1, x.2.1, t.2.1, t.2.2.1, t.2.2.2.1, x.2.2.2.2.2.1, x.2.2.2.2.2.2.1, x.2.2.2.2.2.2.2.1, x.2.2.2.2.2.2.2.2.1, x.2.2.2.2.2.2.2.2.2.1, x.2.2.2.2.2.2.2.2.2.2.1, x.2.2.2.2.2.2.2.2.2.2.2.1, x.2.2.2.2.2.2.2.2.2.2.2.2.1, x.2.2.2.2.2.2.2.2.2.2.2.2.2.1, x.2.2.2.2.2.2.2.2.2.2.2.2.2.2.1, x.2.2.2.2.2.2.2.2.2.2.2.2.2.2.2.1, t.2.2.2.2.1, t.2.2.2.2.2.1, t.2.2.2.2.2.2.1, t.2.2.2.2.2.2.2))) args s 0 0 (adr (wM E ad x))) (F0 m 0 ls [])
  suffices hmain : ∀ (H : Heap) (locs : List Loc), Hp E (adr (wM E ad x)) (wM E ad x) s.heap H locs → W p l e rmM_doesAll s m args below meth c H locs 0 0 (MQ below (qW E (some .boolean) (some (.int t.1)) (wM E ad x) (wM E ad (x.1, x.2.1, t.2.1, t.2.2.1, t.2.2.2.1, x.2.2.2.2.2.1, x.2.2.2.2.2.2.1, x.2.2.2.2.2.2.2.1, x.2.2.2.2.2.2.2.2.1, x.2.2.2.2.2.2.2.2.2.1, x.2.2.2.2.2.2.2.2.2.2.1, x.2.2.2.2.2.2.2.2.2.2.2.1, x.2.2.2.2.2.2.2.2.2.2.2.2.1, x.2.2.2.2.2.2.2.2.2.2.2.2.2.1, x.2.2.2.2.2.2.2.2.2.2.2.2.2.2.1, x.2.2.2.2.2.2.2.2.2.2.2.2.2.2.2.1, t.2.2.2.2.1, t.2.2.2.2.2.1, t.2.2.2.2.2.2.1, t.2.2.2.2.2.2.2))) args s 0 0 (adr (wM E ad x))) (F0 m 0 ls []) from hmain _ _ hH
  clear hH
  have L12 : ∀ (n : Nat) (y0_2 : Int32) (y0_3 : Int32) (y0_4 : (Nat → Int32)) (y0_16 : Int32) (y0_17 : (Nat → Int32)) (y0_18 : Int32) (y0_19 : Int32) (a1 : Int32) (ls : Array Slot), lv_has ls 2 [(0, .ref (ad 0)), (1, .int a1)] → ∀ (H : Heap) (locs : List Loc), Hp E (adr (wM E ad x)) (wM E ad (x.1, x.2.1, y0_2, y0_3, y0_4, x.2.2.2.2.2.1, x.2.2.2.2.2.2.1, x.2.2.2.2.2.2.2.1, x.2.2.2.2.2.2.2.2.1, x.2.2.2.2.2.2.2.2.2.1, x.2.2.2.2.2.2.2.2.2.2.1, x.2.2.2.2.2.2.2.2.2.2.2.1, x.2.2.2.2.2.2.2.2.2.2.2.2.1, x.2.2.2.2.2.2.2.2.2.2.2.2.2.1, x.2.2.2.2.2.2.2.2.2.2.2.2.2.2.1, x.2.2.2.2.2.2.2.2.2.2.2.2.2.2.2.1, y0_16, y0_17, y0_18, y0_19)) s.heap H locs → fM_doesAll_12 n y0_2 y0_3 y0_4 x.2.2.2.2.2.2.2.2.2.2.2.2.2.2.1 x.2.2.2.2.2.2.2.2.2.2.2.2.2.2.2.1 y0_16 y0_17 y0_18 y0_19 a1 = some t → W p l e rmM_doesAll s m args below meth c H locs 0 0 (MQ below (qW E (some .boolean) (some (.int t.1)) (wM E ad x) (wM E ad (x.1, x.2.1, t.2.1, t.2.2.1, t.2.2.2.1, x.2.2.2.2.2.1, x.2.2.2.2.2.2.1, x.2.2.2.2.2.2.2.1, x.2.2.2.2.2.2.2.2.1, x.2.2.2.2.2.2.2.2.2.1, x.2.2.2.2.2.2.2.2.2.2.1, x.2.2.2.2.2.2.2.2.2.2.2.1, x.2.2.2.2.2.2.2.2.2.2.2.2.1, x.2.2.2.2.2.2.2.2.2.2.2.2.2.1, x.2.2.2.2.2.2.2.2.2.2.2.2.2.2.1, x.2.2.2.2.2.2.2.2.2.2.2.2.2.2.2.1, t.2.2.2.2.1, t.2.2.2.2.2.1, t.2.2.2.2.2.2.1, t.2.2.2.2.2.2.2))) args s 0 0 (adr (wM E ad x))) (F0 m 12 ls []) := by
    intro n
    induction n with
    | zero => intro y0_2 y0_3 y0_4 y0_16 y0_17 y0_18 y0_19 a1 ls hl H locs hH hf; cases hf
    | succ n ih =>
      intro y0_2 y0_3 y0_4 y0_16 y0_17 y0_18 y0_19 a1 ls hl H locs hH hf
      rw [fM_doesAll_12] at hf
      refine lv_iload_n hx hb dX9_doesAll_12 rfl (lv_at hl 1 rfl) ?_
      refine lv_if_eq (tgt := 54) hx hb dX9_doesAll_13 (by decide) (fun c1 => ?_) (fun c1 => ?_)
      · have hf := ite_t hf c1
        refine lv_iconst (v := 1) hx hb dX9_doesAll_54 (by decide) ?_
        cases hf
        exact e_Wz hC hH hr hlocks rfl rfl rfl dX9_doesAll_55
      · have hf := ite_f hf c1
        refine lv_aload_n hx hb dX9_doesAll_16 rfl (lv_at hl 0 rfl) ?_
        obtain ⟨t2, ht2, hf⟩ := ob hf
        refine k_WVsi hC LX9_219 ⟨Nat.le_of_ble_eq_true rfl, Nat.le_of_ble_eq_true rfl⟩ ⟨Nat.zero_le _, Nat.zero_le _⟩ (cM_readsOrder l E ad (x.1, x.2.1, y0_2, y0_3, y0_4, x.2.2.2.2.2.1, x.2.2.2.2.2.2.1, x.2.2.2.2.2.2.2.1, x.2.2.2.2.2.2.2.2.1, x.2.2.2.2.2.2.2.2.2.1, x.2.2.2.2.2.2.2.2.2.2.1, x.2.2.2.2.2.2.2.2.2.2.2.1, x.2.2.2.2.2.2.2.2.2.2.2.2.1, x.2.2.2.2.2.2.2.2.2.2.2.2.2.1, x.2.2.2.2.2.2.2.2.2.2.2.2.2.2.1, x.2.2.2.2.2.2.2.2.2.2.2.2.2.2.2.1, y0_16, y0_17, y0_18, y0_19) t2 ht2) rfl rfl hH rfl rfl rfl hl.1 rfl (Nat.le_of_ble_eq_true rfl) rfl dX9_doesAll_17 (fun H locs hz17 hH => ?_)
        have hH : Hp E (adr (wM E ad x)) (wM E ad (x.1, x.2.1, y0_2, y0_3, y0_4, x.2.2.2.2.2.1, x.2.2.2.2.2.2.1, x.2.2.2.2.2.2.2.1, x.2.2.2.2.2.2.2.2.1, x.2.2.2.2.2.2.2.2.2.1, x.2.2.2.2.2.2.2.2.2.2.1, x.2.2.2.2.2.2.2.2.2.2.2.1, x.2.2.2.2.2.2.2.2.2.2.2.2.1, x.2.2.2.2.2.2.2.2.2.2.2.2.2.1, x.2.2.2.2.2.2.2.2.2.2.2.2.2.2.1, x.2.2.2.2.2.2.2.2.2.2.2.2.2.2.2.1, t2.2.1, t2.2.2.1, t2.2.2.2, y0_19)) s.heap H locs := hH
        refine lv_pop hx hb dX9_doesAll_20 rfl ?_
        refine lv_aload_n hx hb dX9_doesAll_21 rfl (lv_at hl 0 rfl) ?_
        obtain ⟨t3, ht3, hf⟩ := ob hf
        refine k_WVsi hC LX9_226 ⟨Nat.le_of_ble_eq_true rfl, Nat.le_of_ble_eq_true rfl⟩ ⟨Nat.zero_le _, Nat.zero_le _⟩ (cM_notNow l E ad (x.1, x.2.1, y0_2, y0_3, y0_4, x.2.2.2.2.2.1, x.2.2.2.2.2.2.1, x.2.2.2.2.2.2.2.1, x.2.2.2.2.2.2.2.2.1, x.2.2.2.2.2.2.2.2.2.1, x.2.2.2.2.2.2.2.2.2.2.1, x.2.2.2.2.2.2.2.2.2.2.2.1, x.2.2.2.2.2.2.2.2.2.2.2.2.1, x.2.2.2.2.2.2.2.2.2.2.2.2.2.1, x.2.2.2.2.2.2.2.2.2.2.2.2.2.2.1, x.2.2.2.2.2.2.2.2.2.2.2.2.2.2.2.1, t2.2.1, t2.2.2.1, t2.2.2.2, y0_19) t3 ht3) rfl rfl hH rfl rfl rfl hl.1 rfl (Nat.le_of_ble_eq_true rfl) rfl dX9_doesAll_22 (fun H locs hz22 hH => ?_)
        have hH : Hp E (adr (wM E ad x)) (wM E ad (x.1, x.2.1, t3.2.1, t3.2.2, y0_4, x.2.2.2.2.2.1, x.2.2.2.2.2.2.1, x.2.2.2.2.2.2.2.1, x.2.2.2.2.2.2.2.2.1, x.2.2.2.2.2.2.2.2.2.1, x.2.2.2.2.2.2.2.2.2.2.1, x.2.2.2.2.2.2.2.2.2.2.2.1, x.2.2.2.2.2.2.2.2.2.2.2.2.1, x.2.2.2.2.2.2.2.2.2.2.2.2.2.1, x.2.2.2.2.2.2.2.2.2.2.2.2.2.2.1, x.2.2.2.2.2.2.2.2.2.2.2.2.2.2.2.1, t2.2.1, t2.2.2.1, t2.2.2.2, y0_19)) s.heap H locs := hH
        refine lv_if_eq (tgt := 30) hx hb dX9_doesAll_25 (by decide) (fun c4 => ?_) (fun c4 => ?_)
        · have hf := ite_t hf c4
          refine lv_aload_n hx hb dX9_doesAll_30 rfl (lv_at hl 0 rfl) ?_
          obtain ⟨t5, ht5, hf⟩ := ob hf
          refine k_WVsv hC LX9_229 ⟨Nat.le_of_ble_eq_true rfl, Nat.le_of_ble_eq_true rfl⟩ ⟨Nat.zero_le _, Nat.zero_le _⟩ (cM_doesNow l E ad (x.1, x.2.1, t3.2.1, t3.2.2, y0_4, x.2.2.2.2.2.1, x.2.2.2.2.2.2.1, x.2.2.2.2.2.2.2.1, x.2.2.2.2.2.2.2.2.1, x.2.2.2.2.2.2.2.2.2.1, x.2.2.2.2.2.2.2.2.2.2.1, x.2.2.2.2.2.2.2.2.2.2.2.1, x.2.2.2.2.2.2.2.2.2.2.2.2.1, x.2.2.2.2.2.2.2.2.2.2.2.2.2.1, x.2.2.2.2.2.2.2.2.2.2.2.2.2.2.1, x.2.2.2.2.2.2.2.2.2.2.2.2.2.2.2.1, t2.2.1, t2.2.2.1, t2.2.2.2, y0_19) t5 ht5) rfl rfl hH rfl rfl rfl hl.1 rfl (Nat.le_of_ble_eq_true rfl) rfl dX9_doesAll_31 (fun H locs hz31 hH => ?_)
          have hH : Hp E (adr (wM E ad x)) (wM E ad (x.1, x.2.1, t3.2.1, t3.2.2, t5, x.2.2.2.2.2.1, x.2.2.2.2.2.2.1, x.2.2.2.2.2.2.2.1, x.2.2.2.2.2.2.2.2.1, x.2.2.2.2.2.2.2.2.2.1, x.2.2.2.2.2.2.2.2.2.2.1, x.2.2.2.2.2.2.2.2.2.2.2.1, x.2.2.2.2.2.2.2.2.2.2.2.2.1, x.2.2.2.2.2.2.2.2.2.2.2.2.2.1, x.2.2.2.2.2.2.2.2.2.2.2.2.2.2.1, x.2.2.2.2.2.2.2.2.2.2.2.2.2.2.2.1, t2.2.1, t2.2.2.1, t2.2.2.2, y0_19)) s.heap H locs := hH
          refine lv_aload_n hx hb dX9_doesAll_34 rfl (lv_at hl 0 rfl) ?_
          refine lv_dup hx hb dX9_doesAll_35 rfl ?_
          refine gX9_223 hC hH.1 0 rfl (v := .int y0_19) rfl dX9_doesAll_36 ?_
          refine lv_iconst (v := 1) hx hb dX9_doesAll_39 (by decide) ?_
          refine lv_iadd hx hb dX9_doesAll_40 ?_
          refine pX9_223 hC hH 0 rfl (v := .int (y0_19 + (1 : Int32))) rfl rfl (Nat.le_of_ble_eq_true rfl) (W1 := wM E ad (x.1, x.2.1, t3.2.1, t3.2.2, t5, x.2.2.2.2.2.1, x.2.2.2.2.2.2.1, x.2.2.2.2.2.2.2.1, x.2.2.2.2.2.2.2.2.1, x.2.2.2.2.2.2.2.2.2.1, x.2.2.2.2.2.2.2.2.2.2.1, x.2.2.2.2.2.2.2.2.2.2.2.1, x.2.2.2.2.2.2.2.2.2.2.2.2.1, x.2.2.2.2.2.2.2.2.2.2.2.2.2.1, x.2.2.2.2.2.2.2.2.2.2.2.2.2.2.1, x.2.2.2.2.2.2.2.2.2.2.2.2.2.2.2.1, t2.2.1, t2.2.2.1, t2.2.2.2, (y0_19 + (1 : Int32)))) rfl dX9_doesAll_41 (fun H locs hH => ?_)
          refine lv_aload_n hx hb dX9_doesAll_44 rfl (lv_at hl 0 rfl) ?_
          refine lv_bipush (v := 59) hx hb dX9_doesAll_45 (by decide) ?_
          obtain ⟨t6, ht6, hf⟩ := ob hf
          refine k_WVsi hC LX9_207 ⟨Nat.le_of_ble_eq_true rfl, Nat.le_of_ble_eq_true rfl⟩ ⟨Nat.zero_le _, Nat.zero_le _⟩ (cM_reads l E ad (x.1, x.2.1, t3.2.1, t3.2.2, t5, x.2.2.2.2.2.1, x.2.2.2.2.2.2.1, x.2.2.2.2.2.2.2.1, x.2.2.2.2.2.2.2.2.1, x.2.2.2.2.2.2.2.2.2.1, x.2.2.2.2.2.2.2.2.2.2.1, x.2.2.2.2.2.2.2.2.2.2.2.1, x.2.2.2.2.2.2.2.2.2.2.2.2.1, x.2.2.2.2.2.2.2.2.2.2.2.2.2.1, x.2.2.2.2.2.2.2.2.2.2.2.2.2.2.1, x.2.2.2.2.2.2.2.2.2.2.2.2.2.2.2.1, t2.2.1, t2.2.2.1, t2.2.2.2, (y0_19 + (1 : Int32))) (59 : Int32) t6 ht6) rfl rfl hH rfl rfl rfl hl.1 rfl (Nat.le_of_ble_eq_true rfl) rfl dX9_doesAll_47 (fun H locs hz47 hH => ?_)
          have hH : Hp E (adr (wM E ad x)) (wM E ad (x.1, x.2.1, t3.2.1, t3.2.2, t5, x.2.2.2.2.2.1, x.2.2.2.2.2.2.1, x.2.2.2.2.2.2.2.1, x.2.2.2.2.2.2.2.2.1, x.2.2.2.2.2.2.2.2.2.1, x.2.2.2.2.2.2.2.2.2.2.1, x.2.2.2.2.2.2.2.2.2.2.2.1, x.2.2.2.2.2.2.2.2.2.2.2.2.1, x.2.2.2.2.2.2.2.2.2.2.2.2.2.1, x.2.2.2.2.2.2.2.2.2.2.2.2.2.2.1, x.2.2.2.2.2.2.2.2.2.2.2.2.2.2.2.1, t6.2, t2.2.2.1, t2.2.2.2, (y0_19 + (1 : Int32)))) s.heap H locs := hH
          refine lv_istore_n (lv' := [(1, .int t6.1), (0, .ref (ad 0))]) hx hb dX9_doesAll_50 rfl hl (by decide) rfl (fun ls hl => ?_)
          refine lv_goto (tgt := 12) hx hb dX9_doesAll_51 (by decide) ?_
          exact ih t3.2.1 t3.2.2 t5 t6.2 t2.2.2.1 t2.2.2.2 (y0_19 + (1 : Int32)) t6.1 ls (lv_sub hl [1, 0] rfl) _ _ hH hf
        · have hf := ite_f hf c4
          refine lv_iconst (v := 0) hx hb dX9_doesAll_28 (by decide) ?_
          cases hf
          exact e_Wz hC hH hr hlocks rfl rfl rfl dX9_doesAll_29
  intro H locs hH
  rw [fM_doesAll] at hf
  refine lv_aload_n hx hb dX9_doesAll_0 rfl (lv_at hl 0 rfl) ?_
  refine lv_iconst (v := 0) hx hb dX9_doesAll_1 (by decide) ?_
  refine pX9_223 hC hH 0 rfl (v := .int (0 : Int32)) rfl rfl (Nat.le_of_ble_eq_true rfl) (W1 := wM E ad (x.1, x.2.1, x.2.2.1, x.2.2.2.1, x.2.2.2.2.1, x.2.2.2.2.2.1, x.2.2.2.2.2.2.1, x.2.2.2.2.2.2.2.1, x.2.2.2.2.2.2.2.2.1, x.2.2.2.2.2.2.2.2.2.1, x.2.2.2.2.2.2.2.2.2.2.1, x.2.2.2.2.2.2.2.2.2.2.2.1, x.2.2.2.2.2.2.2.2.2.2.2.2.1, x.2.2.2.2.2.2.2.2.2.2.2.2.2.1, x.2.2.2.2.2.2.2.2.2.2.2.2.2.2.1, x.2.2.2.2.2.2.2.2.2.2.2.2.2.2.2.1, x.2.2.2.2.2.2.2.2.2.2.2.2.2.2.2.2.1, x.2.2.2.2.2.2.2.2.2.2.2.2.2.2.2.2.2.1, x.2.2.2.2.2.2.2.2.2.2.2.2.2.2.2.2.2.2.1, (0 : Int32))) rfl dX9_doesAll_2 (fun H locs hH => ?_)
  refine lv_aload_n hx hb dX9_doesAll_5 rfl (lv_at hl 0 rfl) ?_
  refine lv_iconst (v := 0) hx hb dX9_doesAll_6 (by decide) ?_
  refine pX9_201 hC hH 0 rfl (v := .int (0 : Int32)) rfl rfl (Nat.le_of_ble_eq_true rfl) (W1 := wM E ad (x.1, x.2.1, x.2.2.1, x.2.2.2.1, x.2.2.2.2.1, x.2.2.2.2.2.1, x.2.2.2.2.2.2.1, x.2.2.2.2.2.2.2.1, x.2.2.2.2.2.2.2.2.1, x.2.2.2.2.2.2.2.2.2.1, x.2.2.2.2.2.2.2.2.2.2.1, x.2.2.2.2.2.2.2.2.2.2.2.1, x.2.2.2.2.2.2.2.2.2.2.2.2.1, x.2.2.2.2.2.2.2.2.2.2.2.2.2.1, x.2.2.2.2.2.2.2.2.2.2.2.2.2.2.1, x.2.2.2.2.2.2.2.2.2.2.2.2.2.2.2.1, (0 : Int32), x.2.2.2.2.2.2.2.2.2.2.2.2.2.2.2.2.2.1, x.2.2.2.2.2.2.2.2.2.2.2.2.2.2.2.2.2.2.1, (0 : Int32))) rfl dX9_doesAll_7 (fun H locs hH => ?_)
  refine lv_iconst (v := 1) hx hb dX9_doesAll_10 (by decide) ?_
  refine lv_istore_n (lv' := [(1, .int (1 : Int32)), (0, .ref (ad 0))]) hx hb dX9_doesAll_11 rfl hl (by decide) rfl (fun ls hl => ?_)
  exact L12 FU x.2.2.1 x.2.2.2.1 x.2.2.2.2.1 (0 : Int32) x.2.2.2.2.2.2.2.2.2.2.2.2.2.2.2.2.2.1 x.2.2.2.2.2.2.2.2.2.2.2.2.2.2.2.2.2.2.1 (0 : Int32) (1 : Int32) ls (lv_sub hl [1, 0] rfl) _ _ hH hf
abbrev rmM_run : Room := { frames := 5, cells := 0, slots := 0, locals := 106 }
set_option maxHeartbeats 4000000 in
set_option maxRecDepth 100000 in
theorem cM_run (l : Launch) (E : eE) (ad : Nat → Nat) (x : TM) (t : Int32 × Int32 × Int32 × Int32 × Int32 × (Nat → Int32) × (Nat → Int32) × (Nat → Int32) × Int32 × Int32 × Int32 × Int32 × (Nat → Int32) × Int32 × Int32) (hf : fM_run x.1 x.2.1 x.2.2.1 x.2.2.2.1 x.2.2.2.2.1 x.2.2.2.2.2.1 x.2.2.2.2.2.2.2.1 x.2.2.2.2.2.2.2.2.1 x.2.2.2.2.2.2.2.2.2.1 x.2.2.2.2.2.2.2.2.2.2.2.2.2.2.1 x.2.2.2.2.2.2.2.2.2.2.2.2.2.2.2.1 x.2.2.2.2.2.2.2.2.2.2.2.2.2.2.2.2.1 x.2.2.2.2.2.2.2.2.2.2.2.2.2.2.2.2.2.1 x.2.2.2.2.2.2.2.2.2.2.2.2.2.2.2.2.2.2.1 x.2.2.2.2.2.2.2.2.2.2.2.2.2.2.2.2.2.2.2 = some t) : cW l E yX9_run cX9_run 2 (some .int) rmM_run [.ref (ad 0)] (wM E ad x) (some (.int t.1)) (wM E ad (t.2.1, t.2.2.1, t.2.2.2.1, t.2.2.2.2.1, t.2.2.2.2.2.1, t.2.2.2.2.2.2.1, x.2.2.2.2.2.2.1, t.2.2.2.2.2.2.2.1, t.2.2.2.2.2.2.2.2.1, t.2.2.2.2.2.2.2.2.2.1, x.2.2.2.2.2.2.2.2.2.2.1, x.2.2.2.2.2.2.2.2.2.2.2.1, x.2.2.2.2.2.2.2.2.2.2.2.2.1, x.2.2.2.2.2.2.2.2.2.2.2.2.2.1, x.2.2.2.2.2.2.2.2.2.2.2.2.2.2.1, t.2.2.2.2.2.2.2.2.2.2.1, t.2.2.2.2.2.2.2.2.2.2.2.1, t.2.2.2.2.2.2.2.2.2.2.2.2.1, t.2.2.2.2.2.2.2.2.2.2.2.2.2.1, t.2.2.2.2.2.2.2.2.2.2.2.2.2.2)) := by
  refine Met.ofW (cc := cX9_run) (maxL := 2) (ret := (some .int)) (by decide) rfl ?_
  intro p e s m args below meth c s₁ B hml hv
  obtain ⟨hargs, hP, hK, hD0⟩ := hv
  have hx := B.exec
  have hb := B.bytes
  have hr := B.returns
  have hts := atoms_spec (ws := ws_ yX9_run cX9_run 2 (some .int)) B.pre
  have hta : ∀ w ∈ lw_all, w.before args s = true := fun w h => hts w (List.mem_cons_of_mem _ h)
  have hown : s.vm.findClass RX9 = some m.cls := findClass_of_methodNamed B.named
  have hlocks := B.notSynchronized
  have hC : Cx p s m args c cX9_run 2 RX9 E := ⟨hx, hb, hml, hown, hta, hK⟩
  have hH : Hp E (adr (wM E ad x)) (wM E ad x) s.heap s.heap [] := Hp.start hP hD0
  obtain ⟨ls, he, hl⟩ := entry_ (m := m) (n := 2) hargs (Nat.le_of_ble_eq_true rfl)
  rw [he]
  have hl : lv_has ls 2 [(0, .ref (ad 0))] := hl
  show W p l e rmM_run s m args below meth c s.heap [] 0 0 (MQ below (qW E (some .int) (some (.int t.1)) (wM E ad x) (wM E ad (t.2.1, t.2.2.1, t.2.2.2.1, t.2.2.2.2.1, t.2.2.2.2.2.1, t.2.2.2.2.2.2.1, x.2.2.2.2.2.2.1, t.2.2.2.2.2.2.2.1, t.2.2.2.2.2.2.2.2.1, t.2.2.2.2.2.2.2.2.2.1, x.2.2.2.2.2.2.2.2.2.2.1, x.2.2.2.2.2.2.2.2.2.2.2.1, x.2.2.2.2.2.2.2.2.2.2.2.2.1, x.2.2.2.2.2.2.2.2.2.2.2.2.2.1, x.2.2.2.2.2.2.2.2.2.2.2.2.2.2.1, t.2.2.2.2.2.2.2.2.2.2.1, t.2.2.2.2.2.2.2.2.2.2.2.1, t.2.2.2.2.2.2.2.2.2.2.2.2.1, t.2.2.2.2.2.2.2.2.2.2.2.2.2.1, t.2.2.2.2.2.2.2.2.2.2.2.2.2.2))) args s 0 0 (adr (wM E ad x))) (F0 m 0 ls [])
  suffices hmain : ∀ (H : Heap) (locs : List Loc), Hp E (adr (wM E ad x)) (wM E ad x) s.heap H locs → W p l e rmM_run s m args below meth c H locs 0 0 (MQ below (qW E (some .int) (some (.int t.1)) (wM E ad x) (wM E ad (t.2.1, t.2.2.1, t.2.2.2.1, t.2.2.2.2.1, t.2.2.2.2.2.1, t.2.2.2.2.2.2.1, x.2.2.2.2.2.2.1, t.2.2.2.2.2.2.2.1, t.2.2.2.2.2.2.2.2.1, t.2.2.2.2.2.2.2.2.2.1, x.2.2.2.2.2.2.2.2.2.2.1, x.2.2.2.2.2.2.2.2.2.2.2.1, x.2.2.2.2.2.2.2.2.2.2.2.2.1, x.2.2.2.2.2.2.2.2.2.2.2.2.2.1, x.2.2.2.2.2.2.2.2.2.2.2.2.2.2.1, t.2.2.2.2.2.2.2.2.2.2.1, t.2.2.2.2.2.2.2.2.2.2.2.1, t.2.2.2.2.2.2.2.2.2.2.2.2.1, t.2.2.2.2.2.2.2.2.2.2.2.2.2.1, t.2.2.2.2.2.2.2.2.2.2.2.2.2.2))) args s 0 0 (adr (wM E ad x))) (F0 m 0 ls []) from hmain _ _ hH
  clear hH
  intro H locs hH
  rw [fM_run] at hf
  refine lv_aload_n hx hb dX9_run_0 rfl (lv_at hl 0 rfl) ?_
  obtain ⟨t1, ht1, hf⟩ := ob hf
  refine k_WVsi hC LX9_232 ⟨Nat.le_of_ble_eq_true rfl, Nat.le_of_ble_eq_true rfl⟩ ⟨Nat.zero_le _, Nat.zero_le _⟩ (cM_readsAll l E ad x t1 ht1) rfl rfl hH rfl rfl rfl hl.1 rfl (Nat.le_of_ble_eq_true rfl) rfl dX9_run_1 (fun H locs hz1 hH => ?_)
  have hH : Hp E (adr (wM E ad x)) (wM E ad (x.1, x.2.1, x.2.2.1, x.2.2.2.1, x.2.2.2.2.1, x.2.2.2.2.2.1, x.2.2.2.2.2.2.1, x.2.2.2.2.2.2.2.1, x.2.2.2.2.2.2.2.2.1, x.2.2.2.2.2.2.2.2.2.1, x.2.2.2.2.2.2.2.2.2.2.1, x.2.2.2.2.2.2.2.2.2.2.2.1, x.2.2.2.2.2.2.2.2.2.2.2.2.1, x.2.2.2.2.2.2.2.2.2.2.2.2.2.1, x.2.2.2.2.2.2.2.2.2.2.2.2.2.2.1, x.2.2.2.2.2.2.2.2.2.2.2.2.2.2.2.1, t1.2.1, t1.2.2.1, t1.2.2.2, x.2.2.2.2.2.2.2.2.2.2.2.2.2.2.2.2.2.2.2)) s.heap H locs := hH
  refine lv_if_ne (tgt := 21) hx hb dX9_run_4 (by decide) (fun c2 => ?_) (fun c2 => ?_)
  · have hf := ite_f hf c2
    refine lv_aload_n hx hb dX9_run_21 rfl (lv_at hl 0 rfl) ?_
    obtain ⟨t3, ht3, hf⟩ := ob hf
    refine k_WVsv hC LX9_54 ⟨Nat.le_of_ble_eq_true rfl, Nat.le_of_ble_eq_true rfl⟩ ⟨Nat.zero_le _, Nat.zero_le _⟩ (cM_thinks l E ad (x.1, x.2.1, x.2.2.1, x.2.2.2.1, x.2.2.2.2.1, x.2.2.2.2.2.1, x.2.2.2.2.2.2.1, x.2.2.2.2.2.2.2.1, x.2.2.2.2.2.2.2.2.1, x.2.2.2.2.2.2.2.2.2.1, x.2.2.2.2.2.2.2.2.2.2.1, x.2.2.2.2.2.2.2.2.2.2.2.1, x.2.2.2.2.2.2.2.2.2.2.2.2.1, x.2.2.2.2.2.2.2.2.2.2.2.2.2.1, x.2.2.2.2.2.2.2.2.2.2.2.2.2.2.1, x.2.2.2.2.2.2.2.2.2.2.2.2.2.2.2.1, t1.2.1, t1.2.2.1, t1.2.2.2, x.2.2.2.2.2.2.2.2.2.2.2.2.2.2.2.2.2.2.2) t3 ht3) rfl rfl hH rfl rfl rfl hl.1 rfl (Nat.le_of_ble_eq_true rfl) rfl dX9_run_22 (fun H locs hz22 hH => ?_)
    have hH : Hp E (adr (wM E ad x)) (wM E ad (x.1, x.2.1, x.2.2.1, x.2.2.2.1, x.2.2.2.2.1, x.2.2.2.2.2.1, x.2.2.2.2.2.2.1, t3, x.2.2.2.2.2.2.2.2.1, x.2.2.2.2.2.2.2.2.2.1, x.2.2.2.2.2.2.2.2.2.2.1, x.2.2.2.2.2.2.2.2.2.2.2.1, x.2.2.2.2.2.2.2.2.2.2.2.2.1, x.2.2.2.2.2.2.2.2.2.2.2.2.2.1, x.2.2.2.2.2.2.2.2.2.2.2.2.2.2.1, x.2.2.2.2.2.2.2.2.2.2.2.2.2.2.2.1, t1.2.1, t1.2.2.1, t1.2.2.2, x.2.2.2.2.2.2.2.2.2.2.2.2.2.2.2.2.2.2.2)) s.heap H locs := hH
    refine lv_aload_n hx hb dX9_run_25 rfl (lv_at hl 0 rfl) ?_
    obtain ⟨t4, ht4, hf⟩ := ob hf
    refine k_WVsi hC LX9_235 ⟨Nat.le_of_ble_eq_true rfl, Nat.le_of_ble_eq_true rfl⟩ ⟨Nat.zero_le _, Nat.zero_le _⟩ (cM_doesAll l E ad (x.1, x.2.1, x.2.2.1, x.2.2.2.1, x.2.2.2.2.1, x.2.2.2.2.2.1, x.2.2.2.2.2.2.1, t3, x.2.2.2.2.2.2.2.2.1, x.2.2.2.2.2.2.2.2.2.1, x.2.2.2.2.2.2.2.2.2.2.1, x.2.2.2.2.2.2.2.2.2.2.2.1, x.2.2.2.2.2.2.2.2.2.2.2.2.1, x.2.2.2.2.2.2.2.2.2.2.2.2.2.1, x.2.2.2.2.2.2.2.2.2.2.2.2.2.2.1, x.2.2.2.2.2.2.2.2.2.2.2.2.2.2.2.1, t1.2.1, t1.2.2.1, t1.2.2.2, x.2.2.2.2.2.2.2.2.2.2.2.2.2.2.2.2.2.2.2) t4 ht4) rfl rfl hH rfl rfl rfl hl.1 rfl (Nat.le_of_ble_eq_true rfl) rfl dX9_run_26 (fun H locs hz26 hH => ?_)
    have hH : Hp E (adr (wM E ad x)) (wM E ad (x.1, x.2.1, t4.2.1, t4.2.2.1, t4.2.2.2.1, x.2.2.2.2.2.1, x.2.2.2.2.2.2.1, t3, x.2.2.2.2.2.2.2.2.1, x.2.2.2.2.2.2.2.2.2.1, x.2.2.2.2.2.2.2.2.2.2.1, x.2.2.2.2.2.2.2.2.2.2.2.1, x.2.2.2.2.2.2.2.2.2.2.2.2.1, x.2.2.2.2.2.2.2.2.2.2.2.2.2.1, x.2.2.2.2.2.2.2.2.2.2.2.2.2.2.1, x.2.2.2.2.2.2.2.2.2.2.2.2.2.2.2.1, t4.2.2.2.2.1, t4.2.2.2.2.2.1, t4.2.2.2.2.2.2.1, t4.2.2.2.2.2.2.2)) s.heap H locs := hH
    refine lv_istore_n (lv' := [(1, .int t4.1), (0, .ref (ad 0))]) hx hb dX9_run_29 rfl hl (by decide) rfl (fun ls hl => ?_)
    refine lv_aload_n hx hb dX9_run_30 rfl (lv_at hl 1 rfl) ?_
    refine lv_iconst (v := 0) hx hb dX9_run_31 (by decide) ?_
    refine pX9_198 hC hH 0 rfl (v := .int (0 : Int32)) rfl rfl (Nat.le_of_ble_eq_true rfl) (W1 := wM E ad (x.1, x.2.1, t4.2.1, t4.2.2.1, t4.2.2.2.1, x.2.2.2.2.2.1, x.2.2.2.2.2.2.1, t3, x.2.2.2.2.2.2.2.2.1, x.2.2.2.2.2.2.2.2.2.1, x.2.2.2.2.2.2.2.2.2.2.1, x.2.2.2.2.2.2.2.2.2.2.2.1, x.2.2.2.2.2.2.2.2.2.2.2.2.1, x.2.2.2.2.2.2.2.2.2.2.2.2.2.1, x.2.2.2.2.2.2.2.2.2.2.2.2.2.2.1, (0 : Int32), t4.2.2.2.2.1, t4.2.2.2.2.2.1, t4.2.2.2.2.2.2.1, t4.2.2.2.2.2.2.2)) rfl dX9_run_32 (fun H locs hH => ?_)
    refine lv_iload_n hx hb dX9_run_35 rfl (lv_at hl 0 rfl) ?_
    refine lv_if_eq (tgt := 48) hx hb dX9_run_36 (by decide) (fun c5 => ?_) (fun c5 => ?_)
    · have hf := ite_t hf c5
      refine lv_aload_n hx hb dX9_run_48 rfl (lv_at hl 1 rfl) ?_
      obtain ⟨t6, ht6, hf⟩ := ob hf
      refine k_WVsv hC LX9_238 ⟨Nat.le_of_ble_eq_true rfl, Nat.le_of_ble_eq_true rfl⟩ ⟨Nat.zero_le _, Nat.zero_le _⟩ (cM_forgets l E ad (x.1, x.2.1, t4.2.1, t4.2.2.1, t4.2.2.2.1, x.2.2.2.2.2.1, x.2.2.2.2.2.2.1, t3, x.2.2.2.2.2.2.2.2.1, x.2.2.2.2.2.2.2.2.2.1, x.2.2.2.2.2.2.2.2.2.2.1, x.2.2.2.2.2.2.2.2.2.2.2.1, x.2.2.2.2.2.2.2.2.2.2.2.2.1, x.2.2.2.2.2.2.2.2.2.2.2.2.2.1, x.2.2.2.2.2.2.2.2.2.2.2.2.2.2.1, (0 : Int32), t4.2.2.2.2.1, t4.2.2.2.2.2.1, t4.2.2.2.2.2.2.1, t4.2.2.2.2.2.2.2) t6 ht6) rfl rfl hH rfl rfl rfl hl.1 rfl (Nat.le_of_ble_eq_true rfl) rfl dX9_run_49 (fun H locs hz49 hH => ?_)
      have hH : Hp E (adr (wM E ad x)) (wM E ad (x.1, x.2.1, t4.2.1, t4.2.2.1, t6, x.2.2.2.2.2.1, x.2.2.2.2.2.2.1, t3, x.2.2.2.2.2.2.2.2.1, x.2.2.2.2.2.2.2.2.2.1, x.2.2.2.2.2.2.2.2.2.2.1, x.2.2.2.2.2.2.2.2.2.2.2.1, x.2.2.2.2.2.2.2.2.2.2.2.2.1, x.2.2.2.2.2.2.2.2.2.2.2.2.2.1, x.2.2.2.2.2.2.2.2.2.2.2.2.2.2.1, (0 : Int32), t4.2.2.2.2.1, t4.2.2.2.2.2.1, t4.2.2.2.2.2.2.1, t4.2.2.2.2.2.2.2)) s.heap H locs := hH
      refine lv_aload_n hx hb dX9_run_52 rfl (lv_at hl 1 rfl) ?_
      refine lv_iconst (v := 4) hx hb dX9_run_53 (by decide) ?_
      refine pX9_42 hC hH 0 rfl (v := .int (4 : Int32)) rfl rfl (Nat.le_of_ble_eq_true rfl) (W1 := wM E ad ((4 : Int32), x.2.1, t4.2.1, t4.2.2.1, t6, x.2.2.2.2.2.1, x.2.2.2.2.2.2.1, t3, x.2.2.2.2.2.2.2.2.1, x.2.2.2.2.2.2.2.2.2.1, x.2.2.2.2.2.2.2.2.2.2.1, x.2.2.2.2.2.2.2.2.2.2.2.1, x.2.2.2.2.2.2.2.2.2.2.2.2.1, x.2.2.2.2.2.2.2.2.2.2.2.2.2.1, x.2.2.2.2.2.2.2.2.2.2.2.2.2.2.1, (0 : Int32), t4.2.2.2.2.1, t4.2.2.2.2.2.1, t4.2.2.2.2.2.2.1, t4.2.2.2.2.2.2.2)) rfl dX9_run_54 (fun H locs hH => ?_)
      refine lv_aload_n hx hb dX9_run_57 rfl (lv_at hl 1 rfl) ?_
      refine lv_aload_n hx hb dX9_run_58 rfl (lv_at hl 1 rfl) ?_
      refine gX9_223 hC hH.1 0 rfl (v := .int t4.2.2.2.2.2.2.2) rfl dX9_run_59 ?_
      refine pX9_45 hC hH 0 rfl (v := .int t4.2.2.2.2.2.2.2) rfl rfl (Nat.le_of_ble_eq_true rfl) (W1 := wM E ad ((4 : Int32), t4.2.2.2.2.2.2.2, t4.2.1, t4.2.2.1, t6, x.2.2.2.2.2.1, x.2.2.2.2.2.2.1, t3, x.2.2.2.2.2.2.2.2.1, x.2.2.2.2.2.2.2.2.2.1, x.2.2.2.2.2.2.2.2.2.2.1, x.2.2.2.2.2.2.2.2.2.2.2.1, x.2.2.2.2.2.2.2.2.2.2.2.2.1, x.2.2.2.2.2.2.2.2.2.2.2.2.2.1, x.2.2.2.2.2.2.2.2.2.2.2.2.2.2.1, (0 : Int32), t4.2.2.2.2.1, t4.2.2.2.2.2.1, t4.2.2.2.2.2.2.1, t4.2.2.2.2.2.2.2)) rfl dX9_run_62 (fun H locs hH => ?_)
      refine lv_bipush (v := (-14)) hx hb dX9_run_65 (by decide) ?_
      cases hf
      exact e_Wi hC hH hr hlocks rfl rfl dX9_run_67
    · have hf := ite_f hf c5
      refine lv_aload_n hx hb dX9_run_39 rfl (lv_at hl 1 rfl) ?_
      obtain ⟨t7, ht7, hf⟩ := ob hf
      refine k_WVsv hC LX9_57 ⟨Nat.le_of_ble_eq_true rfl, Nat.le_of_ble_eq_true rfl⟩ ⟨Nat.zero_le _, Nat.zero_le _⟩ (cM_keepsMind l E ad (x.1, x.2.1, t4.2.1, t4.2.2.1, t4.2.2.2.1, x.2.2.2.2.2.1, x.2.2.2.2.2.2.1, t3, x.2.2.2.2.2.2.2.2.1, x.2.2.2.2.2.2.2.2.2.1, x.2.2.2.2.2.2.2.2.2.2.1, x.2.2.2.2.2.2.2.2.2.2.2.1, x.2.2.2.2.2.2.2.2.2.2.2.2.1, x.2.2.2.2.2.2.2.2.2.2.2.2.2.1, x.2.2.2.2.2.2.2.2.2.2.2.2.2.2.1, (0 : Int32), t4.2.2.2.2.1, t4.2.2.2.2.2.1, t4.2.2.2.2.2.2.1, t4.2.2.2.2.2.2.2) t7 ht7) rfl rfl hH rfl rfl rfl hl.1 rfl (Nat.le_of_ble_eq_true rfl) rfl dX9_run_40 (fun H locs hz40 hH => ?_)
      have hH : Hp E (adr (wM E ad x)) (wM E ad (x.1, x.2.1, t4.2.1, t4.2.2.1, t4.2.2.2.1, t7.1, x.2.2.2.2.2.2.1, t3, t7.2.1, t7.2.2, x.2.2.2.2.2.2.2.2.2.2.1, x.2.2.2.2.2.2.2.2.2.2.2.1, x.2.2.2.2.2.2.2.2.2.2.2.2.1, x.2.2.2.2.2.2.2.2.2.2.2.2.2.1, x.2.2.2.2.2.2.2.2.2.2.2.2.2.2.1, (0 : Int32), t4.2.2.2.2.1, t4.2.2.2.2.2.1, t4.2.2.2.2.2.2.1, t4.2.2.2.2.2.2.2)) s.heap H locs := hH
      refine lv_aload_n hx hb dX9_run_43 rfl (lv_at hl 1 rfl) ?_
      refine gX9_223 hC hH.1 0 rfl (v := .int t4.2.2.2.2.2.2.2) rfl dX9_run_44 ?_
      cases hf
      exact e_Wi hC hH hr hlocks rfl rfl dX9_run_47
  · have hf := ite_t hf c2
    refine lv_aload_n hx hb dX9_run_7 rfl (lv_at hl 0 rfl) ?_
    refine lv_iconst (v := 0) hx hb dX9_run_8 (by decide) ?_
    refine pX9_198 hC hH 0 rfl (v := .int (0 : Int32)) rfl rfl (Nat.le_of_ble_eq_true rfl) (W1 := wM E ad (x.1, x.2.1, x.2.2.1, x.2.2.2.1, x.2.2.2.2.1, x.2.2.2.2.2.1, x.2.2.2.2.2.2.1, x.2.2.2.2.2.2.2.1, x.2.2.2.2.2.2.2.2.1, x.2.2.2.2.2.2.2.2.2.1, x.2.2.2.2.2.2.2.2.2.2.1, x.2.2.2.2.2.2.2.2.2.2.2.1, x.2.2.2.2.2.2.2.2.2.2.2.2.1, x.2.2.2.2.2.2.2.2.2.2.2.2.2.1, x.2.2.2.2.2.2.2.2.2.2.2.2.2.2.1, (0 : Int32), t1.2.1, t1.2.2.1, t1.2.2.2, x.2.2.2.2.2.2.2.2.2.2.2.2.2.2.2.2.2.2.2)) rfl dX9_run_9 (fun H locs hH => ?_)
    refine lv_sipush (v := (-1000)) hx hb dX9_run_12 (by decide) ?_
    refine lv_aload_n hx hb dX9_run_15 rfl (lv_at hl 0 rfl) ?_
    refine gX9_201 hC hH.1 0 rfl (v := .int t1.2.1) rfl dX9_run_16 ?_
    refine lv_isub hx hb dX9_run_19 ?_
    cases hf
    exact e_Wi hC hH hr hlocks rfl rfl dX9_run_20
abbrev rmM_undo : Room := { frames := 0, cells := 0, slots := 0, locals := 0 }
set_option maxHeartbeats 4000000 in
set_option maxRecDepth 100000 in
theorem cM_undo (l : Launch) (E : eE) (ad : Nat → Nat) (x : TM) (t : Int32 × (Nat → Int32) × Int32) (hf : fM_undo x.2.2.2.2.1 x.2.2.2.2.2.1 x.2.2.2.2.2.2.2.2.1 x.2.2.2.2.2.2.2.2.2.1 = some t) : cW l E yX9_undo cX9_undo 3 (some .int) rmM_undo [.ref (ad 0)] (wM E ad x) (some (.int t.1)) (wM E ad (x.1, x.2.1, x.2.2.1, x.2.2.2.1, t.2.1, x.2.2.2.2.2.1, x.2.2.2.2.2.2.1, x.2.2.2.2.2.2.2.1, t.2.2, x.2.2.2.2.2.2.2.2.2)) := by
  refine Met.ofW (cc := cX9_undo) (maxL := 3) (ret := (some .int)) (by decide) rfl ?_
  intro p e s m args below meth c s₁ B hml hv
  obtain ⟨hargs, hP, hK, hD0⟩ := hv
  have hx := B.exec
  have hb := B.bytes
  have hr := B.returns
  have hts := atoms_spec (ws := ws_ yX9_undo cX9_undo 3 (some .int)) B.pre
  have hta : ∀ w ∈ lw_all, w.before args s = true := fun w h => hts w (List.mem_cons_of_mem _ h)
  have hown : s.vm.findClass RX9 = some m.cls := findClass_of_methodNamed B.named
  have hlocks := B.notSynchronized
  have hC : Cx p s m args c cX9_undo 3 RX9 E := ⟨hx, hb, hml, hown, hta, hK⟩
  have hH : Hp E (adr (wM E ad x)) (wM E ad x) s.heap s.heap [] := Hp.start hP hD0
  obtain ⟨ls, he, hl⟩ := entry_ (m := m) (n := 3) hargs (Nat.le_of_ble_eq_true rfl)
  rw [he]
  have hl : lv_has ls 3 [(0, .ref (ad 0))] := hl
  show W p l e rmM_undo s m args below meth c s.heap [] 0 0 (MQ below (qW E (some .int) (some (.int t.1)) (wM E ad x) (wM E ad (x.1, x.2.1, x.2.2.1, x.2.2.2.1, t.2.1, x.2.2.2.2.2.1, x.2.2.2.2.2.2.1, x.2.2.2.2.2.2.2.1, t.2.2, x.2.2.2.2.2.2.2.2.2))) args s 0 0 (adr (wM E ad x))) (F0 m 0 ls [])
  suffices hmain : ∀ (H : Heap) (locs : List Loc), Hp E (adr (wM E ad x)) (wM E ad x) s.heap H locs → W p l e rmM_undo s m args below meth c H locs 0 0 (MQ below (qW E (some .int) (some (.int t.1)) (wM E ad x) (wM E ad (x.1, x.2.1, x.2.2.1, x.2.2.2.1, t.2.1, x.2.2.2.2.2.1, x.2.2.2.2.2.2.1, x.2.2.2.2.2.2.2.1, t.2.2, x.2.2.2.2.2.2.2.2.2))) args s 0 0 (adr (wM E ad x))) (F0 m 0 ls []) from hmain _ _ hH
  clear hH
  have L35 : ∀ (n : Nat) (y0_4 : (Nat → Int32)) (y0_8 : Int32) (a1 : Int32) (a2 : Int32) (ls : Array Slot), lv_has ls 3 [(0, .ref (ad 0)), (1, .int a1), (2, .int a2)] → ∀ (H : Heap) (locs : List Loc), Hp E (adr (wM E ad x)) (wM E ad (x.1, x.2.1, x.2.2.1, x.2.2.2.1, y0_4, x.2.2.2.2.2.1, x.2.2.2.2.2.2.1, x.2.2.2.2.2.2.2.1, y0_8, x.2.2.2.2.2.2.2.2.2)) s.heap H locs → fM_undo_35 n y0_4 x.2.2.2.2.2.1 y0_8 x.2.2.2.2.2.2.2.2.2.1 a1 a2 = some t → W p l e rmM_undo s m args below meth c H locs 0 0 (MQ below (qW E (some .int) (some (.int t.1)) (wM E ad x) (wM E ad (x.1, x.2.1, x.2.2.1, x.2.2.2.1, t.2.1, x.2.2.2.2.2.1, x.2.2.2.2.2.2.1, x.2.2.2.2.2.2.2.1, t.2.2, x.2.2.2.2.2.2.2.2.2))) args s 0 0 (adr (wM E ad x))) (F0 m 35 ls []) := by
    intro n
    induction n with
    | zero => intro y0_4 y0_8 a1 a2 ls hl H locs hH hf; cases hf
    | succ n ih =>
      intro y0_4 y0_8 a1 a2 ls hl H locs hH hf
      rw [fM_undo_35] at hf
      refine lv_iload_n hx hb dX9_undo_35 rfl (lv_at hl 2 rfl) ?_
      refine lv_sipush (v := 132) hx hb dX9_undo_36 (by decide) ?_
      refine lv_icmp_ge (tgt := 66) hx hb dX9_undo_39 (by decide) (fun c2 => ?_) (fun c2 => ?_)
      · have hf := ite_t hf c2
        refine lv_aload_n hx hb dX9_undo_66 rfl (lv_at hl 0 rfl) ?_
        refine gX9_48 hC hH.1 0 rfl (v := .int y0_8) rfl dX9_undo_67 ?_
        cases hf
        exact e_Wi hC hH hr hlocks rfl rfl dX9_undo_70
      · have hf := ite_f hf c2
        refine lv_aload_n hx hb dX9_undo_42 rfl (lv_at hl 0 rfl) ?_
        refine gX9_7 hC hH.1 0 rfl (v := .ref (ad 1)) rfl dX9_undo_43 ?_
        refine lv_iload_n hx hb dX9_undo_46 rfl (lv_at hl 2 rfl) ?_
        refine lv_aload_n hx hb dX9_undo_47 rfl (lv_at hl 0 rfl) ?_
        refine gX9_13 hC hH.1 0 rfl (v := .ref (ad 2)) rfl dX9_undo_48 ?_
        refine lv_sipush (v := 132) hx hb dX9_undo_51 (by decide) ?_
        refine lv_iload_n hx hb dX9_undo_54 rfl (lv_at hl 1 rfl) ?_
        refine lv_imul hx hb dX9_undo_55 ?_
        refine lv_iload_n hx hb dX9_undo_56 rfl (lv_at hl 2 rfl) ?_
        refine lv_iadd hx hb dX9_undo_57 ?_
        obtain ⟨v3, hv3, hf⟩ := ob hf
        obtain ⟨hv3a, hv3b⟩ := ldA_ok hv3
        refine a_ild hC hH.1 2 rfl hv3a hv3b dX9_undo_58 ?_
        obtain ⟨g4, hg4, hf⟩ := ob hf
        obtain ⟨hg4a, hg4b⟩ := stA_ok hg4
        refine a_ist hC hH 1 rfl hg4a hg4b (W1 := wM E ad (x.1, x.2.1, x.2.2.1, x.2.2.2.1, g4, x.2.2.2.2.2.1, x.2.2.2.2.2.2.1, x.2.2.2.2.2.2.2.1, y0_8, x.2.2.2.2.2.2.2.2.2)) rfl dX9_undo_59 (fun H locs hH => ?_)
        refine lv_iinc (v := (a2 + (1 : Int32))) (lv' := [(2, .int (a2 + (1 : Int32))), (0, .ref (ad 0)), (1, .int a1)]) hx hb dX9_undo_60 hl (k := 2) rfl rfl (by decide) rfl (fun ls hl => ?_)
        refine lv_goto (tgt := 35) hx hb dX9_undo_63 (by decide) ?_
        exact ih g4 y0_8 a1 (a2 + (1 : Int32)) ls (lv_sub hl [1, 2, 0] rfl) _ _ hH hf
  intro H locs hH
  rw [fM_undo] at hf
  refine lv_aload_n hx hb dX9_undo_0 rfl (lv_at hl 0 rfl) ?_
  refine gX9_48 hC hH.1 0 rfl (v := .int x.2.2.2.2.2.2.2.2.1) rfl dX9_undo_1 ?_
  refine lv_if_ne (tgt := 10) hx hb dX9_undo_4 (by decide) (fun c1 => ?_) (fun c1 => ?_)
  · have hf := ite_f hf c1
    refine lv_aload_n hx hb dX9_undo_10 rfl (lv_at hl 0 rfl) ?_
    refine lv_dup hx hb dX9_undo_11 rfl ?_
    refine gX9_48 hC hH.1 0 rfl (v := .int x.2.2.2.2.2.2.2.2.1) rfl dX9_undo_12 ?_
    refine lv_iconst (v := 1) hx hb dX9_undo_15 (by decide) ?_
    refine lv_isub hx hb dX9_undo_16 ?_
    refine pX9_48 hC hH 0 rfl (v := .int (x.2.2.2.2.2.2.2.2.1 - (1 : Int32))) rfl rfl (Nat.le_of_ble_eq_true rfl) (W1 := wM E ad (x.1, x.2.1, x.2.2.1, x.2.2.2.1, x.2.2.2.2.1, x.2.2.2.2.2.1, x.2.2.2.2.2.2.1, x.2.2.2.2.2.2.2.1, (x.2.2.2.2.2.2.2.2.1 - (1 : Int32)), x.2.2.2.2.2.2.2.2.2)) rfl dX9_undo_17 (fun H locs hH => ?_)
    refine lv_aload_n hx hb dX9_undo_20 rfl (lv_at hl 0 rfl) ?_
    refine gX9_51 hC hH.1 0 rfl (v := .int x.2.2.2.2.2.2.2.2.2.1) rfl dX9_undo_21 ?_
    refine lv_aload_n hx hb dX9_undo_24 rfl (lv_at hl 0 rfl) ?_
    refine gX9_48 hC hH.1 0 rfl (v := .int (x.2.2.2.2.2.2.2.2.1 - (1 : Int32))) rfl dX9_undo_25 ?_
    refine lv_iadd hx hb dX9_undo_28 ?_
    refine lv_bipush (v := 8) hx hb dX9_undo_29 (by decide) ?_
    refine lv_irem hx hb dX9_undo_31 (by decide) ?_
    refine lv_istore_n (lv' := [(1, .int ((x.2.2.2.2.2.2.2.2.2.1 + (x.2.2.2.2.2.2.2.2.1 - (1 : Int32))) - (x.2.2.2.2.2.2.2.2.2.1 + (x.2.2.2.2.2.2.2.2.1 - (1 : Int32))) / (8 : Int32) * (8 : Int32))), (0, .ref (ad 0))]) hx hb dX9_undo_32 rfl hl (by decide) rfl (fun ls hl => ?_)
    refine lv_iconst (v := 0) hx hb dX9_undo_33 (by decide) ?_
    refine lv_istore_n (lv' := [(2, .int (0 : Int32)), (1, .int ((x.2.2.2.2.2.2.2.2.2.1 + (x.2.2.2.2.2.2.2.2.1 - (1 : Int32))) - (x.2.2.2.2.2.2.2.2.2.1 + (x.2.2.2.2.2.2.2.2.1 - (1 : Int32))) / (8 : Int32) * (8 : Int32))), (0, .ref (ad 0))]) hx hb dX9_undo_34 rfl hl (by decide) rfl (fun ls hl => ?_)
    exact L35 FU x.2.2.2.2.1 (x.2.2.2.2.2.2.2.2.1 - (1 : Int32)) ((x.2.2.2.2.2.2.2.2.2.1 + (x.2.2.2.2.2.2.2.2.1 - (1 : Int32))) - (x.2.2.2.2.2.2.2.2.2.1 + (x.2.2.2.2.2.2.2.2.1 - (1 : Int32))) / (8 : Int32) * (8 : Int32)) (0 : Int32) ls (lv_sub hl [2, 1, 0] rfl) _ _ hH hf
  · have hf := ite_t hf c1
    refine lv_bipush (v := (-15)) hx hb dX9_undo_7 (by decide) ?_
    cases hf
    exact e_Wi hC hH hr hlocks rfl rfl dX9_undo_9
abbrev rmM_save : Room := { frames := 0, cells := 0, slots := 0, locals := 0 }
set_option maxHeartbeats 4000000 in
set_option maxRecDepth 100000 in
theorem cM_save (l : Launch) (E : eE) (ad : Nat → Nat) (x : TM) (t : Int32 × (Nat → Int32) × Int32) (hf : fM_save x.2.2.2.2.1 x.2.2.2.2.2.2.1 x.2.2.2.2.2.2.2.2.2.2.1 = some t) : cW l E yX9_save cX9_save 2 (some .int) rmM_save [.ref (ad 0)] (wM E ad x) (some (.int t.1)) (wM E ad (x.1, x.2.1, x.2.2.1, x.2.2.2.1, x.2.2.2.2.1, x.2.2.2.2.2.1, t.2.1, x.2.2.2.2.2.2.2.1, x.2.2.2.2.2.2.2.2.1, x.2.2.2.2.2.2.2.2.2.1, t.2.2, x.2.2.2.2.2.2.2.2.2.2.2)) := by
  refine Met.ofW (cc := cX9_save) (maxL := 2) (ret := (some .int)) (by decide) rfl ?_
  intro p e s m args below meth c s₁ B hml hv
  obtain ⟨hargs, hP, hK, hD0⟩ := hv
  have hx := B.exec
  have hb := B.bytes
  have hr := B.returns
  have hts := atoms_spec (ws := ws_ yX9_save cX9_save 2 (some .int)) B.pre
  have hta : ∀ w ∈ lw_all, w.before args s = true := fun w h => hts w (List.mem_cons_of_mem _ h)
  have hown : s.vm.findClass RX9 = some m.cls := findClass_of_methodNamed B.named
  have hlocks := B.notSynchronized
  have hC : Cx p s m args c cX9_save 2 RX9 E := ⟨hx, hb, hml, hown, hta, hK⟩
  have hH : Hp E (adr (wM E ad x)) (wM E ad x) s.heap s.heap [] := Hp.start hP hD0
  obtain ⟨ls, he, hl⟩ := entry_ (m := m) (n := 2) hargs (Nat.le_of_ble_eq_true rfl)
  rw [he]
  have hl : lv_has ls 2 [(0, .ref (ad 0))] := hl
  show W p l e rmM_save s m args below meth c s.heap [] 0 0 (MQ below (qW E (some .int) (some (.int t.1)) (wM E ad x) (wM E ad (x.1, x.2.1, x.2.2.1, x.2.2.2.1, x.2.2.2.2.1, x.2.2.2.2.2.1, t.2.1, x.2.2.2.2.2.2.2.1, x.2.2.2.2.2.2.2.2.1, x.2.2.2.2.2.2.2.2.2.1, t.2.2, x.2.2.2.2.2.2.2.2.2.2.2))) args s 0 0 (adr (wM E ad x))) (F0 m 0 ls [])
  suffices hmain : ∀ (H : Heap) (locs : List Loc), Hp E (adr (wM E ad x)) (wM E ad x) s.heap H locs → W p l e rmM_save s m args below meth c H locs 0 0 (MQ below (qW E (some .int) (some (.int t.1)) (wM E ad x) (wM E ad (x.1, x.2.1, x.2.2.1, x.2.2.2.1, x.2.2.2.2.1, x.2.2.2.2.2.1, t.2.1, x.2.2.2.2.2.2.2.1, x.2.2.2.2.2.2.2.2.1, x.2.2.2.2.2.2.2.2.2.1, t.2.2, x.2.2.2.2.2.2.2.2.2.2.2))) args s 0 0 (adr (wM E ad x))) (F0 m 0 ls []) from hmain _ _ hH
  clear hH
  have L2 : ∀ (n : Nat) (y0_6 : (Nat → Int32)) (y0_10 : Int32) (a1 : Int32) (ls : Array Slot), lv_has ls 2 [(0, .ref (ad 0)), (1, .int a1)] → ∀ (H : Heap) (locs : List Loc), Hp E (adr (wM E ad x)) (wM E ad (x.1, x.2.1, x.2.2.1, x.2.2.2.1, x.2.2.2.2.1, x.2.2.2.2.2.1, y0_6, x.2.2.2.2.2.2.2.1, x.2.2.2.2.2.2.2.2.1, x.2.2.2.2.2.2.2.2.2.1, y0_10, x.2.2.2.2.2.2.2.2.2.2.2)) s.heap H locs → fM_save_2 n x.2.2.2.2.1 y0_6 y0_10 a1 = some t → W p l e rmM_save s m args below meth c H locs 0 0 (MQ below (qW E (some .int) (some (.int t.1)) (wM E ad x) (wM E ad (x.1, x.2.1, x.2.2.1, x.2.2.2.1, x.2.2.2.2.1, x.2.2.2.2.2.1, t.2.1, x.2.2.2.2.2.2.2.1, x.2.2.2.2.2.2.2.2.1, x.2.2.2.2.2.2.2.2.2.1, t.2.2, x.2.2.2.2.2.2.2.2.2.2.2))) args s 0 0 (adr (wM E ad x))) (F0 m 2 ls []) := by
    intro n
    induction n with
    | zero => intro y0_6 y0_10 a1 ls hl H locs hH hf; cases hf
    | succ n ih =>
      intro y0_6 y0_10 a1 ls hl H locs hH hf
      rw [fM_save_2] at hf
      refine lv_iload_n hx hb dX9_save_2 rfl (lv_at hl 1 rfl) ?_
      refine lv_sipush (v := 132) hx hb dX9_save_3 (by decide) ?_
      refine lv_icmp_ge (tgt := 27) hx hb dX9_save_6 (by decide) (fun c1 => ?_) (fun c1 => ?_)
      · have hf := ite_t hf c1
        refine lv_aload_n hx hb dX9_save_27 rfl (lv_at hl 0 rfl) ?_
        refine lv_iconst (v := 1) hx hb dX9_save_28 (by decide) ?_
        refine pX9_241 hC hH 0 rfl (v := .int (1 : Int32)) rfl rfl (Nat.le_of_ble_eq_true rfl) (W1 := wM E ad (x.1, x.2.1, x.2.2.1, x.2.2.2.1, x.2.2.2.2.1, x.2.2.2.2.2.1, y0_6, x.2.2.2.2.2.2.2.1, x.2.2.2.2.2.2.2.2.1, x.2.2.2.2.2.2.2.2.2.1, (1 : Int32), x.2.2.2.2.2.2.2.2.2.2.2)) rfl dX9_save_29 (fun H locs hH => ?_)
        refine lv_aload_n hx hb dX9_save_32 rfl (lv_at hl 0 rfl) ?_
        refine gX9_7 hC hH.1 0 rfl (v := .ref (ad 1)) rfl dX9_save_33 ?_
        refine lv_iconst (v := 0) hx hb dX9_save_36 (by decide) ?_
        obtain ⟨v2, hv2, hf⟩ := ob hf
        obtain ⟨hv2a, hv2b⟩ := ldA_ok hv2
        refine a_ild hC hH.1 1 rfl hv2a hv2b dX9_save_37 ?_
        cases hf
        exact e_Wi hC hH hr hlocks rfl rfl dX9_save_38
      · have hf := ite_f hf c1
        refine lv_aload_n hx hb dX9_save_9 rfl (lv_at hl 0 rfl) ?_
        refine gX9_16 hC hH.1 0 rfl (v := .ref (ad 3)) rfl dX9_save_10 ?_
        refine lv_iload_n hx hb dX9_save_13 rfl (lv_at hl 1 rfl) ?_
        refine lv_aload_n hx hb dX9_save_14 rfl (lv_at hl 0 rfl) ?_
        refine gX9_7 hC hH.1 0 rfl (v := .ref (ad 1)) rfl dX9_save_15 ?_
        refine lv_iload_n hx hb dX9_save_18 rfl (lv_at hl 1 rfl) ?_
        obtain ⟨v3, hv3, hf⟩ := ob hf
        obtain ⟨hv3a, hv3b⟩ := ldA_ok hv3
        refine a_ild hC hH.1 1 rfl hv3a hv3b dX9_save_19 ?_
        obtain ⟨g4, hg4, hf⟩ := ob hf
        obtain ⟨hg4a, hg4b⟩ := stA_ok hg4
        refine a_ist hC hH 3 rfl hg4a hg4b (W1 := wM E ad (x.1, x.2.1, x.2.2.1, x.2.2.2.1, x.2.2.2.2.1, x.2.2.2.2.2.1, g4, x.2.2.2.2.2.2.2.1, x.2.2.2.2.2.2.2.2.1, x.2.2.2.2.2.2.2.2.2.1, y0_10, x.2.2.2.2.2.2.2.2.2.2.2)) rfl dX9_save_20 (fun H locs hH => ?_)
        refine lv_iinc (v := (a1 + (1 : Int32))) (lv' := [(1, .int (a1 + (1 : Int32))), (0, .ref (ad 0))]) hx hb dX9_save_21 hl (k := 1) rfl rfl (by decide) rfl (fun ls hl => ?_)
        refine lv_goto (tgt := 2) hx hb dX9_save_24 (by decide) ?_
        exact ih g4 y0_10 (a1 + (1 : Int32)) ls (lv_sub hl [1, 0] rfl) _ _ hH hf
  intro H locs hH
  rw [fM_save] at hf
  refine lv_iconst (v := 0) hx hb dX9_save_0 (by decide) ?_
  refine lv_istore_n (lv' := [(1, .int (0 : Int32)), (0, .ref (ad 0))]) hx hb dX9_save_1 rfl hl (by decide) rfl (fun ls hl => ?_)
  exact L2 FU x.2.2.2.2.2.2.1 x.2.2.2.2.2.2.2.2.2.2.1 (0 : Int32) ls (lv_sub hl [1, 0] rfl) _ _ hH hf
abbrev rmM_restore : Room := { frames := 0, cells := 0, slots := 0, locals := 0 }
set_option maxHeartbeats 4000000 in
set_option maxRecDepth 100000 in
theorem cM_restore (l : Launch) (E : eE) (ad : Nat → Nat) (x : TM) (t : Int32 × (Nat → Int32) × Int32 × Int32) (hf : fM_restore x.2.2.2.2.1 x.2.2.2.2.2.2.1 x.2.2.2.2.2.2.2.2.1 x.2.2.2.2.2.2.2.2.2.1 x.2.2.2.2.2.2.2.2.2.2.1 = some t) : cW l E yX9_restore cX9_restore 2 (some .int) rmM_restore [.ref (ad 0)] (wM E ad x) (some (.int t.1)) (wM E ad (x.1, x.2.1, x.2.2.1, x.2.2.2.1, t.2.1, x.2.2.2.2.2.1, x.2.2.2.2.2.2.1, x.2.2.2.2.2.2.2.1, t.2.2.1, t.2.2.2, x.2.2.2.2.2.2.2.2.2.2)) := by
  refine Met.ofW (cc := cX9_restore) (maxL := 2) (ret := (some .int)) (by decide) rfl ?_
  intro p e s m args below meth c s₁ B hml hv
  obtain ⟨hargs, hP, hK, hD0⟩ := hv
  have hx := B.exec
  have hb := B.bytes
  have hr := B.returns
  have hts := atoms_spec (ws := ws_ yX9_restore cX9_restore 2 (some .int)) B.pre
  have hta : ∀ w ∈ lw_all, w.before args s = true := fun w h => hts w (List.mem_cons_of_mem _ h)
  have hown : s.vm.findClass RX9 = some m.cls := findClass_of_methodNamed B.named
  have hlocks := B.notSynchronized
  have hC : Cx p s m args c cX9_restore 2 RX9 E := ⟨hx, hb, hml, hown, hta, hK⟩
  have hH : Hp E (adr (wM E ad x)) (wM E ad x) s.heap s.heap [] := Hp.start hP hD0
  obtain ⟨ls, he, hl⟩ := entry_ (m := m) (n := 2) hargs (Nat.le_of_ble_eq_true rfl)
  rw [he]
  have hl : lv_has ls 2 [(0, .ref (ad 0))] := hl
  show W p l e rmM_restore s m args below meth c s.heap [] 0 0 (MQ below (qW E (some .int) (some (.int t.1)) (wM E ad x) (wM E ad (x.1, x.2.1, x.2.2.1, x.2.2.2.1, t.2.1, x.2.2.2.2.2.1, x.2.2.2.2.2.2.1, x.2.2.2.2.2.2.2.1, t.2.2.1, t.2.2.2, x.2.2.2.2.2.2.2.2.2.2))) args s 0 0 (adr (wM E ad x))) (F0 m 0 ls [])
  suffices hmain : ∀ (H : Heap) (locs : List Loc), Hp E (adr (wM E ad x)) (wM E ad x) s.heap H locs → W p l e rmM_restore s m args below meth c H locs 0 0 (MQ below (qW E (some .int) (some (.int t.1)) (wM E ad x) (wM E ad (x.1, x.2.1, x.2.2.1, x.2.2.2.1, t.2.1, x.2.2.2.2.2.1, x.2.2.2.2.2.2.1, x.2.2.2.2.2.2.2.1, t.2.2.1, t.2.2.2, x.2.2.2.2.2.2.2.2.2.2))) args s 0 0 (adr (wM E ad x))) (F0 m 0 ls []) from hmain _ _ hH
  clear hH
  have L12 : ∀ (n : Nat) (y0_4 : (Nat → Int32)) (y0_8 : Int32) (y0_9 : Int32) (a1 : Int32) (ls : Array Slot), lv_has ls 2 [(0, .ref (ad 0)), (1, .int a1)] → ∀ (H : Heap) (locs : List Loc), Hp E (adr (wM E ad x)) (wM E ad (x.1, x.2.1, x.2.2.1, x.2.2.2.1, y0_4, x.2.2.2.2.2.1, x.2.2.2.2.2.2.1, x.2.2.2.2.2.2.2.1, y0_8, y0_9, x.2.2.2.2.2.2.2.2.2.2)) s.heap H locs → fM_restore_12 n y0_4 x.2.2.2.2.2.2.1 y0_8 y0_9 x.2.2.2.2.2.2.2.2.2.2.1 a1 = some t → W p l e rmM_restore s m args below meth c H locs 0 0 (MQ below (qW E (some .int) (some (.int t.1)) (wM E ad x) (wM E ad (x.1, x.2.1, x.2.2.1, x.2.2.2.1, t.2.1, x.2.2.2.2.2.1, x.2.2.2.2.2.2.1, x.2.2.2.2.2.2.2.1, t.2.2.1, t.2.2.2, x.2.2.2.2.2.2.2.2.2.2))) args s 0 0 (adr (wM E ad x))) (F0 m 12 ls []) := by
    intro n
    induction n with
    | zero => intro y0_4 y0_8 y0_9 a1 ls hl H locs hH hf; cases hf
    | succ n ih =>
      intro y0_4 y0_8 y0_9 a1 ls hl H locs hH hf
      rw [fM_restore_12] at hf
      refine lv_iload_n hx hb dX9_restore_12 rfl (lv_at hl 1 rfl) ?_
      refine lv_sipush (v := 132) hx hb dX9_restore_13 (by decide) ?_
      refine lv_icmp_ge (tgt := 37) hx hb dX9_restore_16 (by decide) (fun c2 => ?_) (fun c2 => ?_)
      · have hf := ite_t hf c2
        refine lv_aload_n hx hb dX9_restore_37 rfl (lv_at hl 0 rfl) ?_
        refine lv_iconst (v := 0) hx hb dX9_restore_38 (by decide) ?_
        refine pX9_48 hC hH 0 rfl (v := .int (0 : Int32)) rfl rfl (Nat.le_of_ble_eq_true rfl) (W1 := wM E ad (x.1, x.2.1, x.2.2.1, x.2.2.2.1, y0_4, x.2.2.2.2.2.1, x.2.2.2.2.2.2.1, x.2.2.2.2.2.2.2.1, (0 : Int32), y0_9, x.2.2.2.2.2.2.2.2.2.2)) rfl dX9_restore_39 (fun H locs hH => ?_)
        refine lv_aload_n hx hb dX9_restore_42 rfl (lv_at hl 0 rfl) ?_
        refine lv_iconst (v := 0) hx hb dX9_restore_43 (by decide) ?_
        refine pX9_51 hC hH 0 rfl (v := .int (0 : Int32)) rfl rfl (Nat.le_of_ble_eq_true rfl) (W1 := wM E ad (x.1, x.2.1, x.2.2.1, x.2.2.2.1, y0_4, x.2.2.2.2.2.1, x.2.2.2.2.2.2.1, x.2.2.2.2.2.2.2.1, (0 : Int32), (0 : Int32), x.2.2.2.2.2.2.2.2.2.2)) rfl dX9_restore_44 (fun H locs hH => ?_)
        refine lv_aload_n hx hb dX9_restore_47 rfl (lv_at hl 0 rfl) ?_
        refine gX9_7 hC hH.1 0 rfl (v := .ref (ad 1)) rfl dX9_restore_48 ?_
        refine lv_iconst (v := 0) hx hb dX9_restore_51 (by decide) ?_
        obtain ⟨v3, hv3, hf⟩ := ob hf
        obtain ⟨hv3a, hv3b⟩ := ldA_ok hv3
        refine a_ild hC hH.1 1 rfl hv3a hv3b dX9_restore_52 ?_
        cases hf
        exact e_Wi hC hH hr hlocks rfl rfl dX9_restore_53
      · have hf := ite_f hf c2
        refine lv_aload_n hx hb dX9_restore_19 rfl (lv_at hl 0 rfl) ?_
        refine gX9_7 hC hH.1 0 rfl (v := .ref (ad 1)) rfl dX9_restore_20 ?_
        refine lv_iload_n hx hb dX9_restore_23 rfl (lv_at hl 1 rfl) ?_
        refine lv_aload_n hx hb dX9_restore_24 rfl (lv_at hl 0 rfl) ?_
        refine gX9_16 hC hH.1 0 rfl (v := .ref (ad 3)) rfl dX9_restore_25 ?_
        refine lv_iload_n hx hb dX9_restore_28 rfl (lv_at hl 1 rfl) ?_
        obtain ⟨v4, hv4, hf⟩ := ob hf
        obtain ⟨hv4a, hv4b⟩ := ldA_ok hv4
        refine a_ild hC hH.1 3 rfl hv4a hv4b dX9_restore_29 ?_
        obtain ⟨g5, hg5, hf⟩ := ob hf
        obtain ⟨hg5a, hg5b⟩ := stA_ok hg5
        refine a_ist hC hH 1 rfl hg5a hg5b (W1 := wM E ad (x.1, x.2.1, x.2.2.1, x.2.2.2.1, g5, x.2.2.2.2.2.1, x.2.2.2.2.2.2.1, x.2.2.2.2.2.2.2.1, y0_8, y0_9, x.2.2.2.2.2.2.2.2.2.2)) rfl dX9_restore_30 (fun H locs hH => ?_)
        refine lv_iinc (v := (a1 + (1 : Int32))) (lv' := [(1, .int (a1 + (1 : Int32))), (0, .ref (ad 0))]) hx hb dX9_restore_31 hl (k := 1) rfl rfl (by decide) rfl (fun ls hl => ?_)
        refine lv_goto (tgt := 12) hx hb dX9_restore_34 (by decide) ?_
        exact ih g5 y0_8 y0_9 (a1 + (1 : Int32)) ls (lv_sub hl [1, 0] rfl) _ _ hH hf
  intro H locs hH
  rw [fM_restore] at hf
  refine lv_aload_n hx hb dX9_restore_0 rfl (lv_at hl 0 rfl) ?_
  refine gX9_241 hC hH.1 0 rfl (v := .int x.2.2.2.2.2.2.2.2.2.2.1) rfl dX9_restore_1 ?_
  refine lv_if_ne (tgt := 10) hx hb dX9_restore_4 (by decide) (fun c1 => ?_) (fun c1 => ?_)
  · have hf := ite_f hf c1
    refine lv_iconst (v := 0) hx hb dX9_restore_10 (by decide) ?_
    refine lv_istore_n (lv' := [(1, .int (0 : Int32)), (0, .ref (ad 0))]) hx hb dX9_restore_11 rfl hl (by decide) rfl (fun ls hl => ?_)
    exact L12 FU x.2.2.2.2.1 x.2.2.2.2.2.2.2.2.1 x.2.2.2.2.2.2.2.2.2.1 (0 : Int32) ls (lv_sub hl [1, 0] rfl) _ _ hH hf
  · have hf := ite_t hf c1
    refine lv_bipush (v := (-15)) hx hb dX9_restore_7 (by decide) ?_
    cases hf
    exact e_Wi hC hH hr hlocks rfl rfl dX9_restore_9
