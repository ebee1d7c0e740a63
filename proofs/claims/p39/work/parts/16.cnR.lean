abbrev rmR_fillRow : Room := { frames := 1, cells := 0, slots := 0, locals := 21 }
set_option maxHeartbeats 4000000 in
set_option maxRecDepth 100000 in
theorem cR_fillRow (l : Launch) (E : eE) (ad : Nat → Nat) (q0_wholes : (Nat → Int64)) (q0_onesAtBlocks : (Nat → Nat → Int32)) (q0_zeros : (Nat → Int32)) (q0_order : (Nat → Int32)) (q0_nextOrder : (Nat → Int32)) (q0_size : Int32) (a1 : Int32) (t : (Nat → Int64) × (Nat → Nat → Int32) × (Nat → Int32)) (hf : fR_fillRow q0_wholes q0_onesAtBlocks q0_zeros q0_order q0_size a1 = some t) : cW l E yX4_fillRow cX4_fillRow 6 none rmR_fillRow [.ref (ad 0), .int a1] (wR E ad q0_wholes q0_onesAtBlocks q0_zeros q0_order q0_nextOrder q0_size) none (wR E ad t.1 t.2.1 t.2.2 q0_order q0_nextOrder q0_size) := by
  refine Met.ofW (cc := cX4_fillRow) (maxL := 6) (ret := none) (by decide) rfl ?_
  intro p e s m args below meth c s₁ B hml hv
  obtain ⟨hargs, hP, hK, hD0⟩ := hv
  have hx := B.exec
  have hb := B.bytes
  have hr := B.returns
  have hts := atoms_spec (ws := ws_ yX4_fillRow cX4_fillRow 6 none) B.pre
  have hta : ∀ w ∈ lw_all, w.before args s = true := fun w h => hts w (List.mem_cons_of_mem _ h)
  have hown : s.vm.findClass RX4 = some m.cls := findClass_of_methodNamed B.named
  have hlocks := B.notSynchronized
  have hC : Cx p s m args c cX4_fillRow 6 RX4 E := ⟨hx, hb, hml, hown, hta, hK⟩
  have hH : Hp E (adr (wR E ad q0_wholes q0_onesAtBlocks q0_zeros q0_order q0_nextOrder q0_size)) (wR E ad q0_wholes q0_onesAtBlocks q0_zeros q0_order q0_nextOrder q0_size) s.heap s.heap [] := Hp.start hP hD0
  obtain ⟨ls, he, hl⟩ := entry_ (m := m) (n := 6) hargs (Nat.le_of_ble_eq_true rfl)
  rw [he]
  have hl : lv_has ls 6 [(0, .ref (ad 0)), (1, .int a1)] := hl
  show W p l e rmR_fillRow s m args below meth c s.heap [] 0 0 (MQ below (qW E none none (wR E ad q0_wholes q0_onesAtBlocks q0_zeros q0_order q0_nextOrder q0_size) (wR E ad t.1 t.2.1 t.2.2 q0_order q0_nextOrder q0_size)) args s 0 0 (adr (wR E ad q0_wholes q0_onesAtBlocks q0_zeros q0_order q0_nextOrder q0_size))) (F0 m 0 ls [])
  suffices hmain : ∀ (H : Heap) (locs : List Loc), Hp E (adr (wR E ad q0_wholes q0_onesAtBlocks q0_zeros q0_order q0_nextOrder q0_size)) (wR E ad q0_wholes q0_onesAtBlocks q0_zeros q0_order q0_nextOrder q0_size) s.heap H locs → W p l e rmR_fillRow s m args below meth c H locs 0 0 (MQ below (qW E none none (wR E ad q0_wholes q0_onesAtBlocks q0_zeros q0_order q0_nextOrder q0_size) (wR E ad t.1 t.2.1 t.2.2 q0_order q0_nextOrder q0_size)) args s 0 0 (adr (wR E ad q0_wholes q0_onesAtBlocks q0_zeros q0_order q0_nextOrder q0_size))) (F0 m 0 ls []) from hmain _ _ hH
  clear hH
  have L16 : ∀ (n : Nat) (y0_0 : (Nat → Int64)) (y0_1 : (Nat → Nat → Int32)) (y0_2 : (Nat → Int32)) (a1 : Int32) (a2 : Int64) (a4 : Int32) (a5 : Int32) (ls : Array Slot), lv_has ls 6 [(0, .ref (ad 0)), (1, .int a1), (2, .long a2), (4, .int a4), (5, .int a5)] → ∀ (H : Heap) (locs : List Loc), Hp E (adr (wR E ad q0_wholes q0_onesAtBlocks q0_zeros q0_order q0_nextOrder q0_size)) (wR E ad y0_0 y0_1 y0_2 q0_order q0_nextOrder q0_size) s.heap H locs → fR_fillRow_16 n y0_0 y0_1 y0_2 q0_order q0_size a1 a2 a4 a5 = some t → W p l e rmR_fillRow s m args below meth c H locs 0 0 (MQ below (qW E none none (wR E ad q0_wholes q0_onesAtBlocks q0_zeros q0_order q0_nextOrder q0_size) (wR E ad t.1 t.2.1 t.2.2 q0_order q0_nextOrder q0_size)) args s 0 0 (adr (wR E ad q0_wholes q0_onesAtBlocks q0_zeros q0_order q0_nextOrder q0_size))) (F0 m 16 ls []) := by
    intro n
    induction n with
    | zero => intro y0_0 y0_1 y0_2 a1 a2 a4 a5 ls hl H locs hH hf; cases hf
    | succ n ih =>
      intro y0_0 y0_1 y0_2 a1 a2 a4 a5 ls hl H locs hH hf
      rw [fR_fillRow_16] at hf
      refine lv_iload hx hb dX4_fillRow_16 (lv_at hl 4 rfl) ?_
      refine lv_bipush (v := 64) hx hb dX4_fillRow_18 (by decide) ?_
      refine lv_icmp_gt (tgt := 94) hx hb dX4_fillRow_20 (by decide) (fun c2 => ?_) (fun c2 => ?_)
      · have hf := ite_t hf c2
        refine lv_aload_n hx hb dX4_fillRow_94 rfl (lv_at hl 0 rfl) ?_
        refine gX4_9 hC hH.1 0 rfl (v := .ref (ad 1)) rfl dX4_fillRow_95 ?_
        refine lv_iload_n hx hb dX4_fillRow_98 rfl (lv_at hl 1 rfl) ?_
        refine lv_lload_n hx hb dX4_fillRow_99 rfl (lv_at hl 2 rfl) ?_
        obtain ⟨g3, hg3, hf⟩ := ob hf
        obtain ⟨hg3a, hg3b⟩ := stA_ok hg3
        refine a_lst hC hH 1 rfl hg3a hg3b (W1 := wR E ad g3 y0_1 y0_2 q0_order q0_nextOrder q0_size) rfl dX4_fillRow_100 (fun H locs hH => ?_)
        refine lv_aload_n hx hb dX4_fillRow_101 rfl (lv_at hl 0 rfl) ?_
        refine gX4_20 hC hH.1 0 rfl (v := .ref (ad 3)) rfl dX4_fillRow_102 ?_
        refine lv_iload_n hx hb dX4_fillRow_105 rfl (lv_at hl 1 rfl) ?_
        refine lv_aload_n hx hb dX4_fillRow_106 rfl (lv_at hl 0 rfl) ?_
        refine gX4_36 hC hH.1 0 rfl (v := .int q0_size) rfl dX4_fillRow_107 ?_
        refine lv_iload hx hb dX4_fillRow_110 (lv_at hl 3 rfl) ?_
        refine lv_isub hx hb dX4_fillRow_112 ?_
        obtain ⟨g4, hg4, hf⟩ := ob hf
        obtain ⟨hg4a, hg4b⟩ := stA_ok hg4
        refine a_ist hC hH 3 rfl hg4a hg4b (W1 := wR E ad g3 y0_1 g4 q0_order q0_nextOrder q0_size) rfl dX4_fillRow_113 (fun H locs hH => ?_)
        have hf := Option.some.inj hf
        subst hf
        exact e_Wv hC hH hr hlocks rfl dX4_fillRow_114
      · have hf := ite_f hf c2
        refine lv_iload hx hb dX4_fillRow_23 (lv_at hl 4 rfl) ?_
        refine lv_bipush (v := 8) hx hb dX4_fillRow_25 (by decide) ?_
        refine lv_irem hx hb dX4_fillRow_27 (by decide) ?_
        refine lv_if_ne (tgt := 45) hx hb dX4_fillRow_28 (by decide) (fun c5 => ?_) (fun c5 => ?_)
        · have hf := ite_f hf c5
          refine lv_iload hx hb dX4_fillRow_45 (lv_at hl 4 rfl) ?_
          refine lv_aload_n hx hb dX4_fillRow_47 rfl (lv_at hl 0 rfl) ?_
          refine gX4_36 hC hH.1 0 rfl (v := .int q0_size) rfl dX4_fillRow_48 ?_
          refine lv_icmp_ge (tgt := 88) hx hb dX4_fillRow_51 (by decide) (fun c6 => ?_) (fun c6 => ?_)
          · have hf := ite_t hf c6
            refine lv_iinc (v := (a5 + (1 : Int32))) (lv' := [(5, .int (a5 + (1 : Int32))), (0, .ref (ad 0)), (1, .int a1), (2, .long a2), (4, .int a4)]) hx hb dX4_fillRow_88 hl (k := 4) rfl rfl (by decide) rfl (fun ls hl => ?_)
            refine lv_goto (tgt := 16) hx hb dX4_fillRow_91 (by decide) ?_
            exact ih y0_0 y0_1 y0_2 a1 a2 a4 (a5 + (1 : Int32)) ls (lv_sub hl [1, 2, 3, 4, 0] rfl) _ _ hH hf
          · have hf := ite_f hf c6
            refine lv_iload hx hb dX4_fillRow_54 (lv_at hl 4 rfl) ?_
            refine lv_aload_n hx hb dX4_fillRow_56 rfl (lv_at hl 0 rfl) ?_
            refine gX4_24 hC hH.1 0 rfl (v := .ref (ad 4)) rfl dX4_fillRow_57 ?_
            refine va_alen (v := 64) hx hb hK.1 hH.1 4 0 rfl rfl rfl dX4_fillRow_60 ?_
            refine lv_icmp_ge (tgt := 88) hx hb dX4_fillRow_61 (by decide) (fun c7 => ?_) (fun c7 => ?_)
            · have hf := ite_t hf c7
              refine lv_iinc (v := (a5 + (1 : Int32))) (lv' := [(5, .int (a5 + (1 : Int32))), (0, .ref (ad 0)), (1, .int a1), (2, .long a2), (4, .int a4)]) hx hb dX4_fillRow_88 hl (k := 4) rfl rfl (by decide) rfl (fun ls hl => ?_)
              refine lv_goto (tgt := 16) hx hb dX4_fillRow_91 (by decide) ?_
              exact ih y0_0 y0_1 y0_2 a1 a2 a4 (a5 + (1 : Int32)) ls (lv_sub hl [1, 2, 3, 4, 0] rfl) _ _ hH hf
            · have hf := ite_f hf c7
              refine lv_aload_n hx hb dX4_fillRow_64 rfl (lv_at hl 0 rfl) ?_
              refine gX4_24 hC hH.1 0 rfl (v := .ref (ad 4)) rfl dX4_fillRow_65 ?_
              refine lv_iload hx hb dX4_fillRow_68 (lv_at hl 4 rfl) ?_
              obtain ⟨v8, hv8, hf⟩ := ob hf
              obtain ⟨hv8a, hv8b⟩ := ldA_ok hv8
              refine a_ild hC hH.1 4 rfl hv8a hv8b dX4_fillRow_70 ?_
              refine lv_iload_n hx hb dX4_fillRow_71 rfl (lv_at hl 1 rfl) ?_
              refine k_PSNi hC LX4_54 ⟨Nat.le_of_ble_eq_true rfl, Nat.le_of_ble_eq_true rfl⟩ ⟨Nat.zero_le _, Nat.zero_le _⟩ (cS_hasBit l E v8 a1 _ rfl) rfl rfl (vP_nil) hl.1 rfl (Nat.le_of_ble_eq_true rfl) rfl dX4_fillRow_72 (fun hz72 => ?_)
              refine lv_if_eq (tgt := 88) hx hb dX4_fillRow_75 (by decide) (fun c9 => ?_) (fun c9 => ?_)
              · have hf := ite_t hf c9
                refine lv_iinc (v := (a5 + (1 : Int32))) (lv' := [(5, .int (a5 + (1 : Int32))), (0, .ref (ad 0)), (1, .int a1), (2, .long a2), (4, .int a4)]) hx hb dX4_fillRow_88 hl (k := 4) rfl rfl (by decide) rfl (fun ls hl => ?_)
                refine lv_goto (tgt := 16) hx hb dX4_fillRow_91 (by decide) ?_
                exact ih y0_0 y0_1 y0_2 a1 a2 a4 (a5 + (1 : Int32)) ls (lv_sub hl [1, 2, 3, 4, 0] rfl) _ _ hH hf
              · have hf := ite_f hf c9
                refine lv_lload_n hx hb dX4_fillRow_78 rfl (lv_at hl 2 rfl) ?_
                refine lv_lconst (v := 1) hx hb dX4_fillRow_79 (by decide) ?_
                refine lv_iload hx hb dX4_fillRow_80 (lv_at hl 4 rfl) ?_
                refine lv_lshl hx hb dX4_fillRow_82 rfl ?_
                refine lv_lor hx hb dX4_fillRow_83 ?_
                refine lv_lstore_n (lv' := [(2, .long (a2 ||| ((1 : Int64) <<< (a5.toInt64 &&& 63)))), (0, .ref (ad 0)), (1, .int a1), (4, .int a4), (5, .int a5)]) hx hb dX4_fillRow_84 rfl hl (by decide) rfl (fun ls hl => ?_)
                refine lv_iinc (v := (a4 + (1 : Int32))) (lv' := [(4, .int (a4 + (1 : Int32))), (2, .long (a2 ||| ((1 : Int64) <<< (a5.toInt64 &&& 63)))), (0, .ref (ad 0)), (1, .int a1), (5, .int a5)]) hx hb dX4_fillRow_85 hl (k := 3) rfl rfl (by decide) rfl (fun ls hl => ?_)
                refine lv_iinc (v := (a5 + (1 : Int32))) (lv' := [(5, .int (a5 + (1 : Int32))), (4, .int (a4 + (1 : Int32))), (2, .long (a2 ||| ((1 : Int64) <<< (a5.toInt64 &&& 63)))), (0, .ref (ad 0)), (1, .int a1)]) hx hb dX4_fillRow_88 hl (k := 4) rfl rfl (by decide) rfl (fun ls hl => ?_)
                refine lv_goto (tgt := 16) hx hb dX4_fillRow_91 (by decide) ?_
                exact ih y0_0 y0_1 y0_2 a1 (a2 ||| ((1 : Int64) <<< (a5.toInt64 &&& 63))) (a4 + (1 : Int32)) (a5 + (1 : Int32)) ls (lv_sub hl [3, 4, 2, 1, 0] rfl) _ _ hH hf
        · have hf := ite_t hf c5
          refine lv_aload_n hx hb dX4_fillRow_31 rfl (lv_at hl 0 rfl) ?_
          refine gX4_17 hC hH.1 0 rfl (v := .ref (ad 2)) rfl dX4_fillRow_32 ?_
          refine lv_iload_n hx hb dX4_fillRow_35 rfl (lv_at hl 1 rfl) ?_
          obtain ⟨k10, hk10, hf⟩ := ob hf
          obtain ⟨hk10a, hk10b⟩ := ldA_ok hk10
          have hk10c : k10 < 5 := by rw [← hk10b]; exact Nat.not_le.mp fun q => hk10a (Or.inr q)
          refine a_gld hC hH.1 2 rfl hk10a dX4_fillRow_36 (kk := ?_)
          rw [hk10b]
          show W p l e _ s m args below meth c _ _ _ _ _ (F0 m 37 _ (.ref (ad (6 + k10)) :: _))
          refine lv_iload hx hb dX4_fillRow_37 (lv_at hl 4 rfl) ?_
          refine lv_bipush (v := 8) hx hb dX4_fillRow_39 (by decide) ?_
          refine lv_idiv hx hb dX4_fillRow_41 (by decide) ?_
          refine lv_iload hx hb dX4_fillRow_42 (lv_at hl 3 rfl) ?_
          obtain ⟨g11, hg11, hf⟩ := ob hf
          obtain ⟨hg11a, hg11b⟩ := stA_ok hg11
          refine a_ist hC hH (6 + k10) (all5 (P := fun k => (wR E ad y0_0 y0_1 y0_2 q0_order q0_nextOrder q0_size)[6 + k]? = some (ad (6 + k), .inl (E.2 0, 9, .inl (y0_1 k)))) hk10c rfl rfl rfl rfl rfl) hg11a hg11b (W1 := wR E ad y0_0 (fun j => if j = k10 then g11 else y0_1 j) y0_2 q0_order q0_nextOrder q0_size) (all5 (P := fun k => (wR E ad y0_0 y0_1 y0_2 q0_order q0_nextOrder q0_size).set (6 + k) (ad (6 + k), .inl (E.2 0, 9, .inl g11)) = wR E ad y0_0 (fun j => if j = k then g11 else y0_1 j) y0_2 q0_order q0_nextOrder q0_size) hk10c rfl rfl rfl rfl rfl) dX4_fillRow_44 (fun H locs hH => ?_)
          refine lv_iload hx hb dX4_fillRow_45 (lv_at hl 4 rfl) ?_
          refine lv_aload_n hx hb dX4_fillRow_47 rfl (lv_at hl 0 rfl) ?_
          refine gX4_36 hC hH.1 0 rfl (v := .int q0_size) rfl dX4_fillRow_48 ?_
          refine lv_icmp_ge (tgt := 88) hx hb dX4_fillRow_51 (by decide) (fun c12 => ?_) (fun c12 => ?_)
          · have hf := ite_t hf c12
            refine lv_iinc (v := (a5 + (1 : Int32))) (lv' := [(5, .int (a5 + (1 : Int32))), (0, .ref (ad 0)), (1, .int a1), (2, .long a2), (4, .int a4)]) hx hb dX4_fillRow_88 hl (k := 4) rfl rfl (by decide) rfl (fun ls hl => ?_)
            refine lv_goto (tgt := 16) hx hb dX4_fillRow_91 (by decide) ?_
            exact ih y0_0 (fun j => if j = k10 then g11 else y0_1 j) y0_2 a1 a2 a4 (a5 + (1 : Int32)) ls (lv_sub hl [1, 2, 3, 4, 0] rfl) _ _ hH hf
          · have hf := ite_f hf c12
            refine lv_iload hx hb dX4_fillRow_54 (lv_at hl 4 rfl) ?_
            refine lv_aload_n hx hb dX4_fillRow_56 rfl (lv_at hl 0 rfl) ?_
            refine gX4_24 hC hH.1 0 rfl (v := .ref (ad 4)) rfl dX4_fillRow_57 ?_
            refine va_alen (v := 64) hx hb hK.1 hH.1 4 0 rfl rfl rfl dX4_fillRow_60 ?_
            refine lv_icmp_ge (tgt := 88) hx hb dX4_fillRow_61 (by decide) (fun c13 => ?_) (fun c13 => ?_)
            · have hf := ite_t hf c13
              refine lv_iinc (v := (a5 + (1 : Int32))) (lv' := [(5, .int (a5 + (1 : Int32))), (0, .ref (ad 0)), (1, .int a1), (2, .long a2), (4, .int a4)]) hx hb dX4_fillRow_88 hl (k := 4) rfl rfl (by decide) rfl (fun ls hl => ?_)
              refine lv_goto (tgt := 16) hx hb dX4_fillRow_91 (by decide) ?_
              exact ih y0_0 (fun j => if j = k10 then g11 else y0_1 j) y0_2 a1 a2 a4 (a5 + (1 : Int32)) ls (lv_sub hl [1, 2, 3, 4, 0] rfl) _ _ hH hf
            · have hf := ite_f hf c13
              refine lv_aload_n hx hb dX4_fillRow_64 rfl (lv_at hl 0 rfl) ?_
              refine gX4_24 hC hH.1 0 rfl (v := .ref (ad 4)) rfl dX4_fillRow_65 ?_
              refine lv_iload hx hb dX4_fillRow_68 (lv_at hl 4 rfl) ?_
              obtain ⟨v14, hv14, hf⟩ := ob hf
              obtain ⟨hv14a, hv14b⟩ := ldA_ok hv14
              refine a_ild hC hH.1 4 rfl hv14a hv14b dX4_fillRow_70 ?_
              refine lv_iload_n hx hb dX4_fillRow_71 rfl (lv_at hl 1 rfl) ?_
              refine k_PSNi hC LX4_54 ⟨Nat.le_of_ble_eq_true rfl, Nat.le_of_ble_eq_true rfl⟩ ⟨Nat.zero_le _, Nat.zero_le _⟩ (cS_hasBit l E v14 a1 _ rfl) rfl rfl (vP_nil) hl.1 rfl (Nat.le_of_ble_eq_true rfl) rfl dX4_fillRow_72 (fun hz72 => ?_)
              refine lv_if_eq (tgt := 88) hx hb dX4_fillRow_75 (by decide) (fun c15 => ?_) (fun c15 => ?_)
              · have hf := ite_t hf c15
                refine lv_iinc (v := (a5 + (1 : Int32))) (lv' := [(5, .int (a5 + (1 : Int32))), (0, .ref (ad 0)), (1, .int a1), (2, .long a2), (4, .int a4)]) hx hb dX4_fillRow_88 hl (k := 4) rfl rfl (by decide) rfl (fun ls hl => ?_)
                refine lv_goto (tgt := 16) hx hb dX4_fillRow_91 (by decide) ?_
                exact ih y0_0 (fun j => if j = k10 then g11 else y0_1 j) y0_2 a1 a2 a4 (a5 + (1 : Int32)) ls (lv_sub hl [1, 2, 3, 4, 0] rfl) _ _ hH hf
              · have hf := ite_f hf c15
                refine lv_lload_n hx hb dX4_fillRow_78 rfl (lv_at hl 2 rfl) ?_
                refine lv_lconst (v := 1) hx hb dX4_fillRow_79 (by decide) ?_
                refine lv_iload hx hb dX4_fillRow_80 (lv_at hl 4 rfl) ?_
                refine lv_lshl hx hb dX4_fillRow_82 rfl ?_
                refine lv_lor hx hb dX4_fillRow_83 ?_
                refine lv_lstore_n (lv' := [(2, .long (a2 ||| ((1 : Int64) <<< (a5.toInt64 &&& 63)))), (0, .ref (ad 0)), (1, .int a1), (4, .int a4), (5, .int a5)]) hx hb dX4_fillRow_84 rfl hl (by decide) rfl (fun ls hl => ?_)
                refine lv_iinc (v := (a4 + (1 : Int32))) (lv' := [(4, .int (a4 + (1 : Int32))), (2, .long (a2 ||| ((1 : Int64) <<< (a5.toInt64 &&& 63)))), (0, .ref (ad 0)), (1, .int a1), (5, .int a5)]) hx hb dX4_fillRow_85 hl (k := 3) rfl rfl (by decide) rfl (fun ls hl => ?_)
                refine lv_iinc (v := (a5 + (1 : Int32))) (lv' := [(5, .int (a5 + (1 : Int32))), (4, .int (a4 + (1 : Int32))), (2, .long (a2 ||| ((1 : Int64) <<< (a5.toInt64 &&& 63)))), (0, .ref (ad 0)), (1, .int a1)]) hx hb dX4_fillRow_88 hl (k := 4) rfl rfl (by decide) rfl (fun ls hl => ?_)
                refine lv_goto (tgt := 16) hx hb dX4_fillRow_91 (by decide) ?_
                exact ih y0_0 (fun j => if j = k10 then g11 else y0_1 j) y0_2 a1 (a2 ||| ((1 : Int64) <<< (a5.toInt64 &&& 63))) (a4 + (1 : Int32)) (a5 + (1 : Int32)) ls (lv_sub hl [3, 4, 2, 1, 0] rfl) _ _ hH hf
  intro H locs hH
  rw [fR_fillRow] at hf
  refine lv_iload_n hx hb dX4_fillRow_0 rfl (lv_at hl 1 rfl) ?_
  refine k_PSNi hC LX4_50 ⟨Nat.le_of_ble_eq_true rfl, Nat.le_of_ble_eq_true rfl⟩ ⟨Nat.zero_le _, Nat.zero_le _⟩ (cS_isRow l E a1 _ rfl) rfl rfl (vP_nil) hl.1 rfl (Nat.le_of_ble_eq_true rfl) rfl dX4_fillRow_1 (fun hz1 => ?_)
  refine lv_if_ne (tgt := 8) hx hb dX4_fillRow_4 (by decide) (fun c1 => ?_) (fun c1 => ?_)
  · have hf := ite_f hf c1
    refine lv_lconst (v := 0) hx hb dX4_fillRow_8 (by decide) ?_
    refine lv_lstore_n (lv' := [(2, .long (0 : Int64)), (0, .ref (ad 0)), (1, .int a1)]) hx hb dX4_fillRow_9 rfl hl (by decide) rfl (fun ls hl => ?_)
    refine lv_iconst (v := 0) hx hb dX4_fillRow_10 (by decide) ?_
    refine lv_istore (lv' := [(4, .int (0 : Int32)), (2, .long (0 : Int64)), (0, .ref (ad 0)), (1, .int a1)]) hx hb dX4_fillRow_11 hl (by decide) rfl (fun ls hl => ?_)
    refine lv_iconst (v := 0) hx hb dX4_fillRow_13 (by decide) ?_
    refine lv_istore (lv' := [(5, .int (0 : Int32)), (4, .int (0 : Int32)), (2, .long (0 : Int64)), (0, .ref (ad 0)), (1, .int a1)]) hx hb dX4_fillRow_14 hl (by decide) rfl (fun ls hl => ?_)
    exact L16 FU q0_wholes q0_onesAtBlocks q0_zeros a1 (0 : Int64) (0 : Int32) (0 : Int32) ls (lv_sub hl [3, 4, 2, 1, 0] rfl) _ _ hH hf
  · have hf := ite_t hf c1
    have hf := Option.some.inj hf
    subst hf
    exact e_Wv hC hH hr hlocks rfl dX4_fillRow_7
abbrev rmR_gather : Room := { frames := 1, cells := 0, slots := 0, locals := 21 }
set_option maxHeartbeats 4000000 in
set_option maxRecDepth 100000 in
theorem cR_gather (l : Launch) (E : eE) (ad : Nat → Nat) (q0_wholes : (Nat → Int64)) (q0_onesAtBlocks : (Nat → Nat → Int32)) (q0_zeros : (Nat → Int32)) (q0_order : (Nat → Int32)) (q0_nextOrder : (Nat → Int32)) (q0_size : Int32) (a1 : Int32) (a2 : Int32) (a3 : Int32) (t : Int32 × (Nat → Int32)) (hf : fR_gather q0_order q0_nextOrder q0_size a1 a2 a3 = some t) : cW l E yX4_gather cX4_gather 6 (some .int) rmR_gather [.ref (ad 0), .int a1, .int a2, .int a3] (wR E ad q0_wholes q0_onesAtBlocks q0_zeros q0_order q0_nextOrder q0_size) (some (.int t.1)) (wR E ad q0_wholes q0_onesAtBlocks q0_zeros q0_order t.2 q0_size) := by
  refine Met.ofW (cc := cX4_gather) (maxL := 6) (ret := (some .int)) (by decide) rfl ?_
  intro p e s m args below meth c s₁ B hml hv
  obtain ⟨hargs, hP, hK, hD0⟩ := hv
  have hx := B.exec
  have hb := B.bytes
  have hr := B.returns
  have hts := atoms_spec (ws := ws_ yX4_gather cX4_gather 6 (some .int)) B.pre
  have hta : ∀ w ∈ lw_all, w.before args s = true := fun w h => hts w (List.mem_cons_of_mem _ h)
  have hown : s.vm.findClass RX4 = some m.cls := findClass_of_methodNamed B.named
  have hlocks := B.notSynchronized
  have hC : Cx p s m args c cX4_gather 6 RX4 E := ⟨hx, hb, hml, hown, hta, hK⟩
  have hH : Hp E (adr (wR E ad q0_wholes q0_onesAtBlocks q0_zeros q0_order q0_nextOrder q0_size)) (wR E ad q0_wholes q0_onesAtBlocks q0_zeros q0_order q0_nextOrder q0_size) s.heap s.heap [] := Hp.start hP hD0
  obtain ⟨ls, he, hl⟩ := entry_ (m := m) (n := 6) hargs (Nat.le_of_ble_eq_true rfl)
  rw [he]
  have hl : lv_has ls 6 [(0, .ref (ad 0)), (1, .int a1), (2, .int a2), (3, .int a3)] := hl
  show W p l e rmR_gather s m args below meth c s.heap [] 0 0 (MQ below (qW E (some .int) (some (.int t.1)) (wR E ad q0_wholes q0_onesAtBlocks q0_zeros q0_order q0_nextOrder q0_size) (wR E ad q0_wholes q0_onesAtBlocks q0_zeros q0_order t.2 q0_size)) args s 0 0 (adr (wR E ad q0_wholes q0_onesAtBlocks q0_zeros q0_order q0_nextOrder q0_size))) (F0 m 0 ls [])
  suffices hmain : ∀ (H : Heap) (locs : List Loc), Hp E (adr (wR E ad q0_wholes q0_onesAtBlocks q0_zeros q0_order q0_nextOrder q0_size)) (wR E ad q0_wholes q0_onesAtBlocks q0_zeros q0_order q0_nextOrder q0_size) s.heap H locs → W p l e rmR_gather s m args below meth c H locs 0 0 (MQ below (qW E (some .int) (some (.int t.1)) (wR E ad q0_wholes q0_onesAtBlocks q0_zeros q0_order q0_nextOrder q0_size) (wR E ad q0_wholes q0_onesAtBlocks q0_zeros q0_order t.2 q0_size)) args s 0 0 (adr (wR E ad q0_wholes q0_onesAtBlocks q0_zeros q0_order q0_nextOrder q0_size))) (F0 m 0 ls []) from hmain _ _ hH
  clear hH
  have L6 : ∀ (n : Nat) (y0_4 : (Nat → Int32)) (a1 : Int32) (a2 : Int32) (a4 : Int32) (a5 : Int32) (ls : Array Slot), lv_has ls 6 [(0, .ref (ad 0)), (1, .int a1), (2, .int a2), (4, .int a4), (5, .int a5)] → ∀ (H : Heap) (locs : List Loc), Hp E (adr (wR E ad q0_wholes q0_onesAtBlocks q0_zeros q0_order q0_nextOrder q0_size)) (wR E ad q0_wholes q0_onesAtBlocks q0_zeros q0_order y0_4 q0_size) s.heap H locs → fR_gather_6 n q0_order y0_4 q0_size a1 a2 a4 a5 = some t → W p l e rmR_gather s m args below meth c H locs 0 0 (MQ below (qW E (some .int) (some (.int t.1)) (wR E ad q0_wholes q0_onesAtBlocks q0_zeros q0_order q0_nextOrder q0_size) (wR E ad q0_wholes q0_onesAtBlocks q0_zeros q0_order t.2 q0_size)) args s 0 0 (adr (wR E ad q0_wholes q0_onesAtBlocks q0_zeros q0_order q0_nextOrder q0_size))) (F0 m 6 ls []) := by
    intro n
    induction n with
    | zero => intro y0_4 a1 a2 a4 a5 ls hl H locs hH hf; cases hf
    | succ n ih =>
      intro y0_4 a1 a2 a4 a5 ls hl H locs hH hf
      rw [fR_gather_6] at hf
      refine lv_iload hx hb dX4_gather_6 (lv_at hl 4 rfl) ?_
      refine lv_aload_n hx hb dX4_gather_8 rfl (lv_at hl 0 rfl) ?_
      refine gX4_36 hC hH.1 0 rfl (v := .int q0_size) rfl dX4_gather_9 ?_
      refine lv_icmp_ge (tgt := 78) hx hb dX4_gather_12 (by decide) (fun c1 => ?_) (fun c1 => ?_)
      · have hf := ite_t hf c1
        refine lv_iload hx hb dX4_gather_78 (lv_at hl 3 rfl) ?_
        have hf := Option.some.inj hf
        subst hf
        exact e_Wi hC hH hr hlocks rfl rfl dX4_gather_80
      · have hf := ite_f hf c1
        refine lv_iload hx hb dX4_gather_15 (lv_at hl 4 rfl) ?_
        refine lv_aload_n hx hb dX4_gather_17 rfl (lv_at hl 0 rfl) ?_
        refine gX4_24 hC hH.1 0 rfl (v := .ref (ad 4)) rfl dX4_gather_18 ?_
        refine va_alen (v := 64) hx hb hK.1 hH.1 4 0 rfl rfl rfl dX4_gather_21 ?_
        refine lv_icmp_ge (tgt := 78) hx hb dX4_gather_22 (by decide) (fun c2 => ?_) (fun c2 => ?_)
        · have hf := ite_t hf c2
          refine lv_iload hx hb dX4_gather_78 (lv_at hl 3 rfl) ?_
          have hf := Option.some.inj hf
          subst hf
          exact e_Wi hC hH hr hlocks rfl rfl dX4_gather_80
        · have hf := ite_f hf c2
          refine lv_aload_n hx hb dX4_gather_25 rfl (lv_at hl 0 rfl) ?_
          refine gX4_24 hC hH.1 0 rfl (v := .ref (ad 4)) rfl dX4_gather_26 ?_
          refine lv_iload hx hb dX4_gather_29 (lv_at hl 4 rfl) ?_
          obtain ⟨v3, hv3, hf⟩ := ob hf
          obtain ⟨hv3a, hv3b⟩ := ldA_ok hv3
          refine a_ild hC hH.1 4 rfl hv3a hv3b dX4_gather_31 ?_
          refine lv_iload_n hx hb dX4_gather_32 rfl (lv_at hl 1 rfl) ?_
          refine k_PSNi hC LX4_54 ⟨Nat.le_of_ble_eq_true rfl, Nat.le_of_ble_eq_true rfl⟩ ⟨Nat.zero_le _, Nat.zero_le _⟩ (cS_hasBit l E v3 a1 _ rfl) rfl rfl (vP_nil) hl.1 rfl (Nat.le_of_ble_eq_true rfl) rfl dX4_gather_33 (fun hz33 => ?_)
          refine lv_iload_n hx hb dX4_gather_36 rfl (lv_at hl 2 rfl) ?_
          refine lv_icmp_ne (tgt := 72) hx hb dX4_gather_37 (by decide) (fun c4 => ?_) (fun c4 => ?_)
          · have hf := ite_f hf c4
            refine lv_iinc (v := (a5 + (1 : Int32))) (lv' := [(5, .int (a5 + (1 : Int32))), (0, .ref (ad 0)), (1, .int a1), (2, .int a2), (4, .int a4)]) hx hb dX4_gather_72 hl (k := 4) rfl rfl (by decide) rfl (fun ls hl => ?_)
            refine lv_goto (tgt := 6) hx hb dX4_gather_75 (by decide) ?_
            exact ih y0_4 a1 a2 a4 (a5 + (1 : Int32)) ls (lv_sub hl [1, 2, 3, 4, 0] rfl) _ _ hH hf
          · have hf := ite_t hf c4
            refine lv_iload hx hb dX4_gather_40 (lv_at hl 3 rfl) ?_
            refine lv_if_lt (tgt := 72) hx hb dX4_gather_42 (by decide) (fun c5 => ?_) (fun c5 => ?_)
            · have hf := ite_t hf c5
              refine lv_iinc (v := (a5 + (1 : Int32))) (lv' := [(5, .int (a5 + (1 : Int32))), (0, .ref (ad 0)), (1, .int a1), (2, .int a2), (4, .int a4)]) hx hb dX4_gather_72 hl (k := 4) rfl rfl (by decide) rfl (fun ls hl => ?_)
              refine lv_goto (tgt := 6) hx hb dX4_gather_75 (by decide) ?_
              exact ih y0_4 a1 a2 a4 (a5 + (1 : Int32)) ls (lv_sub hl [1, 2, 3, 4, 0] rfl) _ _ hH hf
            · have hf := ite_f hf c5
              refine lv_iload hx hb dX4_gather_45 (lv_at hl 3 rfl) ?_
              refine lv_aload_n hx hb dX4_gather_47 rfl (lv_at hl 0 rfl) ?_
              refine gX4_27 hC hH.1 0 rfl (v := .ref (ad 5)) rfl dX4_gather_48 ?_
              refine va_alen (v := 64) hx hb hK.1 hH.1 5 0 rfl rfl rfl dX4_gather_51 ?_
              refine lv_icmp_ge (tgt := 72) hx hb dX4_gather_52 (by decide) (fun c6 => ?_) (fun c6 => ?_)
              · have hf := ite_t hf c6
                refine lv_iinc (v := (a5 + (1 : Int32))) (lv' := [(5, .int (a5 + (1 : Int32))), (0, .ref (ad 0)), (1, .int a1), (2, .int a2), (4, .int a4)]) hx hb dX4_gather_72 hl (k := 4) rfl rfl (by decide) rfl (fun ls hl => ?_)
                refine lv_goto (tgt := 6) hx hb dX4_gather_75 (by decide) ?_
                exact ih y0_4 a1 a2 a4 (a5 + (1 : Int32)) ls (lv_sub hl [1, 2, 3, 4, 0] rfl) _ _ hH hf
              · have hf := ite_f hf c6
                refine lv_aload_n hx hb dX4_gather_55 rfl (lv_at hl 0 rfl) ?_
                refine gX4_27 hC hH.1 0 rfl (v := .ref (ad 5)) rfl dX4_gather_56 ?_
                refine lv_iload hx hb dX4_gather_59 (lv_at hl 3 rfl) ?_
                refine lv_aload_n hx hb dX4_gather_61 rfl (lv_at hl 0 rfl) ?_
                refine gX4_24 hC hH.1 0 rfl (v := .ref (ad 4)) rfl dX4_gather_62 ?_
                refine lv_iload hx hb dX4_gather_65 (lv_at hl 4 rfl) ?_
                obtain ⟨v7, hv7, hf⟩ := ob hf
                obtain ⟨hv7a, hv7b⟩ := ldA_ok hv7
                refine a_ild hC hH.1 4 rfl hv7a hv7b dX4_gather_67 ?_
                obtain ⟨g8, hg8, hf⟩ := ob hf
                obtain ⟨hg8a, hg8b⟩ := stA_ok hg8
                refine a_ist hC hH 5 rfl hg8a hg8b (W1 := wR E ad q0_wholes q0_onesAtBlocks q0_zeros q0_order g8 q0_size) rfl dX4_gather_68 (fun H locs hH => ?_)
                refine lv_iinc (v := (a4 + (1 : Int32))) (lv' := [(4, .int (a4 + (1 : Int32))), (0, .ref (ad 0)), (1, .int a1), (2, .int a2), (5, .int a5)]) hx hb dX4_gather_69 hl (k := 3) rfl rfl (by decide) rfl (fun ls hl => ?_)
                refine lv_iinc (v := (a5 + (1 : Int32))) (lv' := [(5, .int (a5 + (1 : Int32))), (4, .int (a4 + (1 : Int32))), (0, .ref (ad 0)), (1, .int a1), (2, .int a2)]) hx hb dX4_gather_72 hl (k := 4) rfl rfl (by decide) rfl (fun ls hl => ?_)
                refine lv_goto (tgt := 6) hx hb dX4_gather_75 (by decide) ?_
                exact ih g8 a1 a2 (a4 + (1 : Int32)) (a5 + (1 : Int32)) ls (lv_sub hl [2, 3, 4, 1, 0] rfl) _ _ hH hf
  intro H locs hH
  rw [fR_gather] at hf
  refine lv_iload_n hx hb dX4_gather_0 rfl (lv_at hl 3 rfl) ?_
  refine lv_istore (lv' := [(4, .int a3), (0, .ref (ad 0)), (1, .int a1), (2, .int a2), (3, .int a3)]) hx hb dX4_gather_1 hl (by decide) rfl (fun ls hl => ?_)
  refine lv_iconst (v := 0) hx hb dX4_gather_3 (by decide) ?_
  refine lv_istore (lv' := [(5, .int (0 : Int32)), (4, .int a3), (0, .ref (ad 0)), (1, .int a1), (2, .int a2), (3, .int a3)]) hx hb dX4_gather_4 hl (by decide) rfl (fun ls hl => ?_)
  exact L6 FU q0_nextOrder a1 a2 a3 (0 : Int32) ls (lv_sub hl [2, 3, 4, 1, 0] rfl) _ _ hH hf
abbrev rmR_sortByBit : Room := { frames := 2, cells := 0, slots := 0, locals := 46 }
set_option maxHeartbeats 4000000 in
set_option maxRecDepth 100000 in
theorem cR_sortByBit (l : Launch) (E : eE) (ad : Nat → Nat) (q0_wholes : (Nat → Int64)) (q0_onesAtBlocks : (Nat → Nat → Int32)) (q0_zeros : (Nat → Int32)) (q0_order : (Nat → Int32)) (q0_nextOrder : (Nat → Int32)) (q0_size : Int32) (a1 : Int32) (t : (Nat → Int32) × (Nat → Int32)) (hf : fR_sortByBit q0_order q0_nextOrder q0_size a1 = some t) : cW l E yX4_sortByBit cX4_sortByBit 4 none rmR_sortByBit [.ref (ad 0), .int a1] (wR E ad q0_wholes q0_onesAtBlocks q0_zeros q0_order q0_nextOrder q0_size) none (wR E ad q0_wholes q0_onesAtBlocks q0_zeros t.1 t.2 q0_size) := by
  refine Met.ofW (cc := cX4_sortByBit) (maxL := 4) (ret := none) (by decide) rfl ?_
  intro p e s m args below meth c s₁ B hml hv
  obtain ⟨hargs, hP, hK, hD0⟩ := hv
  have hx := B.exec
  have hb := B.bytes
  have hr := B.returns
  have hts := atoms_spec (ws := ws_ yX4_sortByBit cX4_sortByBit 4 none) B.pre
  have hta : ∀ w ∈ lw_all, w.before args s = true := fun w h => hts w (List.mem_cons_of_mem _ h)
  have hown : s.vm.findClass RX4 = some m.cls := findClass_of_methodNamed B.named
  have hlocks := B.notSynchronized
  have hC : Cx p s m args c cX4_sortByBit 4 RX4 E := ⟨hx, hb, hml, hown, hta, hK⟩
  have hH : Hp E (adr (wR E ad q0_wholes q0_onesAtBlocks q0_zeros q0_order q0_nextOrder q0_size)) (wR E ad q0_wholes q0_onesAtBlocks q0_zeros q0_order q0_nextOrder q0_size) s.heap s.heap [] := Hp.start hP hD0
  obtain ⟨ls, he, hl⟩ := entry_ (m := m) (n := 4) hargs (Nat.le_of_ble_eq_true rfl)
  rw [he]
  have hl : lv_has ls 4 [(0, .ref (ad 0)), (1, .int a1)] := hl
  show W p l e rmR_sortByBit s m args below meth c s.heap [] 0 0 (MQ below (qW E none none (wR E ad q0_wholes q0_onesAtBlocks q0_zeros q0_order q0_nextOrder q0_size) (wR E ad q0_wholes q0_onesAtBlocks q0_zeros t.1 t.2 q0_size)) args s 0 0 (adr (wR E ad q0_wholes q0_onesAtBlocks q0_zeros q0_order q0_nextOrder q0_size))) (F0 m 0 ls [])
  suffices hmain : ∀ (H : Heap) (locs : List Loc), Hp E (adr (wR E ad q0_wholes q0_onesAtBlocks q0_zeros q0_order q0_nextOrder q0_size)) (wR E ad q0_wholes q0_onesAtBlocks q0_zeros q0_order q0_nextOrder q0_size) s.heap H locs → W p l e rmR_sortByBit s m args below meth c H locs 0 0 (MQ below (qW E none none (wR E ad q0_wholes q0_onesAtBlocks q0_zeros q0_order q0_nextOrder q0_size) (wR E ad q0_wholes q0_onesAtBlocks q0_zeros t.1 t.2 q0_size)) args s 0 0 (adr (wR E ad q0_wholes q0_onesAtBlocks q0_zeros q0_order q0_nextOrder q0_size))) (F0 m 0 ls []) from hmain _ _ hH
  clear hH
  have L18 : ∀ (n : Nat) (y0_3 : (Nat → Int32)) (y0_4 : (Nat → Int32)) (a3 : Int32) (ls : Array Slot), lv_has ls 4 [(0, .ref (ad 0)), (3, .int a3)] → ∀ (H : Heap) (locs : List Loc), Hp E (adr (wR E ad q0_wholes q0_onesAtBlocks q0_zeros q0_order q0_nextOrder q0_size)) (wR E ad q0_wholes q0_onesAtBlocks q0_zeros y0_3 y0_4 q0_size) s.heap H locs → fR_sortByBit_18 n y0_3 y0_4 q0_size a3 = some t → W p l e rmR_sortByBit s m args below meth c H locs 0 0 (MQ below (qW E none none (wR E ad q0_wholes q0_onesAtBlocks q0_zeros q0_order q0_nextOrder q0_size) (wR E ad q0_wholes q0_onesAtBlocks q0_zeros t.1 t.2 q0_size)) args s 0 0 (adr (wR E ad q0_wholes q0_onesAtBlocks q0_zeros q0_order q0_nextOrder q0_size))) (F0 m 18 ls []) := by
    intro n
    induction n with
    | zero => intro y0_3 y0_4 a3 ls hl H locs hH hf; cases hf
    | succ n ih =>
      intro y0_3 y0_4 a3 ls hl H locs hH hf
      rw [fR_sortByBit_18] at hf
      refine lv_iload_n hx hb dX4_sortByBit_18 rfl (lv_at hl 1 rfl) ?_
      refine lv_aload_n hx hb dX4_sortByBit_19 rfl (lv_at hl 0 rfl) ?_
      refine gX4_36 hC hH.1 0 rfl (v := .int q0_size) rfl dX4_sortByBit_20 ?_
      refine lv_icmp_ge (tgt := 62) hx hb dX4_sortByBit_23 (by decide) (fun c3 => ?_) (fun c3 => ?_)
      · have hf := ite_t hf c3
        have hf := Option.some.inj hf
        subst hf
        exact e_Wv hC hH hr hlocks rfl dX4_sortByBit_62
      · have hf := ite_f hf c3
        refine lv_iload_n hx hb dX4_sortByBit_26 rfl (lv_at hl 1 rfl) ?_
        refine lv_aload_n hx hb dX4_sortByBit_27 rfl (lv_at hl 0 rfl) ?_
        refine gX4_24 hC hH.1 0 rfl (v := .ref (ad 4)) rfl dX4_sortByBit_28 ?_
        refine va_alen (v := 64) hx hb hK.1 hH.1 4 0 rfl rfl rfl dX4_sortByBit_31 ?_
        refine lv_icmp_ge (tgt := 62) hx hb dX4_sortByBit_32 (by decide) (fun c4 => ?_) (fun c4 => ?_)
        · have hf := ite_t hf c4
          have hf := Option.some.inj hf
          subst hf
          exact e_Wv hC hH hr hlocks rfl dX4_sortByBit_62
        · have hf := ite_f hf c4
          refine lv_iload_n hx hb dX4_sortByBit_35 rfl (lv_at hl 1 rfl) ?_
          refine lv_aload_n hx hb dX4_sortByBit_36 rfl (lv_at hl 0 rfl) ?_
          refine gX4_27 hC hH.1 0 rfl (v := .ref (ad 5)) rfl dX4_sortByBit_37 ?_
          refine va_alen (v := 64) hx hb hK.1 hH.1 5 0 rfl rfl rfl dX4_sortByBit_40 ?_
          refine lv_icmp_ge (tgt := 62) hx hb dX4_sortByBit_41 (by decide) (fun c5 => ?_) (fun c5 => ?_)
          · have hf := ite_t hf c5
            have hf := Option.some.inj hf
            subst hf
            exact e_Wv hC hH hr hlocks rfl dX4_sortByBit_62
          · have hf := ite_f hf c5
            refine lv_aload_n hx hb dX4_sortByBit_44 rfl (lv_at hl 0 rfl) ?_
            refine gX4_24 hC hH.1 0 rfl (v := .ref (ad 4)) rfl dX4_sortByBit_45 ?_
            refine lv_iload_n hx hb dX4_sortByBit_48 rfl (lv_at hl 1 rfl) ?_
            refine lv_aload_n hx hb dX4_sortByBit_49 rfl (lv_at hl 0 rfl) ?_
            refine gX4_27 hC hH.1 0 rfl (v := .ref (ad 5)) rfl dX4_sortByBit_50 ?_
            refine lv_iload_n hx hb dX4_sortByBit_53 rfl (lv_at hl 1 rfl) ?_
            obtain ⟨v6, hv6, hf⟩ := ob hf
            obtain ⟨hv6a, hv6b⟩ := ldA_ok hv6
            refine a_ild hC hH.1 5 rfl hv6a hv6b dX4_sortByBit_54 ?_
            obtain ⟨g7, hg7, hf⟩ := ob hf
            obtain ⟨hg7a, hg7b⟩ := stA_ok hg7
            refine a_ist hC hH 4 rfl hg7a hg7b (W1 := wR E ad q0_wholes q0_onesAtBlocks q0_zeros g7 y0_4 q0_size) rfl dX4_sortByBit_55 (fun H locs hH => ?_)
            refine lv_iinc (v := (a3 + (1 : Int32))) (lv' := [(3, .int (a3 + (1 : Int32))), (0, .ref (ad 0))]) hx hb dX4_sortByBit_56 hl (k := 1) rfl rfl (by decide) rfl (fun ls hl => ?_)
            refine lv_goto (tgt := 18) hx hb dX4_sortByBit_59 (by decide) ?_
            exact ih g7 y0_4 (a3 + (1 : Int32)) ls (lv_sub hl [1, 0] rfl) _ _ hH hf
  intro H locs hH
  rw [fR_sortByBit] at hf
  refine lv_aload_n hx hb dX4_sortByBit_0 rfl (lv_at hl 0 rfl) ?_
  refine lv_iload_n hx hb dX4_sortByBit_1 rfl (lv_at hl 1 rfl) ?_
  refine lv_iconst (v := 0) hx hb dX4_sortByBit_2 (by decide) ?_
  refine lv_iconst (v := 0) hx hb dX4_sortByBit_3 (by decide) ?_
  obtain ⟨t1, ht1, hf⟩ := ob hf
  refine k_WVsi hC LX4_58 ⟨Nat.le_of_ble_eq_true rfl, Nat.le_of_ble_eq_true rfl⟩ ⟨Nat.zero_le _, Nat.zero_le _⟩ (cR_gather l E ad q0_wholes q0_onesAtBlocks q0_zeros q0_order q0_nextOrder q0_size a1 (0 : Int32) (0 : Int32) t1 ht1) rfl rfl hH rfl rfl rfl hl.1 rfl (Nat.le_of_ble_eq_true rfl) rfl dX4_sortByBit_4 (fun H locs hz4 hH => ?_)
  have hH : Hp E (adr (wR E ad q0_wholes q0_onesAtBlocks q0_zeros q0_order q0_nextOrder q0_size)) (wR E ad q0_wholes q0_onesAtBlocks q0_zeros q0_order t1.2 q0_size) s.heap H locs := hH
  refine lv_istore_n (lv' := [(2, .int t1.1), (0, .ref (ad 0)), (1, .int a1)]) hx hb dX4_sortByBit_7 rfl hl (by decide) rfl (fun ls hl => ?_)
  refine lv_aload_n hx hb dX4_sortByBit_8 rfl (lv_at hl 1 rfl) ?_
  refine lv_iload_n hx hb dX4_sortByBit_9 rfl (lv_at hl 2 rfl) ?_
  refine lv_iconst (v := 1) hx hb dX4_sortByBit_10 (by decide) ?_
  refine lv_iload_n hx hb dX4_sortByBit_11 rfl (lv_at hl 0 rfl) ?_
  obtain ⟨t2, ht2, hf⟩ := ob hf
  refine k_WVsi hC LX4_58 ⟨Nat.le_of_ble_eq_true rfl, Nat.le_of_ble_eq_true rfl⟩ ⟨Nat.zero_le _, Nat.zero_le _⟩ (cR_gather l E ad q0_wholes q0_onesAtBlocks q0_zeros q0_order t1.2 q0_size a1 (1 : Int32) t1.1 t2 ht2) rfl rfl hH rfl rfl rfl hl.1 rfl (Nat.le_of_ble_eq_true rfl) rfl dX4_sortByBit_12 (fun H locs hz12 hH => ?_)
  have hH : Hp E (adr (wR E ad q0_wholes q0_onesAtBlocks q0_zeros q0_order q0_nextOrder q0_size)) (wR E ad q0_wholes q0_onesAtBlocks q0_zeros q0_order t2.2 q0_size) s.heap H locs := hH
  refine lv_pop hx hb dX4_sortByBit_15 rfl ?_
  refine lv_iconst (v := 0) hx hb dX4_sortByBit_16 (by decide) ?_
  refine lv_istore_n (lv' := [(3, .int (0 : Int32)), (2, .int t1.1), (0, .ref (ad 0)), (1, .int a1)]) hx hb dX4_sortByBit_17 rfl hl (by decide) rfl (fun ls hl => ?_)
  exact L18 FU q0_order t2.2 (0 : Int32) ls (lv_sub hl [2, 0] rfl) _ _ hH hf
abbrev rmR_fill : Room := { frames := 3, cells := 0, slots := 0, locals := 69 }
set_option maxHeartbeats 4000000 in
set_option maxRecDepth 100000 in
theorem cR_fill (l : Launch) (E : eE) (ad : Nat → Nat) (q0_wholes : (Nat → Int64)) (q0_onesAtBlocks : (Nat → Nat → Int32)) (q0_zeros : (Nat → Int32)) (q0_order : (Nat → Int32)) (q0_nextOrder : (Nat → Int32)) (q0_size : Int32) (ad2 : Nat → Nat) (q1_weights : (Nat → Int32)) (q1_size : Int32) (q1_marks : Int64) (q1_came : Int32) (q1_left : Int32) (q1_swaps : Int32) (t : (Nat → Int64) × (Nat → Nat → Int32) × (Nat → Int32) × (Nat → Int32) × (Nat → Int32) × Int32) (hf : fR_fill q0_wholes q0_onesAtBlocks q0_zeros q0_order q0_nextOrder q0_size q1_weights q1_size = some t) : cW l E yX4_fill cX4_fill 3 none rmR_fill [.ref (ad 0), .ref (ad2 0)] (wR E ad q0_wholes q0_onesAtBlocks q0_zeros q0_order q0_nextOrder q0_size ++ wL E ad2 q1_weights q1_size q1_marks q1_came q1_left q1_swaps) none (wR E ad t.1 t.2.1 t.2.2.1 t.2.2.2.1 t.2.2.2.2.1 t.2.2.2.2.2 ++ wL E ad2 q1_weights q1_size q1_marks q1_came q1_left q1_swaps) := by
  refine Met.ofW (cc := cX4_fill) (maxL := 3) (ret := none) (by decide) rfl ?_
  intro p e s m args below meth c s₁ B hml hv
  obtain ⟨hargs, hP, hK, hD0⟩ := hv
  have hx := B.exec
  have hb := B.bytes
  have hr := B.returns
  have hts := atoms_spec (ws := ws_ yX4_fill cX4_fill 3 none) B.pre
  have hta : ∀ w ∈ lw_all, w.before args s = true := fun w h => hts w (List.mem_cons_of_mem _ h)
  have hown : s.vm.findClass RX4 = some m.cls := findClass_of_methodNamed B.named
  have hlocks := B.notSynchronized
  have hC : Cx p s m args c cX4_fill 3 RX4 E := ⟨hx, hb, hml, hown, hta, hK⟩
  have hH : Hp E (adr (wR E ad q0_wholes q0_onesAtBlocks q0_zeros q0_order q0_nextOrder q0_size ++ wL E ad2 q1_weights q1_size q1_marks q1_came q1_left q1_swaps)) (wR E ad q0_wholes q0_onesAtBlocks q0_zeros q0_order q0_nextOrder q0_size ++ wL E ad2 q1_weights q1_size q1_marks q1_came q1_left q1_swaps) s.heap s.heap [] := Hp.start hP hD0
  obtain ⟨ls, he, hl⟩ := entry_ (m := m) (n := 3) hargs (Nat.le_of_ble_eq_true rfl)
  rw [he]
  have hl : lv_has ls 3 [(0, .ref (ad 0)), (1, .ref (ad2 0))] := hl
  show W p l e rmR_fill s m args below meth c s.heap [] 0 0 (MQ below (qW E none none (wR E ad q0_wholes q0_onesAtBlocks q0_zeros q0_order q0_nextOrder q0_size ++ wL E ad2 q1_weights q1_size q1_marks q1_came q1_left q1_swaps) (wR E ad t.1 t.2.1 t.2.2.1 t.2.2.2.1 t.2.2.2.2.1 t.2.2.2.2.2 ++ wL E ad2 q1_weights q1_size q1_marks q1_came q1_left q1_swaps)) args s 0 0 (adr (wR E ad q0_wholes q0_onesAtBlocks q0_zeros q0_order q0_nextOrder q0_size ++ wL E ad2 q1_weights q1_size q1_marks q1_came q1_left q1_swaps))) (F0 m 0 ls [])
  suffices hmain : ∀ (H : Heap) (locs : List Loc), Hp E (adr (wR E ad q0_wholes q0_onesAtBlocks q0_zeros q0_order q0_nextOrder q0_size ++ wL E ad2 q1_weights q1_size q1_marks q1_came q1_left q1_swaps)) (wR E ad q0_wholes q0_onesAtBlocks q0_zeros q0_order q0_nextOrder q0_size ++ wL E ad2 q1_weights q1_size q1_marks q1_came q1_left q1_swaps) s.heap H locs → W p l e rmR_fill s m args below meth c H locs 0 0 (MQ below (qW E none none (wR E ad q0_wholes q0_onesAtBlocks q0_zeros q0_order q0_nextOrder q0_size ++ wL E ad2 q1_weights q1_size q1_marks q1_came q1_left q1_swaps) (wR E ad t.1 t.2.1 t.2.2.1 t.2.2.2.1 t.2.2.2.2.1 t.2.2.2.2.2 ++ wL E ad2 q1_weights q1_size q1_marks q1_came q1_left q1_swaps)) args s 0 0 (adr (wR E ad q0_wholes q0_onesAtBlocks q0_zeros q0_order q0_nextOrder q0_size ++ wL E ad2 q1_weights q1_size q1_marks q1_came q1_left q1_swaps))) (F0 m 0 ls []) from hmain _ _ hH
  clear hH
  have L46 : ∀ (n : Nat) (y0_0 : (Nat → Int64)) (y0_1 : (Nat → Nat → Int32)) (y0_2 : (Nat → Int32)) (y0_3 : (Nat → Int32)) (y0_4 : (Nat → Int32)) (y0_5 : Int32) (a2 : Int32) (ls : Array Slot), lv_has ls 3 [(0, .ref (ad 0)), (2, .int a2)] → ∀ (H : Heap) (locs : List Loc), Hp E (adr (wR E ad q0_wholes q0_onesAtBlocks q0_zeros q0_order q0_nextOrder q0_size ++ wL E ad2 q1_weights q1_size q1_marks q1_came q1_left q1_swaps)) (wR E ad y0_0 y0_1 y0_2 y0_3 y0_4 y0_5 ++ wL E ad2 q1_weights q1_size q1_marks q1_came q1_left q1_swaps) s.heap H locs → fR_fill_46 n y0_0 y0_1 y0_2 y0_3 y0_4 y0_5 q1_weights q1_size a2 = some t → W p l e rmR_fill s m args below meth c H locs 0 0 (MQ below (qW E none none (wR E ad q0_wholes q0_onesAtBlocks q0_zeros q0_order q0_nextOrder q0_size ++ wL E ad2 q1_weights q1_size q1_marks q1_came q1_left q1_swaps) (wR E ad t.1 t.2.1 t.2.2.1 t.2.2.2.1 t.2.2.2.2.1 t.2.2.2.2.2 ++ wL E ad2 q1_weights q1_size q1_marks q1_came q1_left q1_swaps)) args s 0 0 (adr (wR E ad q0_wholes q0_onesAtBlocks q0_zeros q0_order q0_nextOrder q0_size ++ wL E ad2 q1_weights q1_size q1_marks q1_came q1_left q1_swaps))) (F0 m 46 ls []) := by
    intro n
    induction n with
    | zero => intro y0_0 y0_1 y0_2 y0_3 y0_4 y0_5 a2 ls hl H locs hH hf; cases hf
    | succ n ih =>
      intro y0_0 y0_1 y0_2 y0_3 y0_4 y0_5 a2 ls hl H locs hH hf
      rw [fR_fill_46] at hf
      refine lv_iload_n hx hb dX4_fill_46 rfl (lv_at hl 1 rfl) ?_
      refine lv_iconst (v := 5) hx hb dX4_fill_47 (by decide) ?_
      refine lv_icmp_ge (tgt := 67) hx hb dX4_fill_48 (by decide) (fun c2 => ?_) (fun c2 => ?_)
      · have hf := ite_t hf c2
        have hf := Option.some.inj hf
        subst hf
        exact e_Wv hC hH hr hlocks rfl dX4_fill_67
      · have hf := ite_f hf c2
        refine lv_aload_n hx hb dX4_fill_51 rfl (lv_at hl 0 rfl) ?_
        refine lv_iload_n hx hb dX4_fill_52 rfl (lv_at hl 1 rfl) ?_
        obtain ⟨t3, ht3, hf⟩ := ob hf
        refine k_WVv hC LX4_43 ⟨Nat.le_of_ble_eq_true rfl, Nat.le_of_ble_eq_true rfl⟩ ⟨Nat.zero_le _, Nat.zero_le _⟩ (cR_fillRow l E ad y0_0 y0_1 y0_2 y0_3 y0_4 y0_5 a2 t3 ht3) rfl rfl hH [0, 1, 2, 3, 4, 5, 6, 7, 8, 9, 10] rfl rfl rfl (W1 := wR E ad t3.1 t3.2.1 t3.2.2 y0_3 y0_4 y0_5 ++ wL E ad2 q1_weights q1_size q1_marks q1_came q1_left q1_swaps) rfl rfl rfl hl.1 rfl (Nat.le_of_ble_eq_true rfl) rfl dX4_fill_53 (fun H locs hz53 hH => ?_)
        refine lv_aload_n hx hb dX4_fill_56 rfl (lv_at hl 0 rfl) ?_
        refine lv_iload_n hx hb dX4_fill_57 rfl (lv_at hl 1 rfl) ?_
        obtain ⟨t4, ht4, hf⟩ := ob hf
        refine k_WVv hC LX4_47 ⟨Nat.le_of_ble_eq_true rfl, Nat.le_of_ble_eq_true rfl⟩ ⟨Nat.zero_le _, Nat.zero_le _⟩ (cR_sortByBit l E ad t3.1 t3.2.1 t3.2.2 y0_3 y0_4 y0_5 a2 t4 ht4) rfl rfl hH [0, 1, 2, 3, 4, 5, 6, 7, 8, 9, 10] rfl rfl rfl (W1 := wR E ad t3.1 t3.2.1 t3.2.2 t4.1 t4.2 y0_5 ++ wL E ad2 q1_weights q1_size q1_marks q1_came q1_left q1_swaps) rfl rfl rfl hl.1 rfl (Nat.le_of_ble_eq_true rfl) rfl dX4_fill_58 (fun H locs hz58 hH => ?_)
        refine lv_iinc (v := (a2 + (1 : Int32))) (lv' := [(2, .int (a2 + (1 : Int32))), (0, .ref (ad 0))]) hx hb dX4_fill_61 hl (k := 1) rfl rfl (by decide) rfl (fun ls hl => ?_)
        refine lv_goto (tgt := 46) hx hb dX4_fill_64 (by decide) ?_
        exact ih t3.1 t3.2.1 t3.2.2 t4.1 t4.2 y0_5 (a2 + (1 : Int32)) ls (lv_sub hl [1, 0] rfl) _ _ hH hf
  have L10 : ∀ (n : Nat) (y0_0 : (Nat → Int64)) (y0_1 : (Nat → Nat → Int32)) (y0_2 : (Nat → Int32)) (y0_3 : (Nat → Int32)) (y0_4 : (Nat → Int32)) (y0_5 : Int32) (a2 : Int32) (ls : Array Slot), lv_has ls 3 [(0, .ref (ad 0)), (1, .ref (ad2 0)), (2, .int a2)] → ∀ (H : Heap) (locs : List Loc), Hp E (adr (wR E ad q0_wholes q0_onesAtBlocks q0_zeros q0_order q0_nextOrder q0_size ++ wL E ad2 q1_weights q1_size q1_marks q1_came q1_left q1_swaps)) (wR E ad y0_0 y0_1 y0_2 y0_3 y0_4 y0_5 ++ wL E ad2 q1_weights q1_size q1_marks q1_came q1_left q1_swaps) s.heap H locs → fR_fill_10 n y0_0 y0_1 y0_2 y0_3 y0_4 y0_5 q1_weights q1_size a2 = some t → W p l e rmR_fill s m args below meth c H locs 0 0 (MQ below (qW E none none (wR E ad q0_wholes q0_onesAtBlocks q0_zeros q0_order q0_nextOrder q0_size ++ wL E ad2 q1_weights q1_size q1_marks q1_came q1_left q1_swaps) (wR E ad t.1 t.2.1 t.2.2.1 t.2.2.2.1 t.2.2.2.2.1 t.2.2.2.2.2 ++ wL E ad2 q1_weights q1_size q1_marks q1_came q1_left q1_swaps)) args s 0 0 (adr (wR E ad q0_wholes q0_onesAtBlocks q0_zeros q0_order q0_nextOrder q0_size ++ wL E ad2 q1_weights q1_size q1_marks q1_came q1_left q1_swaps))) (F0 m 10 ls []) := by
    intro n
    induction n with
    | zero => intro y0_0 y0_1 y0_2 y0_3 y0_4 y0_5 a2 ls hl H locs hH hf; cases hf
    | succ n ih =>
      intro y0_0 y0_1 y0_2 y0_3 y0_4 y0_5 a2 ls hl H locs hH hf
      rw [fR_fill_10] at hf
      refine lv_iload_n hx hb dX4_fill_10 rfl (lv_at hl 2 rfl) ?_
      refine lv_aload_n hx hb dX4_fill_11 rfl (lv_at hl 0 rfl) ?_
      refine gX4_36 hC hH.1 0 rfl (v := .int y0_5) rfl dX4_fill_12 ?_
      refine lv_icmp_ge (tgt := 44) hx hb dX4_fill_15 (by decide) (fun c1 => ?_) (fun c1 => ?_)
      · have hf := ite_t hf c1
        refine lv_iconst (v := 0) hx hb dX4_fill_44 (by decide) ?_
        refine lv_istore_n (lv' := [(2, .int (0 : Int32)), (0, .ref (ad 0)), (1, .ref (ad2 0))]) hx hb dX4_fill_45 rfl hl (by decide) rfl (fun ls hl => ?_)
        exact L46 FU y0_0 y0_1 y0_2 y0_3 y0_4 y0_5 (0 : Int32) ls (lv_sub hl [1, 0] rfl) _ _ hH hf
      · have hf := ite_f hf c1
        refine lv_iload_n hx hb dX4_fill_18 rfl (lv_at hl 2 rfl) ?_
        refine lv_aload_n hx hb dX4_fill_19 rfl (lv_at hl 0 rfl) ?_
        refine gX4_24 hC hH.1 0 rfl (v := .ref (ad 4)) rfl dX4_fill_20 ?_
        refine va_alen (v := 64) hx hb hK.1 hH.1 4 0 rfl rfl rfl dX4_fill_23 ?_
        refine lv_icmp_ge (tgt := 44) hx hb dX4_fill_24 (by decide) (fun c5 => ?_) (fun c5 => ?_)
        · have hf := ite_t hf c5
          refine lv_iconst (v := 0) hx hb dX4_fill_44 (by decide) ?_
          refine lv_istore_n (lv' := [(2, .int (0 : Int32)), (0, .ref (ad 0)), (1, .ref (ad2 0))]) hx hb dX4_fill_45 rfl hl (by decide) rfl (fun ls hl => ?_)
          exact L46 FU y0_0 y0_1 y0_2 y0_3 y0_4 y0_5 (0 : Int32) ls (lv_sub hl [1, 0] rfl) _ _ hH hf
        · have hf := ite_f hf c5
          refine lv_aload_n hx hb dX4_fill_27 rfl (lv_at hl 0 rfl) ?_
          refine gX4_24 hC hH.1 0 rfl (v := .ref (ad 4)) rfl dX4_fill_28 ?_
          refine lv_iload_n hx hb dX4_fill_31 rfl (lv_at hl 2 rfl) ?_
          refine lv_aload_n hx hb dX4_fill_32 rfl (lv_at hl 1 rfl) ?_
          refine lv_iload_n hx hb dX4_fill_33 rfl (lv_at hl 2 rfl) ?_
          obtain ⟨t6, ht6, hf⟩ := ob hf
          refine k_PVi hC LX4_39 ⟨Nat.le_of_ble_eq_true rfl, Nat.le_of_ble_eq_true rfl⟩ ⟨Nat.zero_le _, Nat.zero_le _⟩ (cL_at l E ad2 q1_weights q1_size q1_marks q1_came q1_left q1_swaps a2 t6 ht6) rfl rfl (hH.1.sub (ws' := wL E ad2 q1_weights q1_size q1_marks q1_came q1_left q1_swaps) [11, 12] rfl) rfl rfl hl.1 rfl (Nat.le_of_ble_eq_true rfl) rfl dX4_fill_34 (fun hz34 => ?_)
          obtain ⟨g7, hg7, hf⟩ := ob hf
          obtain ⟨hg7a, hg7b⟩ := stA_ok hg7
          refine a_ist hC hH 4 rfl hg7a hg7b (W1 := wR E ad y0_0 y0_1 y0_2 g7 y0_4 y0_5 ++ wL E ad2 q1_weights q1_size q1_marks q1_came q1_left q1_swaps) rfl dX4_fill_37 (fun H locs hH => ?_)
          refine lv_iinc (v := (a2 + (1 : Int32))) (lv' := [(2, .int (a2 + (1 : Int32))), (0, .ref (ad 0)), (1, .ref (ad2 0))]) hx hb dX4_fill_38 hl (k := 2) rfl rfl (by decide) rfl (fun ls hl => ?_)
          refine lv_goto (tgt := 10) hx hb dX4_fill_41 (by decide) ?_
          exact ih y0_0 y0_1 y0_2 g7 y0_4 y0_5 (a2 + (1 : Int32)) ls (lv_sub hl [1, 2, 0] rfl) _ _ hH hf
  intro H locs hH
  rw [fR_fill] at hf
  refine lv_aload_n hx hb dX4_fill_0 rfl (lv_at hl 0 rfl) ?_
  refine lv_aload_n hx hb dX4_fill_1 rfl (lv_at hl 1 rfl) ?_
  refine k_PVi hC LX4_30 ⟨Nat.le_of_ble_eq_true rfl, Nat.le_of_ble_eq_true rfl⟩ ⟨Nat.zero_le _, Nat.zero_le _⟩ (cL_size l E ad2 q1_weights q1_size q1_marks q1_came q1_left q1_swaps _ rfl) rfl rfl (hH.1.sub (ws' := wL E ad2 q1_weights q1_size q1_marks q1_came q1_left q1_swaps) [11, 12] rfl) rfl rfl hl.1 rfl (Nat.le_of_ble_eq_true rfl) rfl dX4_fill_2 (fun hz2 => ?_)
  refine pX4_36 hC hH 0 rfl (v := .int (fL_size q1_size)) rfl rfl (Nat.le_of_ble_eq_true rfl) (W1 := wR E ad q0_wholes q0_onesAtBlocks q0_zeros q0_order q0_nextOrder (fL_size q1_size) ++ wL E ad2 q1_weights q1_size q1_marks q1_came q1_left q1_swaps) rfl dX4_fill_5 (fun H locs hH => ?_)
  refine lv_iconst (v := 0) hx hb dX4_fill_8 (by decide) ?_
  refine lv_istore_n (lv' := [(2, .int (0 : Int32)), (0, .ref (ad 0)), (1, .ref (ad2 0))]) hx hb dX4_fill_9 rfl hl (by decide) rfl (fun ls hl => ?_)
  exact L10 FU q0_wholes q0_onesAtBlocks q0_zeros q0_order q0_nextOrder (fL_size q1_size) (0 : Int32) ls (lv_sub hl [1, 2, 0] rfl) _ _ hH hf
abbrev rmR_wholeRow : Room := { frames := 1, cells := 0, slots := 0, locals := 20 }
set_option maxHeartbeats 4000000 in
set_option maxRecDepth 100000 in
theorem cR_wholeRow (l : Launch) (E : eE) (ad : Nat → Nat) (q0_wholes : (Nat → Int64)) (q0_onesAtBlocks : (Nat → Nat → Int32)) (q0_zeros : (Nat → Int32)) (q0_order : (Nat → Int32)) (q0_nextOrder : (Nat → Int32)) (q0_size : Int32) (a1 : Int32) (r : Int64) (hf : fR_wholeRow q0_wholes a1 = some r) : cP l E yX4_wholeRow cX4_wholeRow 2 (some .long) rmR_wholeRow [.ref (ad 0), .int a1] (wR E ad q0_wholes q0_onesAtBlocks q0_zeros q0_order q0_nextOrder q0_size) (some (.long r)) := by
  refine Met.ofW (cc := cX4_wholeRow) (maxL := 2) (ret := (some .long)) (by decide) rfl ?_
  intro p e s m args below meth c s₁ B hml hv
  obtain ⟨hargs, hP, hK⟩ := hv
  have hx := B.exec
  have hb := B.bytes
  have hr := B.returns
  have hts := atoms_spec (ws := ws_ yX4_wholeRow cX4_wholeRow 2 (some .long)) B.pre
  have hta : ∀ w ∈ lw_all, w.before args s = true := fun w h => hts w (List.mem_cons_of_mem _ h)
  have hown : s.vm.findClass RX4 = some m.cls := findClass_of_methodNamed B.named
  have hlocks := B.notSynchronized
  have hC : Cx p s m args c cX4_wholeRow 2 RX4 E := ⟨hx, hb, hml, hown, hta, hK⟩
  obtain ⟨ls, he, hl⟩ := entry_ (m := m) (n := 2) hargs (Nat.le_of_ble_eq_true rfl)
  rw [he]
  have hl : lv_has ls 2 [(0, .ref (ad 0)), (1, .int a1)] := hl
  show W p l e rmR_wholeRow s m args below meth c s.heap [] 0 0 (MQ below (qP (some .long) (some (.long r))) args s 0 0 (fun _ => False)) (F0 m 0 ls [])
  rw [fR_wholeRow] at hf
  refine lv_iload_n hx hb dX4_wholeRow_0 rfl (lv_at hl 1 rfl) ?_
  refine k_PSNi hC LX4_50 ⟨Nat.le_of_ble_eq_true rfl, Nat.le_of_ble_eq_true rfl⟩ ⟨Nat.zero_le _, Nat.zero_le _⟩ (cS_isRow l E a1 _ rfl) rfl rfl (vP_nil) hl.1 rfl (Nat.le_of_ble_eq_true rfl) rfl dX4_wholeRow_1 (fun hz1 => ?_)
  refine lv_if_eq (tgt := 16) hx hb dX4_wholeRow_4 (by decide) (fun c1 => ?_) (fun c1 => ?_)
  · have hf := ite_t hf c1
    refine lv_lconst (v := 0) hx hb dX4_wholeRow_16 (by decide) ?_
    have hf := Option.some.inj hf
    exact e_Pl hC hr hlocks hf dX4_wholeRow_17
  · have hf := ite_f hf c1
    refine lv_aload_n hx hb dX4_wholeRow_7 rfl (lv_at hl 0 rfl) ?_
    refine gX4_9 hC hP 0 rfl (v := .ref (ad 1)) rfl dX4_wholeRow_8 ?_
    refine lv_iload_n hx hb dX4_wholeRow_11 rfl (lv_at hl 1 rfl) ?_
    obtain ⟨v2, hv2, hf⟩ := ob hf
    obtain ⟨hv2a, hv2b⟩ := ldA_ok hv2
    refine a_lld hC hP 1 rfl hv2a hv2b dX4_wholeRow_12 ?_
    refine lv_goto (tgt := 17) hx hb dX4_wholeRow_13 (by decide) ?_
    have hf := Option.some.inj hf
    exact e_Pl hC hr hlocks hf dX4_wholeRow_17
abbrev rmR_bitAt : Room := { frames := 1, cells := 0, slots := 0, locals := 20 }
set_option maxHeartbeats 4000000 in
set_option maxRecDepth 100000 in
theorem cR_bitAt (l : Launch) (E : eE) (ad : Nat → Nat) (q0_wholes : (Nat → Int64)) (q0_onesAtBlocks : (Nat → Nat → Int32)) (q0_zeros : (Nat → Int32)) (q0_order : (Nat → Int32)) (q0_nextOrder : (Nat → Int32)) (q0_size : Int32) (a1 : Int32) (a2 : Int32) (r : Int32) (hf : fR_bitAt q0_wholes q0_size a1 a2 = some r) : cP l E yX4_bitAt cX4_bitAt 3 (some .int) rmR_bitAt [.ref (ad 0), .int a1, .int a2] (wR E ad q0_wholes q0_onesAtBlocks q0_zeros q0_order q0_nextOrder q0_size) (some (.int r)) := by
  refine Met.ofW (cc := cX4_bitAt) (maxL := 3) (ret := (some .int)) (by decide) rfl ?_
  intro p e s m args below meth c s₁ B hml hv
  obtain ⟨hargs, hP, hK⟩ := hv
  have hx := B.exec
  have hb := B.bytes
  have hr := B.returns
  have hts := atoms_spec (ws := ws_ yX4_bitAt cX4_bitAt 3 (some .int)) B.pre
  have hta : ∀ w ∈ lw_all, w.before args s = true := fun w h => hts w (List.mem_cons_of_mem _ h)
  have hown : s.vm.findClass RX4 = some m.cls := findClass_of_methodNamed B.named
  have hlocks := B.notSynchronized
  have hC : Cx p s m args c cX4_bitAt 3 RX4 E := ⟨hx, hb, hml, hown, hta, hK⟩
  obtain ⟨ls, he, hl⟩ := entry_ (m := m) (n := 3) hargs (Nat.le_of_ble_eq_true rfl)
  rw [he]
  have hl : lv_has ls 3 [(0, .ref (ad 0)), (1, .int a1), (2, .int a2)] := hl
  show W p l e rmR_bitAt s m args below meth c s.heap [] 0 0 (MQ below (qP (some .int) (some (.int r))) args s 0 0 (fun _ => False)) (F0 m 0 ls [])
  rw [fR_bitAt] at hf
  refine lv_iload_n hx hb dX4_bitAt_0 rfl (lv_at hl 1 rfl) ?_
  refine k_PSNi hC LX4_50 ⟨Nat.le_of_ble_eq_true rfl, Nat.le_of_ble_eq_true rfl⟩ ⟨Nat.zero_le _, Nat.zero_le _⟩ (cS_isRow l E a1 _ rfl) rfl rfl (vP_nil) hl.1 rfl (Nat.le_of_ble_eq_true rfl) rfl dX4_bitAt_1 (fun hz1 => ?_)
  refine lv_if_eq (tgt := 33) hx hb dX4_bitAt_4 (by decide) (fun c1 => ?_) (fun c1 => ?_)
  · have hf := ite_t hf c1
    refine lv_iconst (v := 0) hx hb dX4_bitAt_33 (by decide) ?_
    have hf := Option.some.inj hf
    exact e_Pi hC hr hlocks hf dX4_bitAt_34
  · have hf := ite_f hf c1
    refine lv_iload_n hx hb dX4_bitAt_7 rfl (lv_at hl 2 rfl) ?_
    refine lv_if_lt (tgt := 33) hx hb dX4_bitAt_8 (by decide) (fun c2 => ?_) (fun c2 => ?_)
    · have hf := ite_t hf c2
      refine lv_iconst (v := 0) hx hb dX4_bitAt_33 (by decide) ?_
      have hf := Option.some.inj hf
      exact e_Pi hC hr hlocks hf dX4_bitAt_34
    · have hf := ite_f hf c2
      refine lv_iload_n hx hb dX4_bitAt_11 rfl (lv_at hl 2 rfl) ?_
      refine lv_aload_n hx hb dX4_bitAt_12 rfl (lv_at hl 0 rfl) ?_
      refine gX4_36 hC hP 0 rfl (v := .int q0_size) rfl dX4_bitAt_13 ?_
      refine lv_icmp_ge (tgt := 33) hx hb dX4_bitAt_16 (by decide) (fun c3 => ?_) (fun c3 => ?_)
      · have hf := ite_t hf c3
        refine lv_iconst (v := 0) hx hb dX4_bitAt_33 (by decide) ?_
        have hf := Option.some.inj hf
        exact e_Pi hC hr hlocks hf dX4_bitAt_34
      · have hf := ite_f hf c3
        refine lv_aload_n hx hb dX4_bitAt_19 rfl (lv_at hl 0 rfl) ?_
        refine gX4_9 hC hP 0 rfl (v := .ref (ad 1)) rfl dX4_bitAt_20 ?_
        refine lv_iload_n hx hb dX4_bitAt_23 rfl (lv_at hl 1 rfl) ?_
        obtain ⟨v4, hv4, hf⟩ := ob hf
        obtain ⟨hv4a, hv4b⟩ := ldA_ok hv4
        refine a_lld hC hP 1 rfl hv4a hv4b dX4_bitAt_24 ?_
        refine lv_iload_n hx hb dX4_bitAt_25 rfl (lv_at hl 2 rfl) ?_
        refine lv_lushr hx hb dX4_bitAt_26 rfl ?_
        refine lv_lconst (v := 1) hx hb dX4_bitAt_27 (by decide) ?_
        refine lv_land hx hb dX4_bitAt_28 ?_
        refine lv_l2i hx hb dX4_bitAt_29 rfl ?_
        refine lv_goto (tgt := 34) hx hb dX4_bitAt_30 (by decide) ?_
        have hf := Option.some.inj hf
        exact e_Pi hC hr hlocks hf dX4_bitAt_34
abbrev rmR_onesOf : Room := { frames := 2, cells := 0, slots := 0, locals := 41 }
set_option maxHeartbeats 4000000 in
set_option maxRecDepth 100000 in
theorem cR_onesOf (l : Launch) (E : eE) (ad : Nat → Nat) (q0_wholes : (Nat → Int64)) (q0_onesAtBlocks : (Nat → Nat → Int32)) (q0_zeros : (Nat → Int32)) (q0_order : (Nat → Int32)) (q0_nextOrder : (Nat → Int32)) (q0_size : Int32) (a1 : Int32) (r : Int32) (hf : fR_onesOf q0_wholes a1 = some r) : cP l E yX4_onesOf cX4_onesOf 2 (some .int) rmR_onesOf [.ref (ad 0), .int a1] (wR E ad q0_wholes q0_onesAtBlocks q0_zeros q0_order q0_nextOrder q0_size) (some (.int r)) := by
  refine Met.ofW (cc := cX4_onesOf) (maxL := 2) (ret := (some .int)) (by decide) rfl ?_
  intro p e s m args below meth c s₁ B hml hv
  obtain ⟨hargs, hP, hK⟩ := hv
  have hx := B.exec
  have hb := B.bytes
  have hr := B.returns
  have hts := atoms_spec (ws := ws_ yX4_onesOf cX4_onesOf 2 (some .int)) B.pre
  have hta : ∀ w ∈ lw_all, w.before args s = true := fun w h => hts w (List.mem_cons_of_mem _ h)
  have hown : s.vm.findClass RX4 = some m.cls := findClass_of_methodNamed B.named
  have hlocks := B.notSynchronized
  have hC : Cx p s m args c cX4_onesOf 2 RX4 E := ⟨hx, hb, hml, hown, hta, hK⟩
  obtain ⟨ls, he, hl⟩ := entry_ (m := m) (n := 2) hargs (Nat.le_of_ble_eq_true rfl)
  rw [he]
  have hl : lv_has ls 2 [(0, .ref (ad 0)), (1, .int a1)] := hl
  show W p l e rmR_onesOf s m args below meth c s.heap [] 0 0 (MQ below (qP (some .int) (some (.int r))) args s 0 0 (fun _ => False)) (F0 m 0 ls [])
  rw [fR_onesOf] at hf
  refine lv_aload_n hx hb dX4_onesOf_0 rfl (lv_at hl 0 rfl) ?_
  refine lv_iload_n hx hb dX4_onesOf_1 rfl (lv_at hl 1 rfl) ?_
  obtain ⟨t1, ht1, hf⟩ := ob hf
  refine k_PVl hC LX4_62 ⟨Nat.le_of_ble_eq_true rfl, Nat.le_of_ble_eq_true rfl⟩ ⟨Nat.zero_le _, Nat.zero_le _⟩ (cR_wholeRow l E ad q0_wholes q0_onesAtBlocks q0_zeros q0_order q0_nextOrder q0_size a1 t1 ht1) rfl rfl hP rfl rfl hl.1 rfl (Nat.le_of_ble_eq_true rfl) rfl dX4_onesOf_2 (fun hz2 => ?_)
  refine k_PSi hC LX4_66 ⟨Nat.le_of_ble_eq_true rfl, Nat.le_of_ble_eq_true rfl⟩ ⟨Nat.zero_le _, Nat.zero_le _⟩ (cJ_bitCount l E t1 _ rfl) rfl rfl (vP_nil) hl.1 rfl (Nat.le_of_ble_eq_true rfl) rfl dX4_onesOf_5 (fun hz5 => ?_)
  have hf := Option.some.inj hf
  exact e_Pi hC hr hlocks hf dX4_onesOf_8
abbrev rmR_onesOfAll : Room := { frames := 3, cells := 0, slots := 0, locals := 62 }
set_option maxHeartbeats 4000000 in
set_option maxRecDepth 100000 in
theorem cR_onesOfAll (l : Launch) (E : eE) (ad : Nat → Nat) (q0_wholes : (Nat → Int64)) (q0_onesAtBlocks : (Nat → Nat → Int32)) (q0_zeros : (Nat → Int32)) (q0_order : (Nat → Int32)) (q0_nextOrder : (Nat → Int32)) (q0_size : Int32) (r : Int32) (hf : fR_onesOfAll q0_wholes = some r) : cP l E yX4_onesOfAll cX4_onesOfAll 3 (some .int) rmR_onesOfAll [.ref (ad 0)] (wR E ad q0_wholes q0_onesAtBlocks q0_zeros q0_order q0_nextOrder q0_size) (some (.int r)) := by
  refine Met.ofW (cc := cX4_onesOfAll) (maxL := 3) (ret := (some .int)) (by decide) rfl ?_
  intro p e s m args below meth c s₁ B hml hv
  obtain ⟨hargs, hP, hK⟩ := hv
  have hx := B.exec
  have hb := B.bytes
  have hr := B.returns
  have hts := atoms_spec (ws := ws_ yX4_onesOfAll cX4_onesOfAll 3 (some .int)) B.pre
  have hta : ∀ w ∈ lw_all, w.before args s = true := fun w h => hts w (List.mem_cons_of_mem _ h)
  have hown : s.vm.findClass RX4 = some m.cls := findClass_of_methodNamed B.named
  have hlocks := B.notSynchronized
  have hC : Cx p s m args c cX4_onesOfAll 3 RX4 E := ⟨hx, hb, hml, hown, hta, hK⟩
  obtain ⟨ls, he, hl⟩ := entry_ (m := m) (n := 3) hargs (Nat.le_of_ble_eq_true rfl)
  rw [he]
  have hl : lv_has ls 3 [(0, .ref (ad 0))] := hl
  show W p l e rmR_onesOfAll s m args below meth c s.heap [] 0 0 (MQ below (qP (some .int) (some (.int r))) args s 0 0 (fun _ => False)) (F0 m 0 ls [])
  have L4 : ∀ (n : Nat) (a1 : Int32) (a2 : Int32) (ls : Array Slot), lv_has ls 3 [(0, .ref (ad 0)), (1, .int a1), (2, .int a2)] → fR_onesOfAll_4 n q0_wholes a1 a2 = some r → W p l e rmR_onesOfAll s m args below meth c s.heap [] 0 0 (MQ below (qP (some .int) (some (.int r))) args s 0 0 (fun _ => False)) (F0 m 4 ls []) := by
    intro n
    induction n with
    | zero => intro a1 a2 ls hl hf; cases hf
    | succ n ih =>
      intro a1 a2 ls hl hf
      rw [fR_onesOfAll_4] at hf
      refine lv_iload_n hx hb dX4_onesOfAll_4 rfl (lv_at hl 2 rfl) ?_
      refine lv_iconst (v := 5) hx hb dX4_onesOfAll_5 (by decide) ?_
      refine lv_icmp_ge (tgt := 23) hx hb dX4_onesOfAll_6 (by decide) (fun c1 => ?_) (fun c1 => ?_)
      · have hf := ite_t hf c1
        refine lv_iload_n hx hb dX4_onesOfAll_23 rfl (lv_at hl 1 rfl) ?_
        have hf := Option.some.inj hf
        exact e_Pi hC hr hlocks hf dX4_onesOfAll_24
      · have hf := ite_f hf c1
        refine lv_iload_n hx hb dX4_onesOfAll_9 rfl (lv_at hl 1 rfl) ?_
        refine lv_aload_n hx hb dX4_onesOfAll_10 rfl (lv_at hl 0 rfl) ?_
        refine lv_iload_n hx hb dX4_onesOfAll_11 rfl (lv_at hl 2 rfl) ?_
        obtain ⟨t2, ht2, hf⟩ := ob hf
        refine k_PVi hC LX4_72 ⟨Nat.le_of_ble_eq_true rfl, Nat.le_of_ble_eq_true rfl⟩ ⟨Nat.zero_le _, Nat.zero_le _⟩ (cR_onesOf l E ad q0_wholes q0_onesAtBlocks q0_zeros q0_order q0_nextOrder q0_size a2 t2 ht2) rfl rfl hP rfl rfl hl.1 rfl (Nat.le_of_ble_eq_true rfl) rfl dX4_onesOfAll_12 (fun hz12 => ?_)
        refine lv_iadd hx hb dX4_onesOfAll_15 ?_
        refine lv_istore_n (lv' := [(1, .int (a1 + t2)), (0, .ref (ad 0)), (2, .int a2)]) hx hb dX4_onesOfAll_16 rfl hl (by decide) rfl (fun ls hl => ?_)
        refine lv_iinc (v := (a2 + (1 : Int32))) (lv' := [(2, .int (a2 + (1 : Int32))), (1, .int (a1 + t2)), (0, .ref (ad 0))]) hx hb dX4_onesOfAll_17 hl (k := 2) rfl rfl (by decide) rfl (fun ls hl => ?_)
        refine lv_goto (tgt := 4) hx hb dX4_onesOfAll_20 (by decide) ?_
        exact ih (a1 + t2) (a2 + (1 : Int32)) ls (lv_sub hl [2, 1, 0] rfl) hf
  rw [fR_onesOfAll] at hf
  refine lv_iconst (v := 0) hx hb dX4_onesOfAll_0 (by decide) ?_
  refine lv_istore_n (lv' := [(1, .int (0 : Int32)), (0, .ref (ad 0))]) hx hb dX4_onesOfAll_1 rfl hl (by decide) rfl (fun ls hl => ?_)
  refine lv_iconst (v := 0) hx hb dX4_onesOfAll_2 (by decide) ?_
  refine lv_istore_n (lv' := [(2, .int (0 : Int32)), (1, .int (0 : Int32)), (0, .ref (ad 0))]) hx hb dX4_onesOfAll_3 rfl hl (by decide) rfl (fun ls hl => ?_)
  exact L4 FU (0 : Int32) (0 : Int32) ls (lv_sub hl [2, 1, 0] rfl) hf
abbrev rmR_ahead : Room := { frames := 1, cells := 0, slots := 0, locals := 21 }
set_option maxHeartbeats 4000000 in
set_option maxRecDepth 100000 in
theorem cR_ahead (l : Launch) (E : eE) (ad : Nat → Nat) (q0_wholes : (Nat → Int64)) (q0_onesAtBlocks : (Nat → Nat → Int32)) (q0_zeros : (Nat → Int32)) (q0_order : (Nat → Int32)) (q0_nextOrder : (Nat → Int32)) (q0_size : Int32) (a1 : Int32) (a2 : Int32) (a3 : Int32) (r : Int32) (hf : fR_ahead q0_wholes q0_onesAtBlocks q0_size a1 a2 a3 = some r) : cP l E yX4_ahead cX4_ahead 8 (some .int) rmR_ahead [.ref (ad 0), .int a1, .int a2, .int a3] (wR E ad q0_wholes q0_onesAtBlocks q0_zeros q0_order q0_nextOrder q0_size) (some (.int r)) := by
  refine Met.ofW (cc := cX4_ahead) (maxL := 8) (ret := (some .int)) (by decide) rfl ?_
  intro p e s m args below meth c s₁ B hml hv
  obtain ⟨hargs, hP, hK⟩ := hv
  have hx := B.exec
  have hb := B.bytes
  have hr := B.returns
  have hts := atoms_spec (ws := ws_ yX4_ahead cX4_ahead 8 (some .int)) B.pre
  have hta : ∀ w ∈ lw_all, w.before args s = true := fun w h => hts w (List.mem_cons_of_mem _ h)
  have hown : s.vm.findClass RX4 = some m.cls := findClass_of_methodNamed B.named
  have hlocks := B.notSynchronized
  have hC : Cx p s m args c cX4_ahead 8 RX4 E := ⟨hx, hb, hml, hown, hta, hK⟩
  obtain ⟨ls, he, hl⟩ := entry_ (m := m) (n := 8) hargs (Nat.le_of_ble_eq_true rfl)
  rw [he]
  have hl : lv_has ls 8 [(0, .ref (ad 0)), (1, .int a1), (2, .int a2), (3, .int a3)] := hl
  show W p l e rmR_ahead s m args below meth c s.heap [] 0 0 (MQ below (qP (some .int) (some (.int r))) args s 0 0 (fun _ => False)) (F0 m 0 ls [])
  rw [fR_ahead] at hf
  refine lv_iload_n hx hb dX4_ahead_0 rfl (lv_at hl 1 rfl) ?_
  refine k_PSNi hC LX4_50 ⟨Nat.le_of_ble_eq_true rfl, Nat.le_of_ble_eq_true rfl⟩ ⟨Nat.zero_le _, Nat.zero_le _⟩ (cS_isRow l E a1 _ rfl) rfl rfl (vP_nil) hl.1 rfl (Nat.le_of_ble_eq_true rfl) rfl dX4_ahead_1 (fun hz1 => ?_)
  refine lv_if_eq (tgt := 25) hx hb dX4_ahead_4 (by decide) (fun c1 => ?_) (fun c1 => ?_)
  · have hf := ite_t hf c1
    refine lv_iconst (v := 0) hx hb dX4_ahead_25 (by decide) ?_
    have hf := Option.some.inj hf
    exact e_Pi hC hr hlocks hf dX4_ahead_26
  · have hf := ite_f hf c1
    refine lv_iload_n hx hb dX4_ahead_7 rfl (lv_at hl 3 rfl) ?_
    refine lv_if_lt (tgt := 25) hx hb dX4_ahead_8 (by decide) (fun c2 => ?_) (fun c2 => ?_)
    · have hf := ite_t hf c2
      refine lv_iconst (v := 0) hx hb dX4_ahead_25 (by decide) ?_
      have hf := Option.some.inj hf
      exact e_Pi hC hr hlocks hf dX4_ahead_26
    · have hf := ite_f hf c2
      refine lv_iload_n hx hb dX4_ahead_11 rfl (lv_at hl 3 rfl) ?_
      refine lv_aload_n hx hb dX4_ahead_12 rfl (lv_at hl 0 rfl) ?_
      refine gX4_36 hC hP 0 rfl (v := .int q0_size) rfl dX4_ahead_13 ?_
      refine lv_icmp_gt (tgt := 25) hx hb dX4_ahead_16 (by decide) (fun c3 => ?_) (fun c3 => ?_)
      · have hf := ite_t hf c3
        refine lv_iconst (v := 0) hx hb dX4_ahead_25 (by decide) ?_
        have hf := Option.some.inj hf
        exact e_Pi hC hr hlocks hf dX4_ahead_26
      · have hf := ite_f hf c3
        refine lv_iload_n hx hb dX4_ahead_19 rfl (lv_at hl 3 rfl) ?_
        refine lv_bipush (v := 64) hx hb dX4_ahead_20 (by decide) ?_
        refine lv_icmp_le (tgt := 27) hx hb dX4_ahead_22 (by decide) (fun c4 => ?_) (fun c4 => ?_)
        · have hf := ite_t hf c4
          refine lv_iload_n hx hb dX4_ahead_27 rfl (lv_at hl 3 rfl) ?_
          refine lv_bipush (v := 8) hx hb dX4_ahead_28 (by decide) ?_
          refine lv_idiv hx hb dX4_ahead_30 (by decide) ?_
          refine lv_istore (lv' := [(4, .int (a3 / (8 : Int32))), (0, .ref (ad 0)), (1, .int a1), (2, .int a2), (3, .int a3)]) hx hb dX4_ahead_31 hl (by decide) rfl (fun ls hl => ?_)
          refine lv_aload_n hx hb dX4_ahead_33 rfl (lv_at hl 1 rfl) ?_
          refine gX4_9 hC hP 0 rfl (v := .ref (ad 1)) rfl dX4_ahead_34 ?_
          refine lv_iload_n hx hb dX4_ahead_37 rfl (lv_at hl 2 rfl) ?_
          obtain ⟨v5, hv5, hf⟩ := ob hf
          obtain ⟨hv5a, hv5b⟩ := ldA_ok hv5
          refine a_lld hC hP 1 rfl hv5a hv5b dX4_ahead_38 ?_
          refine lv_iload hx hb dX4_ahead_39 (lv_at hl 0 rfl) ?_
          refine lv_bipush (v := 8) hx hb dX4_ahead_41 (by decide) ?_
          refine lv_imul hx hb dX4_ahead_43 ?_
          refine lv_lushr hx hb dX4_ahead_44 rfl ?_
          refine lv_lconst (v := 1) hx hb dX4_ahead_45 (by decide) ?_
          refine lv_iload_n hx hb dX4_ahead_46 rfl (lv_at hl 4 rfl) ?_
          refine lv_bipush (v := 8) hx hb dX4_ahead_47 (by decide) ?_
          refine lv_irem hx hb dX4_ahead_49 (by decide) ?_
          refine lv_lshl hx hb dX4_ahead_50 rfl ?_
          refine lv_lconst (v := 1) hx hb dX4_ahead_51 (by decide) ?_
          refine lv_lsub hx hb dX4_ahead_52 ?_
          refine lv_land hx hb dX4_ahead_53 ?_
          refine lv_lstore (lv' := [(5, .long ((v5.toUInt64 >>> (((a3 / (8 : Int32)) * (8 : Int32)).toInt64.toUInt64 &&& Int64.toUInt64 63)).toInt64 &&& (((1 : Int64) <<< ((a3 - a3 / (8 : Int32) * (8 : Int32)).toInt64 &&& 63)) - (1 : Int64)))), (4, .int (a3 / (8 : Int32))), (0, .ref (ad 0)), (1, .int a1), (2, .int a2), (3, .int a3)]) hx hb dX4_ahead_54 hl (by decide) rfl (fun ls hl => ?_)
          refine lv_aload_n hx hb dX4_ahead_56 rfl (lv_at hl 2 rfl) ?_
          refine gX4_17 hC hP 0 rfl (v := .ref (ad 2)) rfl dX4_ahead_57 ?_
          refine lv_iload_n hx hb dX4_ahead_60 rfl (lv_at hl 3 rfl) ?_
          obtain ⟨k6, hk6, hf⟩ := ob hf
          obtain ⟨hk6a, hk6b⟩ := ldA_ok hk6
          have hk6c : k6 < 5 := by rw [← hk6b]; exact Nat.not_le.mp fun q => hk6a (Or.inr q)
          refine a_gld hC hP 2 rfl hk6a dX4_ahead_61 (kk := ?_)
          rw [hk6b]
          show W p l e _ s m args below meth c _ _ _ _ _ (F0 m 62 _ (.ref (ad (6 + k6)) :: _))
          refine lv_iload hx hb dX4_ahead_62 (lv_at hl 1 rfl) ?_
          obtain ⟨v7, hv7, hf⟩ := ob hf
          obtain ⟨hv7a, hv7b⟩ := ldA_ok hv7
          refine a_ild hC hP (6 + k6) (all5 (P := fun k => (wR E ad q0_wholes q0_onesAtBlocks q0_zeros q0_order q0_nextOrder q0_size)[6 + k]? = some (ad (6 + k), .inl (E.2 0, 9, .inl (q0_onesAtBlocks k)))) hk6c rfl rfl rfl rfl rfl) hv7a hv7b dX4_ahead_64 ?_
          refine lv_lload hx hb dX4_ahead_65 (lv_at hl 0 rfl) ?_
          refine k_PSi hC LX4_66 ⟨Nat.le_of_ble_eq_true rfl, Nat.le_of_ble_eq_true rfl⟩ ⟨Nat.zero_le _, Nat.zero_le _⟩ (cJ_bitCount l E ((v5.toUInt64 >>> (((a3 / (8 : Int32)) * (8 : Int32)).toInt64.toUInt64 &&& Int64.toUInt64 63)).toInt64 &&& (((1 : Int64) <<< ((a3 - a3 / (8 : Int32) * (8 : Int32)).toInt64 &&& 63)) - (1 : Int64))) _ rfl) rfl rfl (vP_nil) hl.1 rfl (Nat.le_of_ble_eq_true rfl) rfl dX4_ahead_67 (fun hz67 => ?_)
          refine lv_iadd hx hb dX4_ahead_70 ?_
          refine lv_istore (lv' := [(7, .int (v7 + (fJ_bitCount ((v5.toUInt64 >>> (((a3 / (8 : Int32)) * (8 : Int32)).toInt64.toUInt64 &&& Int64.toUInt64 63)).toInt64 &&& (((1 : Int64) <<< ((a3 - a3 / (8 : Int32) * (8 : Int32)).toInt64 &&& 63)) - (1 : Int64)))))), (5, .long ((v5.toUInt64 >>> (((a3 / (8 : Int32)) * (8 : Int32)).toInt64.toUInt64 &&& Int64.toUInt64 63)).toInt64 &&& (((1 : Int64) <<< ((a3 - a3 / (8 : Int32) * (8 : Int32)).toInt64 &&& 63)) - (1 : Int64)))), (4, .int (a3 / (8 : Int32))), (0, .ref (ad 0)), (1, .int a1), (2, .int a2), (3, .int a3)]) hx hb dX4_ahead_71 hl (by decide) rfl (fun ls hl => ?_)
          refine lv_iload_n hx hb dX4_ahead_73 rfl (lv_at hl 5 rfl) ?_
          refine lv_if_eq (tgt := 82) hx hb dX4_ahead_74 (by decide) (fun c8 => ?_) (fun c8 => ?_)
          · have hf := ite_t hf c8
            refine lv_iload_n hx hb dX4_ahead_82 rfl (lv_at hl 6 rfl) ?_
            refine lv_iload hx hb dX4_ahead_83 (lv_at hl 0 rfl) ?_
            refine lv_isub hx hb dX4_ahead_85 ?_
            have hf := Option.some.inj hf
            exact e_Pi hC hr hlocks hf dX4_ahead_86
          · have hf := ite_f hf c8
            refine lv_iload hx hb dX4_ahead_77 (lv_at hl 0 rfl) ?_
            refine lv_goto (tgt := 86) hx hb dX4_ahead_79 (by decide) ?_
            have hf := Option.some.inj hf
            exact e_Pi hC hr hlocks hf dX4_ahead_86
        · have hf := ite_f hf c4
          refine lv_iconst (v := 0) hx hb dX4_ahead_25 (by decide) ?_
          have hf := Option.some.inj hf
          exact e_Pi hC hr hlocks hf dX4_ahead_26
abbrev rmR_isThere : Room := { frames := 2, cells := 0, slots := 0, locals := 42 }
set_option maxHeartbeats 4000000 in
set_option maxRecDepth 100000 in
theorem cR_isThere (l : Launch) (E : eE) (ad : Nat → Nat) (q0_wholes : (Nat → Int64)) (q0_onesAtBlocks : (Nat → Nat → Int32)) (q0_zeros : (Nat → Int32)) (q0_order : (Nat → Int32)) (q0_nextOrder : (Nat → Int32)) (q0_size : Int32) (a1 : Int32) (a2 : Int32) (a3 : Int32) (r : Int32) (hf : fR_isThere q0_wholes q0_size a1 a2 a3 = some r) : cP l E yX4_isThere cX4_isThere 4 (some .boolean) rmR_isThere [.ref (ad 0), .int a1, .int a2, .int a3] (wR E ad q0_wholes q0_onesAtBlocks q0_zeros q0_order q0_nextOrder q0_size) (some (.int r)) := by
  refine Met.ofW (cc := cX4_isThere) (maxL := 4) (ret := (some .boolean)) (by decide) rfl ?_
  intro p e s m args below meth c s₁ B hml hv
  obtain ⟨hargs, hP, hK⟩ := hv
  have hx := B.exec
  have hb := B.bytes
  have hr := B.returns
  have hts := atoms_spec (ws := ws_ yX4_isThere cX4_isThere 4 (some .boolean)) B.pre
  have hta : ∀ w ∈ lw_all, w.before args s = true := fun w h => hts w (List.mem_cons_of_mem _ h)
  have hown : s.vm.findClass RX4 = some m.cls := findClass_of_methodNamed B.named
  have hlocks := B.notSynchronized
  have hC : Cx p s m args c cX4_isThere 4 RX4 E := ⟨hx, hb, hml, hown, hta, hK⟩
  obtain ⟨ls, he, hl⟩ := entry_ (m := m) (n := 4) hargs (Nat.le_of_ble_eq_true rfl)
  rw [he]
  have hl : lv_has ls 4 [(0, .ref (ad 0)), (1, .int a1), (2, .int a2), (3, .int a3)] := hl
  show W p l e rmR_isThere s m args below meth c s.heap [] 0 0 (MQ below (qP (some .boolean) (some (.int r))) args s 0 0 (fun _ => False)) (F0 m 0 ls [])
  rw [fR_isThere] at hf
  refine lv_aload_n hx hb dX4_isThere_0 rfl (lv_at hl 0 rfl) ?_
  refine lv_iload_n hx hb dX4_isThere_1 rfl (lv_at hl 1 rfl) ?_
  refine lv_iload_n hx hb dX4_isThere_2 rfl (lv_at hl 3 rfl) ?_
  obtain ⟨t1, ht1, hf⟩ := ob hf
  refine k_PVi hC LX4_79 ⟨Nat.le_of_ble_eq_true rfl, Nat.le_of_ble_eq_true rfl⟩ ⟨Nat.zero_le _, Nat.zero_le _⟩ (cR_bitAt l E ad q0_wholes q0_onesAtBlocks q0_zeros q0_order q0_nextOrder q0_size a1 a3 t1 ht1) rfl rfl hP rfl rfl hl.1 rfl (Nat.le_of_ble_eq_true rfl) rfl dX4_isThere_3 (fun hz3 => ?_)
  refine lv_iload_n hx hb dX4_isThere_6 rfl (lv_at hl 2 rfl) ?_
  refine lv_if_eq (tgt := 14) hx hb dX4_isThere_7 (by decide) (fun c2 => ?_) (fun c2 => ?_)
  · have hf := ite_t hf c2
    refine lv_iconst (v := 0) hx hb dX4_isThere_14 (by decide) ?_
    refine lv_icmp_ne (tgt := 22) hx hb dX4_isThere_15 (by decide) (fun c3 => ?_) (fun c3 => ?_)
    · have hf := ite_f hf c3
      refine lv_iconst (v := 0) hx hb dX4_isThere_22 (by decide) ?_
      have hf := Option.some.inj hf
      exact e_Pz hC hr hlocks hf rfl dX4_isThere_23
    · have hf := ite_t hf c3
      refine lv_iconst (v := 1) hx hb dX4_isThere_18 (by decide) ?_
      refine lv_goto (tgt := 23) hx hb dX4_isThere_19 (by decide) ?_
      have hf := Option.some.inj hf
      exact e_Pz hC hr hlocks hf rfl dX4_isThere_23
  · have hf := ite_f hf c2
    refine lv_iconst (v := 1) hx hb dX4_isThere_10 (by decide) ?_
    refine lv_goto (tgt := 15) hx hb dX4_isThere_11 (by decide) ?_
    refine lv_icmp_ne (tgt := 22) hx hb dX4_isThere_15 (by decide) (fun c4 => ?_) (fun c4 => ?_)
    · have hf := ite_f hf c4
      refine lv_iconst (v := 0) hx hb dX4_isThere_22 (by decide) ?_
      have hf := Option.some.inj hf
      exact e_Pz hC hr hlocks hf rfl dX4_isThere_23
    · have hf := ite_t hf c4
      refine lv_iconst (v := 1) hx hb dX4_isThere_18 (by decide) ?_
      refine lv_goto (tgt := 23) hx hb dX4_isThere_19 (by decide) ?_
      have hf := Option.some.inj hf
      exact e_Pz hC hr hlocks hf rfl dX4_isThere_23
abbrev rmR_aheadOneByOne : Room := { frames := 3, cells := 0, slots := 0, locals := 65 }
set_option maxHeartbeats 4000000 in
set_option maxRecDepth 100000 in
theorem cR_aheadOneByOne (l : Launch) (E : eE) (ad : Nat → Nat) (q0_wholes : (Nat → Int64)) (q0_onesAtBlocks : (Nat → Nat → Int32)) (q0_zeros : (Nat → Int32)) (q0_order : (Nat → Int32)) (q0_nextOrder : (Nat → Int32)) (q0_size : Int32) (a1 : Int32) (a2 : Int32) (a3 : Int32) (r : Int32) (hf : fR_aheadOneByOne q0_wholes q0_size a1 a2 a3 = some r) : cP l E yX4_aheadOneByOne cX4_aheadOneByOne 6 (some .int) rmR_aheadOneByOne [.ref (ad 0), .int a1, .int a2, .int a3] (wR E ad q0_wholes q0_onesAtBlocks q0_zeros q0_order q0_nextOrder q0_size) (some (.int r)) := by
  refine Met.ofW (cc := cX4_aheadOneByOne) (maxL := 6) (ret := (some .int)) (by decide) rfl ?_
  intro p e s m args below meth c s₁ B hml hv
  obtain ⟨hargs, hP, hK⟩ := hv
  have hx := B.exec
  have hb := B.bytes
  have hr := B.returns
  have hts := atoms_spec (ws := ws_ yX4_aheadOneByOne cX4_aheadOneByOne 6 (some .int)) B.pre
  have hta : ∀ w ∈ lw_all, w.before args s = true := fun w h => hts w (List.mem_cons_of_mem _ h)
  have hown : s.vm.findClass RX4 = some m.cls := findClass_of_methodNamed B.named
  have hlocks := B.notSynchronized
  have hC : Cx p s m args c cX4_aheadOneByOne 6 RX4 E := ⟨hx, hb, hml, hown, hta, hK⟩
  obtain ⟨ls, he, hl⟩ := entry_ (m := m) (n := 6) hargs (Nat.le_of_ble_eq_true rfl)
  rw [he]
  have hl : lv_has ls 6 [(0, .ref (ad 0)), (1, .int a1), (2, .int a2), (3, .int a3)] := hl
  show W p l e rmR_aheadOneByOne s m args below meth c s.heap [] 0 0 (MQ below (qP (some .int) (some (.int r))) args s 0 0 (fun _ => False)) (F0 m 0 ls [])
  have L6 : ∀ (n : Nat) (a1 : Int32) (a2 : Int32) (a3 : Int32) (a4 : Int32) (a5 : Int32) (ls : Array Slot), lv_has ls 6 [(0, .ref (ad 0)), (1, .int a1), (2, .int a2), (3, .int a3), (4, .int a4), (5, .int a5)] → fR_aheadOneByOne_6 n q0_wholes q0_size a1 a2 a3 a4 a5 = some r → W p l e rmR_aheadOneByOne s m args below meth c s.heap [] 0 0 (MQ below (qP (some .int) (some (.int r))) args s 0 0 (fun _ => False)) (F0 m 6 ls []) := by
    intro n
    induction n with
    | zero => intro a1 a2 a3 a4 a5 ls hl hf; cases hf
    | succ n ih =>
      intro a1 a2 a3 a4 a5 ls hl hf
      rw [fR_aheadOneByOne_6] at hf
      refine lv_iload hx hb dX4_aheadOneByOne_6 (lv_at hl 5 rfl) ?_
      refine lv_iload_n hx hb dX4_aheadOneByOne_8 rfl (lv_at hl 3 rfl) ?_
      refine lv_icmp_ge (tgt := 41) hx hb dX4_aheadOneByOne_9 (by decide) (fun c1 => ?_) (fun c1 => ?_)
      · have hf := ite_t hf c1
        refine lv_iload hx hb dX4_aheadOneByOne_41 (lv_at hl 4 rfl) ?_
        have hf := Option.some.inj hf
        exact e_Pi hC hr hlocks hf dX4_aheadOneByOne_43
      · have hf := ite_f hf c1
        refine lv_iload hx hb dX4_aheadOneByOne_12 (lv_at hl 5 rfl) ?_
        refine lv_aload_n hx hb dX4_aheadOneByOne_14 rfl (lv_at hl 0 rfl) ?_
        refine gX4_36 hC hP 0 rfl (v := .int q0_size) rfl dX4_aheadOneByOne_15 ?_
        refine lv_icmp_ge (tgt := 41) hx hb dX4_aheadOneByOne_18 (by decide) (fun c2 => ?_) (fun c2 => ?_)
        · have hf := ite_t hf c2
          refine lv_iload hx hb dX4_aheadOneByOne_41 (lv_at hl 4 rfl) ?_
          have hf := Option.some.inj hf
          exact e_Pi hC hr hlocks hf dX4_aheadOneByOne_43
        · have hf := ite_f hf c2
          refine lv_aload_n hx hb dX4_aheadOneByOne_21 rfl (lv_at hl 0 rfl) ?_
          refine lv_iload_n hx hb dX4_aheadOneByOne_22 rfl (lv_at hl 1 rfl) ?_
          refine lv_iload_n hx hb dX4_aheadOneByOne_23 rfl (lv_at hl 2 rfl) ?_
          refine lv_iload hx hb dX4_aheadOneByOne_24 (lv_at hl 5 rfl) ?_
          obtain ⟨t3, ht3, hf⟩ := ob hf
          refine k_PVi hC LX4_75 ⟨Nat.le_of_ble_eq_true rfl, Nat.le_of_ble_eq_true rfl⟩ ⟨Nat.zero_le _, Nat.zero_le _⟩ (cR_isThere l E ad q0_wholes q0_onesAtBlocks q0_zeros q0_order q0_nextOrder q0_size a1 a2 a5 t3 ht3) rfl rfl hP rfl rfl hl.1 rfl (Nat.le_of_ble_eq_true rfl) rfl dX4_aheadOneByOne_26 (fun hz26 => ?_)
          refine lv_if_eq (tgt := 35) hx hb dX4_aheadOneByOne_29 (by decide) (fun c4 => ?_) (fun c4 => ?_)
          · have hf := ite_t hf c4
            refine lv_iinc (v := (a5 + (1 : Int32))) (lv' := [(5, .int (a5 + (1 : Int32))), (0, .ref (ad 0)), (1, .int a1), (2, .int a2), (3, .int a3), (4, .int a4)]) hx hb dX4_aheadOneByOne_35 hl (k := 5) rfl rfl (by decide) rfl (fun ls hl => ?_)
            refine lv_goto (tgt := 6) hx hb dX4_aheadOneByOne_38 (by decide) ?_
            exact ih a1 a2 a3 a4 (a5 + (1 : Int32)) ls (lv_sub hl [1, 2, 3, 4, 5, 0] rfl) hf
          · have hf := ite_f hf c4
            refine lv_iinc (v := (a4 + (1 : Int32))) (lv' := [(4, .int (a4 + (1 : Int32))), (0, .ref (ad 0)), (1, .int a1), (2, .int a2), (3, .int a3), (5, .int a5)]) hx hb dX4_aheadOneByOne_32 hl (k := 4) rfl rfl (by decide) rfl (fun ls hl => ?_)
            refine lv_iinc (v := (a5 + (1 : Int32))) (lv' := [(5, .int (a5 + (1 : Int32))), (4, .int (a4 + (1 : Int32))), (0, .ref (ad 0)), (1, .int a1), (2, .int a2), (3, .int a3)]) hx hb dX4_aheadOneByOne_35 hl (k := 5) rfl rfl (by decide) rfl (fun ls hl => ?_)
            refine lv_goto (tgt := 6) hx hb dX4_aheadOneByOne_38 (by decide) ?_
            exact ih a1 a2 a3 (a4 + (1 : Int32)) (a5 + (1 : Int32)) ls (lv_sub hl [2, 3, 4, 5, 1, 0] rfl) hf
  rw [fR_aheadOneByOne] at hf
  refine lv_iconst (v := 0) hx hb dX4_aheadOneByOne_0 (by decide) ?_
  refine lv_istore (lv' := [(4, .int (0 : Int32)), (0, .ref (ad 0)), (1, .int a1), (2, .int a2), (3, .int a3)]) hx hb dX4_aheadOneByOne_1 hl (by decide) rfl (fun ls hl => ?_)
  refine lv_iconst (v := 0) hx hb dX4_aheadOneByOne_3 (by decide) ?_
  refine lv_istore (lv' := [(5, .int (0 : Int32)), (4, .int (0 : Int32)), (0, .ref (ad 0)), (1, .int a1), (2, .int a2), (3, .int a3)]) hx hb dX4_aheadOneByOne_4 hl (by decide) rfl (fun ls hl => ?_)
  exact L6 FU a1 a2 a3 (0 : Int32) (0 : Int32) ls (lv_sub hl [2, 3, 4, 5, 1, 0] rfl) hf
abbrev rmR_placeOf : Room := { frames := 3, cells := 0, slots := 0, locals := 65 }
set_option maxHeartbeats 4000000 in
set_option maxRecDepth 100000 in
theorem cR_placeOf (l : Launch) (E : eE) (ad : Nat → Nat) (q0_wholes : (Nat → Int64)) (q0_onesAtBlocks : (Nat → Nat → Int32)) (q0_zeros : (Nat → Int32)) (q0_order : (Nat → Int32)) (q0_nextOrder : (Nat → Int32)) (q0_size : Int32) (a1 : Int32) (a2 : Int32) (a3 : Int32) (r : Int32) (hf : fR_placeOf q0_wholes q0_onesAtBlocks q0_size a1 a2 a3 = some r) : cP l E yX4_placeOf cX4_placeOf 7 (some .int) rmR_placeOf [.ref (ad 0), .int a1, .int a2, .int a3] (wR E ad q0_wholes q0_onesAtBlocks q0_zeros q0_order q0_nextOrder q0_size) (some (.int r)) := by
  refine Met.ofW (cc := cX4_placeOf) (maxL := 7) (ret := (some .int)) (by decide) rfl ?_
  intro p e s m args below meth c s₁ B hml hv
  obtain ⟨hargs, hP, hK⟩ := hv
  have hx := B.exec
  have hb := B.bytes
  have hr := B.returns
  have hts := atoms_spec (ws := ws_ yX4_placeOf cX4_placeOf 7 (some .int)) B.pre
  have hta : ∀ w ∈ lw_all, w.before args s = true := fun w h => hts w (List.mem_cons_of_mem _ h)
  have hown : s.vm.findClass RX4 = some m.cls := findClass_of_methodNamed B.named
  have hlocks := B.notSynchronized
  have hC : Cx p s m args c cX4_placeOf 7 RX4 E := ⟨hx, hb, hml, hown, hta, hK⟩
  obtain ⟨ls, he, hl⟩ := entry_ (m := m) (n := 7) hargs (Nat.le_of_ble_eq_true rfl)
  rw [he]
  have hl : lv_has ls 7 [(0, .ref (ad 0)), (1, .int a1), (2, .int a2), (3, .int a3)] := hl
  show W p l e rmR_placeOf s m args below meth c s.heap [] 0 0 (MQ below (qP (some .int) (some (.int r))) args s 0 0 (fun _ => False)) (F0 m 0 ls [])
  have L72 : ∀ (n : Nat) (a1 : Int32) (a2 : Int32) (a5 : Int32) (a6 : Int32) (ls : Array Slot), lv_has ls 7 [(0, .ref (ad 0)), (1, .int a1), (2, .int a2), (5, .int a5), (6, .int a6)] → fR_placeOf_72 n q0_wholes q0_onesAtBlocks q0_size a1 a2 a5 a6 = some r → W p l e rmR_placeOf s m args below meth c s.heap [] 0 0 (MQ below (qP (some .int) (some (.int r))) args s 0 0 (fun _ => False)) (F0 m 72 ls []) := by
    intro n
    induction n with
    | zero => intro a1 a2 a5 a6 ls hl hf; cases hf
    | succ n ih =>
      intro a1 a2 a5 a6 ls hl hf
      rw [fR_placeOf_72] at hf
      refine lv_iload hx hb dX4_placeOf_72 (lv_at hl 4 rfl) ?_
      refine lv_aload_n hx hb dX4_placeOf_74 rfl (lv_at hl 0 rfl) ?_
      refine gX4_36 hC hP 0 rfl (v := .int q0_size) rfl dX4_placeOf_75 ?_
      refine lv_icmp_ge (tgt := 109) hx hb dX4_placeOf_78 (by decide) (fun c6 => ?_) (fun c6 => ?_)
      · have hf := ite_t hf c6
        refine lv_iconst (v := (-1)) hx hb dX4_placeOf_109 (by decide) ?_
        have hf := Option.some.inj hf
        exact e_Pi hC hr hlocks hf dX4_placeOf_110
      · have hf := ite_f hf c6
        refine lv_aload_n hx hb dX4_placeOf_81 rfl (lv_at hl 0 rfl) ?_
        refine lv_iload_n hx hb dX4_placeOf_82 rfl (lv_at hl 1 rfl) ?_
        refine lv_iload_n hx hb dX4_placeOf_83 rfl (lv_at hl 2 rfl) ?_
        refine lv_iload hx hb dX4_placeOf_84 (lv_at hl 4 rfl) ?_
        obtain ⟨t7, ht7, hf⟩ := ob hf
        refine k_PVi hC LX4_75 ⟨Nat.le_of_ble_eq_true rfl, Nat.le_of_ble_eq_true rfl⟩ ⟨Nat.zero_le _, Nat.zero_le _⟩ (cR_isThere l E ad q0_wholes q0_onesAtBlocks q0_zeros q0_order q0_nextOrder q0_size a1 a2 a6 t7 ht7) rfl rfl hP rfl rfl hl.1 rfl (Nat.le_of_ble_eq_true rfl) rfl dX4_placeOf_86 (fun hz86 => ?_)
        refine lv_if_eq (tgt := 103) hx hb dX4_placeOf_89 (by decide) (fun c8 => ?_) (fun c8 => ?_)
        · have hf := ite_t hf c8
          refine lv_iinc (v := (a6 + (1 : Int32))) (lv' := [(6, .int (a6 + (1 : Int32))), (0, .ref (ad 0)), (1, .int a1), (2, .int a2), (5, .int a5)]) hx hb dX4_placeOf_103 hl (k := 4) rfl rfl (by decide) rfl (fun ls hl => ?_)
          refine lv_goto (tgt := 72) hx hb dX4_placeOf_106 (by decide) ?_
          exact ih a1 a2 a5 (a6 + (1 : Int32)) ls (lv_sub hl [1, 2, 3, 4, 0] rfl) hf
        · have hf := ite_f hf c8
          refine lv_iload hx hb dX4_placeOf_92 (lv_at hl 3 rfl) ?_
          refine lv_if_ne (tgt := 100) hx hb dX4_placeOf_94 (by decide) (fun c9 => ?_) (fun c9 => ?_)
          · have hf := ite_f hf c9
            refine lv_iinc (v := (a5 + (-1 : Int32))) (lv' := [(5, .int (a5 + (-1 : Int32))), (0, .ref (ad 0)), (1, .int a1), (2, .int a2), (6, .int a6)]) hx hb dX4_placeOf_100 hl (k := 3) rfl rfl (by decide) rfl (fun ls hl => ?_)
            refine lv_iinc (v := (a6 + (1 : Int32))) (lv' := [(6, .int (a6 + (1 : Int32))), (5, .int (a5 + (-1 : Int32))), (0, .ref (ad 0)), (1, .int a1), (2, .int a2)]) hx hb dX4_placeOf_103 hl (k := 4) rfl rfl (by decide) rfl (fun ls hl => ?_)
            refine lv_goto (tgt := 72) hx hb dX4_placeOf_106 (by decide) ?_
            exact ih a1 a2 (a5 + (-1 : Int32)) (a6 + (1 : Int32)) ls (lv_sub hl [2, 3, 4, 1, 0] rfl) hf
          · have hf := ite_t hf c9
            refine lv_iload hx hb dX4_placeOf_97 (lv_at hl 4 rfl) ?_
            have hf := Option.some.inj hf
            exact e_Pi hC hr hlocks hf dX4_placeOf_99
  have L23 : ∀ (n : Nat) (a1 : Int32) (a2 : Int32) (a3 : Int32) (a4 : Int32) (ls : Array Slot), lv_has ls 7 [(0, .ref (ad 0)), (1, .int a1), (2, .int a2), (3, .int a3), (4, .int a4)] → fR_placeOf_23 n q0_wholes q0_onesAtBlocks q0_size a1 a2 a3 a4 = some r → W p l e rmR_placeOf s m args below meth c s.heap [] 0 0 (MQ below (qP (some .int) (some (.int r))) args s 0 0 (fun _ => False)) (F0 m 23 ls []) := by
    intro n
    induction n with
    | zero => intro a1 a2 a3 a4 ls hl hf; cases hf
    | succ n ih =>
      intro a1 a2 a3 a4 ls hl hf
      rw [fR_placeOf_23] at hf
      refine lv_iload hx hb dX4_placeOf_23 (lv_at hl 4 rfl) ?_
      refine lv_bipush (v := 8) hx hb dX4_placeOf_25 (by decide) ?_
      refine lv_iadd hx hb dX4_placeOf_27 ?_
      refine lv_aload_n hx hb dX4_placeOf_28 rfl (lv_at hl 0 rfl) ?_
      refine gX4_36 hC hP 0 rfl (v := .int q0_size) rfl dX4_placeOf_29 ?_
      refine lv_icmp_ge (tgt := 56) hx hb dX4_placeOf_32 (by decide) (fun c4 => ?_) (fun c4 => ?_)
      · have hf := ite_t hf c4
        refine lv_iload_n hx hb dX4_placeOf_56 rfl (lv_at hl 3 rfl) ?_
        refine lv_aload_n hx hb dX4_placeOf_57 rfl (lv_at hl 0 rfl) ?_
        refine lv_iload_n hx hb dX4_placeOf_58 rfl (lv_at hl 1 rfl) ?_
        refine lv_iload_n hx hb dX4_placeOf_59 rfl (lv_at hl 2 rfl) ?_
        refine lv_iload hx hb dX4_placeOf_60 (lv_at hl 4 rfl) ?_
        obtain ⟨t5, ht5, hf⟩ := ob hf
        refine k_PVi hC LX4_83 ⟨Nat.le_of_ble_eq_true rfl, Nat.le_of_ble_eq_true rfl⟩ ⟨Nat.zero_le _, Nat.zero_le _⟩ (cR_ahead l E ad q0_wholes q0_onesAtBlocks q0_zeros q0_order q0_nextOrder q0_size a1 a2 a4 t5 ht5) rfl rfl hP rfl rfl hl.1 rfl (Nat.le_of_ble_eq_true rfl) rfl dX4_placeOf_62 (fun hz62 => ?_)
        refine lv_isub hx hb dX4_placeOf_65 ?_
        refine lv_istore (lv' := [(5, .int (a3 - t5)), (0, .ref (ad 0)), (1, .int a1), (2, .int a2), (3, .int a3), (4, .int a4)]) hx hb dX4_placeOf_66 hl (by decide) rfl (fun ls hl => ?_)
        refine lv_iload hx hb dX4_placeOf_68 (lv_at hl 5 rfl) ?_
        refine lv_istore (lv' := [(6, .int a4), (5, .int (a3 - t5)), (0, .ref (ad 0)), (1, .int a1), (2, .int a2), (3, .int a3), (4, .int a4)]) hx hb dX4_placeOf_70 hl (by decide) rfl (fun ls hl => ?_)
        exact L72 FU a1 a2 (a3 - t5) a4 ls (lv_sub hl [2, 3, 4, 1, 0] rfl) hf
      · have hf := ite_f hf c4
        refine lv_aload_n hx hb dX4_placeOf_35 rfl (lv_at hl 0 rfl) ?_
        refine lv_iload_n hx hb dX4_placeOf_36 rfl (lv_at hl 1 rfl) ?_
        refine lv_iload_n hx hb dX4_placeOf_37 rfl (lv_at hl 2 rfl) ?_
        refine lv_iload hx hb dX4_placeOf_38 (lv_at hl 4 rfl) ?_
        refine lv_bipush (v := 8) hx hb dX4_placeOf_40 (by decide) ?_
        refine lv_iadd hx hb dX4_placeOf_42 ?_
        obtain ⟨t10, ht10, hf⟩ := ob hf
        refine k_PVi hC LX4_83 ⟨Nat.le_of_ble_eq_true rfl, Nat.le_of_ble_eq_true rfl⟩ ⟨Nat.zero_le _, Nat.zero_le _⟩ (cR_ahead l E ad q0_wholes q0_onesAtBlocks q0_zeros q0_order q0_nextOrder q0_size a1 a2 (a4 + (8 : Int32)) t10 ht10) rfl rfl hP rfl rfl hl.1 rfl (Nat.le_of_ble_eq_true rfl) rfl dX4_placeOf_43 (fun hz43 => ?_)
        refine lv_iload_n hx hb dX4_placeOf_46 rfl (lv_at hl 3 rfl) ?_
        refine lv_icmp_gt (tgt := 56) hx hb dX4_placeOf_47 (by decide) (fun c11 => ?_) (fun c11 => ?_)
        · have hf := ite_t hf c11
          refine lv_iload_n hx hb dX4_placeOf_56 rfl (lv_at hl 3 rfl) ?_
          refine lv_aload_n hx hb dX4_placeOf_57 rfl (lv_at hl 0 rfl) ?_
          refine lv_iload_n hx hb dX4_placeOf_58 rfl (lv_at hl 1 rfl) ?_
          refine lv_iload_n hx hb dX4_placeOf_59 rfl (lv_at hl 2 rfl) ?_
          refine lv_iload hx hb dX4_placeOf_60 (lv_at hl 4 rfl) ?_
          obtain ⟨t12, ht12, hf⟩ := ob hf
          refine k_PVi hC LX4_83 ⟨Nat.le_of_ble_eq_true rfl, Nat.le_of_ble_eq_true rfl⟩ ⟨Nat.zero_le _, Nat.zero_le _⟩ (cR_ahead l E ad q0_wholes q0_onesAtBlocks q0_zeros q0_order q0_nextOrder q0_size a1 a2 a4 t12 ht12) rfl rfl hP rfl rfl hl.1 rfl (Nat.le_of_ble_eq_true rfl) rfl dX4_placeOf_62 (fun hz62 => ?_)
          refine lv_isub hx hb dX4_placeOf_65 ?_
          refine lv_istore (lv' := [(5, .int (a3 - t12)), (0, .ref (ad 0)), (1, .int a1), (2, .int a2), (3, .int a3), (4, .int a4)]) hx hb dX4_placeOf_66 hl (by decide) rfl (fun ls hl => ?_)
          refine lv_iload hx hb dX4_placeOf_68 (lv_at hl 5 rfl) ?_
          refine lv_istore (lv' := [(6, .int a4), (5, .int (a3 - t12)), (0, .ref (ad 0)), (1, .int a1), (2, .int a2), (3, .int a3), (4, .int a4)]) hx hb dX4_placeOf_70 hl (by decide) rfl (fun ls hl => ?_)
          exact L72 FU a1 a2 (a3 - t12) a4 ls (lv_sub hl [2, 3, 4, 1, 0] rfl) hf
        · have hf := ite_f hf c11
          refine lv_iinc (v := (a4 + (8 : Int32))) (lv' := [(4, .int (a4 + (8 : Int32))), (0, .ref (ad 0)), (1, .int a1), (2, .int a2), (3, .int a3)]) hx hb dX4_placeOf_50 hl (k := 4) rfl rfl (by decide) rfl (fun ls hl => ?_)
          refine lv_goto (tgt := 23) hx hb dX4_placeOf_53 (by decide) ?_
          exact ih a1 a2 a3 (a4 + (8 : Int32)) ls (lv_sub hl [1, 2, 3, 4, 0] rfl) hf
  rw [fR_placeOf] at hf
  refine lv_iload_n hx hb dX4_placeOf_0 rfl (lv_at hl 3 rfl) ?_
  refine lv_if_lt (tgt := 18) hx hb dX4_placeOf_1 (by decide) (fun c1 => ?_) (fun c1 => ?_)
  · have hf := ite_t hf c1
    refine lv_iconst (v := (-1)) hx hb dX4_placeOf_18 (by decide) ?_
    have hf := Option.some.inj hf
    exact e_Pi hC hr hlocks hf dX4_placeOf_19
  · have hf := ite_f hf c1
    refine lv_iload_n hx hb dX4_placeOf_4 rfl (lv_at hl 3 rfl) ?_
    refine lv_aload_n hx hb dX4_placeOf_5 rfl (lv_at hl 0 rfl) ?_
    refine lv_iload_n hx hb dX4_placeOf_6 rfl (lv_at hl 1 rfl) ?_
    refine lv_iload_n hx hb dX4_placeOf_7 rfl (lv_at hl 2 rfl) ?_
    refine lv_aload_n hx hb dX4_placeOf_8 rfl (lv_at hl 0 rfl) ?_
    refine gX4_36 hC hP 0 rfl (v := .int q0_size) rfl dX4_placeOf_9 ?_
    obtain ⟨t2, ht2, hf⟩ := ob hf
    refine k_PVi hC LX4_83 ⟨Nat.le_of_ble_eq_true rfl, Nat.le_of_ble_eq_true rfl⟩ ⟨Nat.zero_le _, Nat.zero_le _⟩ (cR_ahead l E ad q0_wholes q0_onesAtBlocks q0_zeros q0_order q0_nextOrder q0_size a1 a2 q0_size t2 ht2) rfl rfl hP rfl rfl hl.1 rfl (Nat.le_of_ble_eq_true rfl) rfl dX4_placeOf_12 (fun hz12 => ?_)
    refine lv_icmp_lt (tgt := 20) hx hb dX4_placeOf_15 (by decide) (fun c3 => ?_) (fun c3 => ?_)
    · have hf := ite_t hf c3
      refine lv_iconst (v := 0) hx hb dX4_placeOf_20 (by decide) ?_
      refine lv_istore (lv' := [(4, .int (0 : Int32)), (0, .ref (ad 0)), (1, .int a1), (2, .int a2), (3, .int a3)]) hx hb dX4_placeOf_21 hl (by decide) rfl (fun ls hl => ?_)
      exact L23 FU a1 a2 a3 (0 : Int32) ls (lv_sub hl [1, 2, 3, 4, 0] rfl) hf
    · have hf := ite_f hf c3
      refine lv_iconst (v := (-1)) hx hb dX4_placeOf_18 (by decide) ?_
      have hf := Option.some.inj hf
      exact e_Pi hC hr hlocks hf dX4_placeOf_19
abbrev rmR_zerosOf : Room := { frames := 1, cells := 0, slots := 0, locals := 20 }
set_option maxHeartbeats 4000000 in
set_option maxRecDepth 100000 in
theorem cR_zerosOf (l : Launch) (E : eE) (ad : Nat → Nat) (q0_wholes : (Nat → Int64)) (q0_onesAtBlocks : (Nat → Nat → Int32)) (q0_zeros : (Nat → Int32)) (q0_order : (Nat → Int32)) (q0_nextOrder : (Nat → Int32)) (q0_size : Int32) (a1 : Int32) (r : Int32) (hf : fR_zerosOf q0_zeros a1 = some r) : cP l E yX4_zerosOf cX4_zerosOf 2 (some .int) rmR_zerosOf [.ref (ad 0), .int a1] (wR E ad q0_wholes q0_onesAtBlocks q0_zeros q0_order q0_nextOrder q0_size) (some (.int r)) := by
  refine Met.ofW (cc := cX4_zerosOf) (maxL := 2) (ret := (some .int)) (by decide) rfl ?_
  intro p e s m args below meth c s₁ B hml hv
  obtain ⟨hargs, hP, hK⟩ := hv
  have hx := B.exec
  have hb := B.bytes
  have hr := B.returns
  have hts := atoms_spec (ws := ws_ yX4_zerosOf cX4_zerosOf 2 (some .int)) B.pre
  have hta : ∀ w ∈ lw_all, w.before args s = true := fun w h => hts w (List.mem_cons_of_mem _ h)
  have hown : s.vm.findClass RX4 = some m.cls := findClass_of_methodNamed B.named
  have hlocks := B.notSynchronized
  have hC : Cx p s m args c cX4_zerosOf 2 RX4 E := ⟨hx, hb, hml, hown, hta, hK⟩
  obtain ⟨ls, he, hl⟩ := entry_ (m := m) (n := 2) hargs (Nat.le_of_ble_eq_true rfl)
  rw [he]
  have hl : lv_has ls 2 [(0, .ref (ad 0)), (1, .int a1)] := hl
  show W p l e rmR_zerosOf s m args below meth c s.heap [] 0 0 (MQ below (qP (some .int) (some (.int r))) args s 0 0 (fun _ => False)) (F0 m 0 ls [])
  rw [fR_zerosOf] at hf
  refine lv_iload_n hx hb dX4_zerosOf_0 rfl (lv_at hl 1 rfl) ?_
  refine k_PSNi hC LX4_50 ⟨Nat.le_of_ble_eq_true rfl, Nat.le_of_ble_eq_true rfl⟩ ⟨Nat.zero_le _, Nat.zero_le _⟩ (cS_isRow l E a1 _ rfl) rfl rfl (vP_nil) hl.1 rfl (Nat.le_of_ble_eq_true rfl) rfl dX4_zerosOf_1 (fun hz1 => ?_)
  refine lv_if_eq (tgt := 16) hx hb dX4_zerosOf_4 (by decide) (fun c1 => ?_) (fun c1 => ?_)
  · have hf := ite_t hf c1
    refine lv_iconst (v := 0) hx hb dX4_zerosOf_16 (by decide) ?_
    have hf := Option.some.inj hf
    exact e_Pi hC hr hlocks hf dX4_zerosOf_17
  · have hf := ite_f hf c1
    refine lv_aload_n hx hb dX4_zerosOf_7 rfl (lv_at hl 0 rfl) ?_
    refine gX4_20 hC hP 0 rfl (v := .ref (ad 3)) rfl dX4_zerosOf_8 ?_
    refine lv_iload_n hx hb dX4_zerosOf_11 rfl (lv_at hl 1 rfl) ?_
    obtain ⟨v2, hv2, hf⟩ := ob hf
    obtain ⟨hv2a, hv2b⟩ := ldA_ok hv2
    refine a_ild hC hP 3 rfl hv2a hv2b dX4_zerosOf_12 ?_
    refine lv_goto (tgt := 17) hx hb dX4_zerosOf_13 (by decide) ?_
    have hf := Option.some.inj hf
    exact e_Pi hC hr hlocks hf dX4_zerosOf_17
abbrev rmR_down : Room := { frames := 2, cells := 0, slots := 0, locals := 48 }
set_option maxHeartbeats 4000000 in
set_option maxRecDepth 100000 in
theorem cR_down (l : Launch) (E : eE) (ad : Nat → Nat) (q0_wholes : (Nat → Int64)) (q0_onesAtBlocks : (Nat → Nat → Int32)) (q0_zeros : (Nat → Int32)) (q0_order : (Nat → Int32)) (q0_nextOrder : (Nat → Int32)) (q0_size : Int32) (a1 : Int32) (a2 : Int32) (a3 : Int32) (r : Int32) (hf : fR_down q0_wholes q0_onesAtBlocks q0_zeros q0_size a1 a2 a3 = some r) : cP l E yX4_down cX4_down 5 (some .int) rmR_down [.ref (ad 0), .int a1, .int a2, .int a3] (wR E ad q0_wholes q0_onesAtBlocks q0_zeros q0_order q0_nextOrder q0_size) (some (.int r)) := by
  refine Met.ofW (cc := cX4_down) (maxL := 5) (ret := (some .int)) (by decide) rfl ?_
  intro p e s m args below meth c s₁ B hml hv
  obtain ⟨hargs, hP, hK⟩ := hv
  have hx := B.exec
  have hb := B.bytes
  have hr := B.returns
  have hts := atoms_spec (ws := ws_ yX4_down cX4_down 5 (some .int)) B.pre
  have hta : ∀ w ∈ lw_all, w.before args s = true := fun w h => hts w (List.mem_cons_of_mem _ h)
  have hown : s.vm.findClass RX4 = some m.cls := findClass_of_methodNamed B.named
  have hlocks := B.notSynchronized
  have hC : Cx p s m args c cX4_down 5 RX4 E := ⟨hx, hb, hml, hown, hta, hK⟩
  obtain ⟨ls, he, hl⟩ := entry_ (m := m) (n := 5) hargs (Nat.le_of_ble_eq_true rfl)
  rw [he]
  have hl : lv_has ls 5 [(0, .ref (ad 0)), (1, .int a1), (2, .int a2), (3, .int a3)] := hl
  show W p l e rmR_down s m args below meth c s.heap [] 0 0 (MQ below (qP (some .int) (some (.int r))) args s 0 0 (fun _ => False)) (F0 m 0 ls [])
  rw [fR_down] at hf
  refine lv_aload_n hx hb dX4_down_0 rfl (lv_at hl 0 rfl) ?_
  refine lv_iload_n hx hb dX4_down_1 rfl (lv_at hl 1 rfl) ?_
  refine lv_iload_n hx hb dX4_down_2 rfl (lv_at hl 2 rfl) ?_
  refine lv_iload_n hx hb dX4_down_3 rfl (lv_at hl 3 rfl) ?_
  obtain ⟨t1, ht1, hf⟩ := ob hf
  refine k_PVi hC LX4_83 ⟨Nat.le_of_ble_eq_true rfl, Nat.le_of_ble_eq_true rfl⟩ ⟨Nat.zero_le _, Nat.zero_le _⟩ (cR_ahead l E ad q0_wholes q0_onesAtBlocks q0_zeros q0_order q0_nextOrder q0_size a1 a2 a3 t1 ht1) rfl rfl hP rfl rfl hl.1 rfl (Nat.le_of_ble_eq_true rfl) rfl dX4_down_4 (fun hz4 => ?_)
  refine lv_istore (lv' := [(4, .int t1), (0, .ref (ad 0)), (1, .int a1), (2, .int a2), (3, .int a3)]) hx hb dX4_down_7 hl (by decide) rfl (fun ls hl => ?_)
  refine lv_iload_n hx hb dX4_down_9 rfl (lv_at hl 3 rfl) ?_
  refine lv_if_eq (tgt := 24) hx hb dX4_down_10 (by decide) (fun c2 => ?_) (fun c2 => ?_)
  · have hf := ite_t hf c2
    refine lv_iload hx hb dX4_down_24 (lv_at hl 0 rfl) ?_
    have hf := Option.some.inj hf
    exact e_Pi hC hr hlocks hf dX4_down_26
  · have hf := ite_f hf c2
    refine lv_aload_n hx hb dX4_down_13 rfl (lv_at hl 1 rfl) ?_
    refine lv_iload_n hx hb dX4_down_14 rfl (lv_at hl 2 rfl) ?_
    obtain ⟨t3, ht3, hf⟩ := ob hf
    refine k_PVi hC LX4_86 ⟨Nat.le_of_ble_eq_true rfl, Nat.le_of_ble_eq_true rfl⟩ ⟨Nat.zero_le _, Nat.zero_le _⟩ (cR_zerosOf l E ad q0_wholes q0_onesAtBlocks q0_zeros q0_order q0_nextOrder q0_size a1 t3 ht3) rfl rfl hP rfl rfl hl.1 rfl (Nat.le_of_ble_eq_true rfl) rfl dX4_down_15 (fun hz15 => ?_)
    refine lv_iload hx hb dX4_down_18 (lv_at hl 0 rfl) ?_
    refine lv_iadd hx hb dX4_down_20 ?_
    refine lv_goto (tgt := 26) hx hb dX4_down_21 (by decide) ?_
    have hf := Option.some.inj hf
    exact e_Pi hC hr hlocks hf dX4_down_26
abbrev rmR_placeDownTo : Room := { frames := 3, cells := 0, slots := 0, locals := 72 }
set_option maxHeartbeats 4000000 in
set_option maxRecDepth 100000 in
theorem cR_placeDownTo (l : Launch) (E : eE) (ad : Nat → Nat) (q0_wholes : (Nat → Int64)) (q0_onesAtBlocks : (Nat → Nat → Int32)) (q0_zeros : (Nat → Int32)) (q0_order : (Nat → Int32)) (q0_nextOrder : (Nat → Int32)) (q0_size : Int32) (a1 : Int32) (a2 : Int32) (r : Int32) (hf : fR_placeDownTo q0_wholes q0_onesAtBlocks q0_zeros q0_size a1 a2 = some r) : cP l E yX4_placeDownTo cX4_placeDownTo 5 (some .int) rmR_placeDownTo [.ref (ad 0), .int a1, .int a2] (wR E ad q0_wholes q0_onesAtBlocks q0_zeros q0_order q0_nextOrder q0_size) (some (.int r)) := by
  refine Met.ofW (cc := cX4_placeDownTo) (maxL := 5) (ret := (some .int)) (by decide) rfl ?_
  intro p e s m args below meth c s₁ B hml hv
  obtain ⟨hargs, hP, hK⟩ := hv
  have hx := B.exec
  have hb := B.bytes
  have hr := B.returns
  have hts := atoms_spec (ws := ws_ yX4_placeDownTo cX4_placeDownTo 5 (some .int)) B.pre
  have hta : ∀ w ∈ lw_all, w.before args s = true := fun w h => hts w (List.mem_cons_of_mem _ h)
  have hown : s.vm.findClass RX4 = some m.cls := findClass_of_methodNamed B.named
  have hlocks := B.notSynchronized
  have hC : Cx p s m args c cX4_placeDownTo 5 RX4 E := ⟨hx, hb, hml, hown, hta, hK⟩
  obtain ⟨ls, he, hl⟩ := entry_ (m := m) (n := 5) hargs (Nat.le_of_ble_eq_true rfl)
  rw [he]
  have hl : lv_has ls 5 [(0, .ref (ad 0)), (1, .int a1), (2, .int a2)] := hl
  show W p l e rmR_placeDownTo s m args below meth c s.heap [] 0 0 (MQ below (qP (some .int) (some (.int r))) args s 0 0 (fun _ => False)) (F0 m 0 ls [])
  have L5 : ∀ (n : Nat) (a1 : Int32) (a3 : Int32) (a4 : Int32) (ls : Array Slot), lv_has ls 5 [(0, .ref (ad 0)), (1, .int a1), (3, .int a3), (4, .int a4)] → fR_placeDownTo_5 n q0_wholes q0_onesAtBlocks q0_zeros q0_size a1 a3 a4 = some r → W p l e rmR_placeDownTo s m args below meth c s.heap [] 0 0 (MQ below (qP (some .int) (some (.int r))) args s 0 0 (fun _ => False)) (F0 m 5 ls []) := by
    intro n
    induction n with
    | zero => intro a1 a3 a4 ls hl hf; cases hf
    | succ n ih =>
      intro a1 a3 a4 ls hl hf
      rw [fR_placeDownTo_5] at hf
      refine lv_iload hx hb dX4_placeDownTo_5 (lv_at hl 3 rfl) ?_
      refine lv_iload_n hx hb dX4_placeDownTo_7 rfl (lv_at hl 1 rfl) ?_
      refine lv_icmp_ge (tgt := 47) hx hb dX4_placeDownTo_8 (by decide) (fun c1 => ?_) (fun c1 => ?_)
      · have hf := ite_t hf c1
        refine lv_iload_n hx hb dX4_placeDownTo_47 rfl (lv_at hl 2 rfl) ?_
        have hf := Option.some.inj hf
        exact e_Pi hC hr hlocks hf dX4_placeDownTo_48
      · have hf := ite_f hf c1
        refine lv_iload hx hb dX4_placeDownTo_11 (lv_at hl 3 rfl) ?_
        refine lv_iconst (v := 5) hx hb dX4_placeDownTo_13 (by decide) ?_
        refine lv_icmp_ge (tgt := 47) hx hb dX4_placeDownTo_14 (by decide) (fun c2 => ?_) (fun c2 => ?_)
        · have hf := ite_t hf c2
          refine lv_iload_n hx hb dX4_placeDownTo_47 rfl (lv_at hl 2 rfl) ?_
          have hf := Option.some.inj hf
          exact e_Pi hC hr hlocks hf dX4_placeDownTo_48
        · have hf := ite_f hf c2
          refine lv_aload_n hx hb dX4_placeDownTo_17 rfl (lv_at hl 0 rfl) ?_
          refine lv_iload hx hb dX4_placeDownTo_18 (lv_at hl 3 rfl) ?_
          refine lv_aload_n hx hb dX4_placeDownTo_20 rfl (lv_at hl 0 rfl) ?_
          refine lv_iload hx hb dX4_placeDownTo_21 (lv_at hl 3 rfl) ?_
          refine lv_iload_n hx hb dX4_placeDownTo_23 rfl (lv_at hl 2 rfl) ?_
          obtain ⟨t3, ht3, hf⟩ := ob hf
          refine k_PVi hC LX4_79 ⟨Nat.le_of_ble_eq_true rfl, Nat.le_of_ble_eq_true rfl⟩ ⟨Nat.zero_le _, Nat.zero_le _⟩ (cR_bitAt l E ad q0_wholes q0_onesAtBlocks q0_zeros q0_order q0_nextOrder q0_size a4 a3 t3 ht3) rfl rfl hP rfl rfl hl.1 rfl (Nat.le_of_ble_eq_true rfl) rfl dX4_placeDownTo_24 (fun hz24 => ?_)
          refine lv_iconst (v := 1) hx hb dX4_placeDownTo_27 (by decide) ?_
          refine lv_icmp_ne (tgt := 35) hx hb dX4_placeDownTo_28 (by decide) (fun c4 => ?_) (fun c4 => ?_)
          · have hf := ite_f hf c4
            refine lv_iconst (v := 0) hx hb dX4_placeDownTo_35 (by decide) ?_
            refine lv_iload_n hx hb dX4_placeDownTo_36 rfl (lv_at hl 2 rfl) ?_
            obtain ⟨t5, ht5, hf⟩ := ob hf
            refine k_PVi hC LX4_89 ⟨Nat.le_of_ble_eq_true rfl, Nat.le_of_ble_eq_true rfl⟩ ⟨Nat.zero_le _, Nat.zero_le _⟩ (cR_down l E ad q0_wholes q0_onesAtBlocks q0_zeros q0_order q0_nextOrder q0_size a4 (0 : Int32) a3 t5 ht5) rfl rfl hP rfl rfl hl.1 rfl (Nat.le_of_ble_eq_true rfl) rfl dX4_placeDownTo_37 (fun hz37 => ?_)
            refine lv_istore_n (lv' := [(3, .int t5), (0, .ref (ad 0)), (1, .int a1), (4, .int a4)]) hx hb dX4_placeDownTo_40 rfl hl (by decide) rfl (fun ls hl => ?_)
            refine lv_iinc (v := (a4 + (1 : Int32))) (lv' := [(4, .int (a4 + (1 : Int32))), (3, .int t5), (0, .ref (ad 0)), (1, .int a1)]) hx hb dX4_placeDownTo_41 hl (k := 3) rfl rfl (by decide) rfl (fun ls hl => ?_)
            refine lv_goto (tgt := 5) hx hb dX4_placeDownTo_44 (by decide) ?_
            exact ih a1 t5 (a4 + (1 : Int32)) ls (lv_sub hl [2, 3, 1, 0] rfl) hf
          · have hf := ite_t hf c4
            refine lv_iconst (v := 1) hx hb dX4_placeDownTo_31 (by decide) ?_
            refine lv_goto (tgt := 36) hx hb dX4_placeDownTo_32 (by decide) ?_
            refine lv_iload_n hx hb dX4_placeDownTo_36 rfl (lv_at hl 2 rfl) ?_
            obtain ⟨t6, ht6, hf⟩ := ob hf
            refine k_PVi hC LX4_89 ⟨Nat.le_of_ble_eq_true rfl, Nat.le_of_ble_eq_true rfl⟩ ⟨Nat.zero_le _, Nat.zero_le _⟩ (cR_down l E ad q0_wholes q0_onesAtBlocks q0_zeros q0_order q0_nextOrder q0_size a4 (1 : Int32) a3 t6 ht6) rfl rfl hP rfl rfl hl.1 rfl (Nat.le_of_ble_eq_true rfl) rfl dX4_placeDownTo_37 (fun hz37 => ?_)
            refine lv_istore_n (lv' := [(3, .int t6), (0, .ref (ad 0)), (1, .int a1), (4, .int a4)]) hx hb dX4_placeDownTo_40 rfl hl (by decide) rfl (fun ls hl => ?_)
            refine lv_iinc (v := (a4 + (1 : Int32))) (lv' := [(4, .int (a4 + (1 : Int32))), (3, .int t6), (0, .ref (ad 0)), (1, .int a1)]) hx hb dX4_placeDownTo_41 hl (k := 3) rfl rfl (by decide) rfl (fun ls hl => ?_)
            refine lv_goto (tgt := 5) hx hb dX4_placeDownTo_44 (by decide) ?_
            exact ih a1 t6 (a4 + (1 : Int32)) ls (lv_sub hl [2, 3, 1, 0] rfl) hf
  rw [fR_placeDownTo] at hf
  refine lv_iload_n hx hb dX4_placeDownTo_0 rfl (lv_at hl 2 rfl) ?_
  refine lv_istore_n (lv' := [(3, .int a2), (0, .ref (ad 0)), (1, .int a1), (2, .int a2)]) hx hb dX4_placeDownTo_1 rfl hl (by decide) rfl (fun ls hl => ?_)
  refine lv_iconst (v := 0) hx hb dX4_placeDownTo_2 (by decide) ?_
  refine lv_istore (lv' := [(4, .int (0 : Int32)), (3, .int a2), (0, .ref (ad 0)), (1, .int a1), (2, .int a2)]) hx hb dX4_placeDownTo_3 hl (by decide) rfl (fun ls hl => ?_)
  exact L5 FU a1 a2 (0 : Int32) ls (lv_sub hl [2, 3, 1, 0] rfl) hf
abbrev rmR_weightOf : Room := { frames := 3, cells := 0, slots := 0, locals := 72 }
set_option maxHeartbeats 4000000 in
set_option maxRecDepth 100000 in
theorem cR_weightOf (l : Launch) (E : eE) (ad : Nat → Nat) (q0_wholes : (Nat → Int64)) (q0_onesAtBlocks : (Nat → Nat → Int32)) (q0_zeros : (Nat → Int32)) (q0_order : (Nat → Int32)) (q0_nextOrder : (Nat → Int32)) (q0_size : Int32) (a1 : Int32) (r : Int32) (hf : fR_weightOf q0_wholes q0_onesAtBlocks q0_zeros q0_size a1 = some r) : cP l E yX4_weightOf cX4_weightOf 6 (some .int) rmR_weightOf [.ref (ad 0), .int a1] (wR E ad q0_wholes q0_onesAtBlocks q0_zeros q0_order q0_nextOrder q0_size) (some (.int r)) := by
  refine Met.ofW (cc := cX4_weightOf) (maxL := 6) (ret := (some .int)) (by decide) rfl ?_
  intro p e s m args below meth c s₁ B hml hv
  obtain ⟨hargs, hP, hK⟩ := hv
  have hx := B.exec
  have hb := B.bytes
  have hr := B.returns
  have hts := atoms_spec (ws := ws_ yX4_weightOf cX4_weightOf 6 (some .int)) B.pre
  have hta : ∀ w ∈ lw_all, w.before args s = true := fun w h => hts w (List.mem_cons_of_mem _ h)
  have hown : s.vm.findClass RX4 = some m.cls := findClass_of_methodNamed B.named
  have hlocks := B.notSynchronized
  have hC : Cx p s m args c cX4_weightOf 6 RX4 E := ⟨hx, hb, hml, hown, hta, hK⟩
  obtain ⟨ls, he, hl⟩ := entry_ (m := m) (n := 6) hargs (Nat.le_of_ble_eq_true rfl)
  rw [he]
  have hl : lv_has ls 6 [(0, .ref (ad 0)), (1, .int a1)] := hl
  show W p l e rmR_weightOf s m args below meth c s.heap [] 0 0 (MQ below (qP (some .int) (some (.int r))) args s 0 0 (fun _ => False)) (F0 m 0 ls [])
  have L7 : ∀ (n : Nat) (a2 : Int32) (a3 : Int32) (a4 : Int32) (ls : Array Slot), lv_has ls 6 [(0, .ref (ad 0)), (2, .int a2), (3, .int a3), (4, .int a4)] → fR_weightOf_7 n q0_wholes q0_onesAtBlocks q0_zeros q0_size a2 a3 a4 = some r → W p l e rmR_weightOf s m args below meth c s.heap [] 0 0 (MQ below (qP (some .int) (some (.int r))) args s 0 0 (fun _ => False)) (F0 m 7 ls []) := by
    intro n
    induction n with
    | zero => intro a2 a3 a4 ls hl hf; cases hf
    | succ n ih =>
      intro a2 a3 a4 ls hl hf
      rw [fR_weightOf_7] at hf
      refine lv_iload hx hb dX4_weightOf_7 (lv_at hl 3 rfl) ?_
      refine lv_iconst (v := 5) hx hb dX4_weightOf_9 (by decide) ?_
      refine lv_icmp_ge (tgt := 54) hx hb dX4_weightOf_10 (by decide) (fun c1 => ?_) (fun c1 => ?_)
      · have hf := ite_t hf c1
        refine lv_iload_n hx hb dX4_weightOf_54 rfl (lv_at hl 1 rfl) ?_
        have hf := Option.some.inj hf
        exact e_Pi hC hr hlocks hf dX4_weightOf_55
      · have hf := ite_f hf c1
        refine lv_aload_n hx hb dX4_weightOf_13 rfl (lv_at hl 0 rfl) ?_
        refine lv_iload hx hb dX4_weightOf_14 (lv_at hl 3 rfl) ?_
        refine lv_iload_n hx hb dX4_weightOf_16 rfl (lv_at hl 2 rfl) ?_
        obtain ⟨t2, ht2, hf⟩ := ob hf
        refine k_PVi hC LX4_79 ⟨Nat.le_of_ble_eq_true rfl, Nat.le_of_ble_eq_true rfl⟩ ⟨Nat.zero_le _, Nat.zero_le _⟩ (cR_bitAt l E ad q0_wholes q0_onesAtBlocks q0_zeros q0_order q0_nextOrder q0_size a4 a3 t2 ht2) rfl rfl hP rfl rfl hl.1 rfl (Nat.le_of_ble_eq_true rfl) rfl dX4_weightOf_17 (fun hz17 => ?_)
        refine lv_istore (lv' := [(5, .int t2), (0, .ref (ad 0)), (2, .int a2), (3, .int a3), (4, .int a4)]) hx hb dX4_weightOf_20 hl (by decide) rfl (fun ls hl => ?_)
        refine lv_iload_n hx hb dX4_weightOf_22 rfl (lv_at hl 2 rfl) ?_
        refine lv_iconst (v := 2) hx hb dX4_weightOf_23 (by decide) ?_
        refine lv_imul hx hb dX4_weightOf_24 ?_
        refine lv_iload hx hb dX4_weightOf_25 (lv_at hl 0 rfl) ?_
        refine lv_iadd hx hb dX4_weightOf_27 ?_
        refine lv_istore_n (lv' := [(2, .int ((a2 * (2 : Int32)) + t2)), (5, .int t2), (0, .ref (ad 0)), (3, .int a3), (4, .int a4)]) hx hb dX4_weightOf_28 rfl hl (by decide) rfl (fun ls hl => ?_)
        refine lv_aload_n hx hb dX4_weightOf_29 rfl (lv_at hl 2 rfl) ?_
        refine lv_iload hx hb dX4_weightOf_30 (lv_at hl 4 rfl) ?_
        refine lv_iload hx hb dX4_weightOf_32 (lv_at hl 1 rfl) ?_
        refine lv_iconst (v := 1) hx hb dX4_weightOf_34 (by decide) ?_
        refine lv_icmp_ne (tgt := 42) hx hb dX4_weightOf_35 (by decide) (fun c3 => ?_) (fun c3 => ?_)
        · have hf := ite_f hf c3
          refine lv_iconst (v := 0) hx hb dX4_weightOf_42 (by decide) ?_
          refine lv_iload_n hx hb dX4_weightOf_43 rfl (lv_at hl 3 rfl) ?_
          obtain ⟨t4, ht4, hf⟩ := ob hf
          refine k_PVi hC LX4_89 ⟨Nat.le_of_ble_eq_true rfl, Nat.le_of_ble_eq_true rfl⟩ ⟨Nat.zero_le _, Nat.zero_le _⟩ (cR_down l E ad q0_wholes q0_onesAtBlocks q0_zeros q0_order q0_nextOrder q0_size a4 (0 : Int32) a3 t4 ht4) rfl rfl hP rfl rfl hl.1 rfl (Nat.le_of_ble_eq_true rfl) rfl dX4_weightOf_44 (fun hz44 => ?_)
          refine lv_istore_n (lv' := [(3, .int t4), (2, .int ((a2 * (2 : Int32)) + t2)), (5, .int t2), (0, .ref (ad 0)), (4, .int a4)]) hx hb dX4_weightOf_47 rfl hl (by decide) rfl (fun ls hl => ?_)
          refine lv_iinc (v := (a4 + (1 : Int32))) (lv' := [(4, .int (a4 + (1 : Int32))), (3, .int t4), (2, .int ((a2 * (2 : Int32)) + t2)), (5, .int t2), (0, .ref (ad 0))]) hx hb dX4_weightOf_48 hl (k := 4) rfl rfl (by decide) rfl (fun ls hl => ?_)
          refine lv_goto (tgt := 7) hx hb dX4_weightOf_51 (by decide) ?_
          exact ih ((a2 * (2 : Int32)) + t2) t4 (a4 + (1 : Int32)) ls (lv_sub hl [4, 2, 1, 0] rfl) hf
        · have hf := ite_t hf c3
          refine lv_iconst (v := 1) hx hb dX4_weightOf_38 (by decide) ?_
          refine lv_goto (tgt := 43) hx hb dX4_weightOf_39 (by decide) ?_
          refine lv_iload_n hx hb dX4_weightOf_43 rfl (lv_at hl 3 rfl) ?_
          obtain ⟨t5, ht5, hf⟩ := ob hf
          refine k_PVi hC LX4_89 ⟨Nat.le_of_ble_eq_true rfl, Nat.le_of_ble_eq_true rfl⟩ ⟨Nat.zero_le _, Nat.zero_le _⟩ (cR_down l E ad q0_wholes q0_onesAtBlocks q0_zeros q0_order q0_nextOrder q0_size a4 (1 : Int32) a3 t5 ht5) rfl rfl hP rfl rfl hl.1 rfl (Nat.le_of_ble_eq_true rfl) rfl dX4_weightOf_44 (fun hz44 => ?_)
          refine lv_istore_n (lv' := [(3, .int t5), (2, .int ((a2 * (2 : Int32)) + t2)), (5, .int t2), (0, .ref (ad 0)), (4, .int a4)]) hx hb dX4_weightOf_47 rfl hl (by decide) rfl (fun ls hl => ?_)
          refine lv_iinc (v := (a4 + (1 : Int32))) (lv' := [(4, .int (a4 + (1 : Int32))), (3, .int t5), (2, .int ((a2 * (2 : Int32)) + t2)), (5, .int t2), (0, .ref (ad 0))]) hx hb dX4_weightOf_48 hl (k := 4) rfl rfl (by decide) rfl (fun ls hl => ?_)
          refine lv_goto (tgt := 7) hx hb dX4_weightOf_51 (by decide) ?_
          exact ih ((a2 * (2 : Int32)) + t2) t5 (a4 + (1 : Int32)) ls (lv_sub hl [4, 2, 1, 0] rfl) hf
  rw [fR_weightOf] at hf
  refine lv_iconst (v := 0) hx hb dX4_weightOf_0 (by decide) ?_
  refine lv_istore_n (lv' := [(2, .int (0 : Int32)), (0, .ref (ad 0)), (1, .int a1)]) hx hb dX4_weightOf_1 rfl hl (by decide) rfl (fun ls hl => ?_)
  refine lv_iload_n hx hb dX4_weightOf_2 rfl (lv_at hl 2 rfl) ?_
  refine lv_istore_n (lv' := [(3, .int a1), (2, .int (0 : Int32)), (0, .ref (ad 0)), (1, .int a1)]) hx hb dX4_weightOf_3 rfl hl (by decide) rfl (fun ls hl => ?_)
  refine lv_iconst (v := 0) hx hb dX4_weightOf_4 (by decide) ?_
  refine lv_istore (lv' := [(4, .int (0 : Int32)), (3, .int a1), (2, .int (0 : Int32)), (0, .ref (ad 0)), (1, .int a1)]) hx hb dX4_weightOf_5 hl (by decide) rfl (fun ls hl => ?_)
  exact L7 FU (0 : Int32) a1 (0 : Int32) ls (lv_sub hl [3, 2, 1, 0] rfl) hf
abbrev rmR_weightBySize : Room := { frames := 3, cells := 0, slots := 0, locals := 72 }
set_option maxHeartbeats 4000000 in
set_option maxRecDepth 100000 in
theorem cR_weightBySize (l : Launch) (E : eE) (ad : Nat → Nat) (q0_wholes : (Nat → Int64)) (q0_onesAtBlocks : (Nat → Nat → Int32)) (q0_zeros : (Nat → Int32)) (q0_order : (Nat → Int32)) (q0_nextOrder : (Nat → Int32)) (q0_size : Int32) (a1 : Int32) (a2 : Int32) (a3 : Int32) (r : Int32) (hf : fR_weightBySize q0_wholes q0_onesAtBlocks q0_zeros q0_size a1 a2 a3 = some r) : cP l E yX4_weightBySize cX4_weightBySize 11 (some .int) rmR_weightBySize [.ref (ad 0), .int a1, .int a2, .int a3] (wR E ad q0_wholes q0_onesAtBlocks q0_zeros q0_order q0_nextOrder q0_size) (some (.int r)) := by
  refine Met.ofW (cc := cX4_weightBySize) (maxL := 11) (ret := (some .int)) (by decide) rfl ?_
  intro p e s m args below meth c s₁ B hml hv
  obtain ⟨hargs, hP, hK⟩ := hv
  have hx := B.exec
  have hb := B.bytes
  have hr := B.returns
  have hts := atoms_spec (ws := ws_ yX4_weightBySize cX4_weightBySize 11 (some .int)) B.pre
  have hta : ∀ w ∈ lw_all, w.before args s = true := fun w h => hts w (List.mem_cons_of_mem _ h)
  have hown : s.vm.findClass RX4 = some m.cls := findClass_of_methodNamed B.named
  have hlocks := B.notSynchronized
  have hC : Cx p s m args c cX4_weightBySize 11 RX4 E := ⟨hx, hb, hml, hown, hta, hK⟩
  obtain ⟨ls, he, hl⟩ := entry_ (m := m) (n := 11) hargs (Nat.le_of_ble_eq_true rfl)
  rw [he]
  have hl : lv_has ls 11 [(0, .ref (ad 0)), (1, .int a1), (2, .int a2), (3, .int a3)] := hl
  show W p l e rmR_weightBySize s m args below meth c s.heap [] 0 0 (MQ below (qP (some .int) (some (.int r))) args s 0 0 (fun _ => False)) (F0 m 0 ls [])
  have L15 : ∀ (n : Nat) (a4 : Int32) (a5 : Int32) (a6 : Int32) (a7 : Int32) (a8 : Int32) (ls : Array Slot), lv_has ls 11 [(0, .ref (ad 0)), (4, .int a4), (5, .int a5), (6, .int a6), (7, .int a7), (8, .int a8)] → fR_weightBySize_15 n q0_wholes q0_onesAtBlocks q0_zeros q0_size a4 a5 a6 a7 a8 = some r → W p l e rmR_weightBySize s m args below meth c s.heap [] 0 0 (MQ below (qP (some .int) (some (.int r))) args s 0 0 (fun _ => False)) (F0 m 15 ls []) := by
    intro n
    induction n with
    | zero => intro a4 a5 a6 a7 a8 ls hl hf; cases hf
    | succ n ih =>
      intro a4 a5 a6 a7 a8 ls hl hf
      rw [fR_weightBySize_15] at hf
      refine lv_iload hx hb dX4_weightBySize_15 (lv_at hl 5 rfl) ?_
      refine lv_iconst (v := 5) hx hb dX4_weightBySize_17 (by decide) ?_
      refine lv_icmp_ge (tgt := 119) hx hb dX4_weightBySize_18 (by decide) (fun c1 => ?_) (fun c1 => ?_)
      · have hf := ite_t hf c1
        refine lv_iload hx hb dX4_weightBySize_119 (lv_at hl 1 rfl) ?_
        have hf := Option.some.inj hf
        exact e_Pi hC hr hlocks hf dX4_weightBySize_121
      · have hf := ite_f hf c1
        refine lv_aload_n hx hb dX4_weightBySize_21 rfl (lv_at hl 0 rfl) ?_
        refine lv_iload hx hb dX4_weightBySize_22 (lv_at hl 5 rfl) ?_
        refine lv_iconst (v := 0) hx hb dX4_weightBySize_24 (by decide) ?_
        refine lv_iload hx hb dX4_weightBySize_25 (lv_at hl 3 rfl) ?_
        obtain ⟨t2, ht2, hf⟩ := ob hf
        refine k_PVi hC LX4_83 ⟨Nat.le_of_ble_eq_true rfl, Nat.le_of_ble_eq_true rfl⟩ ⟨Nat.zero_le _, Nat.zero_le _⟩ (cR_ahead l E ad q0_wholes q0_onesAtBlocks q0_zeros q0_order q0_nextOrder q0_size a8 (0 : Int32) a6 t2 ht2) rfl rfl hP rfl rfl hl.1 rfl (Nat.le_of_ble_eq_true rfl) rfl dX4_weightBySize_27 (fun hz27 => ?_)
        refine lv_aload_n hx hb dX4_weightBySize_30 rfl (lv_at hl 0 rfl) ?_
        refine lv_iload hx hb dX4_weightBySize_31 (lv_at hl 5 rfl) ?_
        refine lv_iconst (v := 0) hx hb dX4_weightBySize_33 (by decide) ?_
        refine lv_iload hx hb dX4_weightBySize_34 (lv_at hl 2 rfl) ?_
        obtain ⟨t3, ht3, hf⟩ := ob hf
        refine k_PVi hC LX4_83 ⟨Nat.le_of_ble_eq_true rfl, Nat.le_of_ble_eq_true rfl⟩ ⟨Nat.zero_le _, Nat.zero_le _⟩ (cR_ahead l E ad q0_wholes q0_onesAtBlocks q0_zeros q0_order q0_nextOrder q0_size a8 (0 : Int32) a5 t3 ht3) rfl rfl hP rfl rfl hl.1 rfl (Nat.le_of_ble_eq_true rfl) rfl dX4_weightBySize_36 (fun hz36 => ?_)
        refine lv_isub hx hb dX4_weightBySize_39 ?_
        refine lv_istore (lv' := [(9, .int (t2 - t3)), (0, .ref (ad 0)), (4, .int a4), (5, .int a5), (6, .int a6), (7, .int a7), (8, .int a8)]) hx hb dX4_weightBySize_40 hl (by decide) rfl (fun ls hl => ?_)
        refine lv_iload hx hb dX4_weightBySize_42 (lv_at hl 5 rfl) ?_
        refine lv_iload hx hb dX4_weightBySize_44 (lv_at hl 0 rfl) ?_
        refine lv_icmp_lt (tgt := 53) hx hb dX4_weightBySize_46 (by decide) (fun c4 => ?_) (fun c4 => ?_)
        · have hf := ite_t hf c4
          refine lv_iconst (v := 0) hx hb dX4_weightBySize_53 (by decide) ?_
          refine lv_istore (lv' := [(10, .int (0 : Int32)), (9, .int (t2 - t3)), (0, .ref (ad 0)), (4, .int a4), (5, .int a5), (6, .int a6), (7, .int a7), (8, .int a8)]) hx hb dX4_weightBySize_54 hl (by decide) rfl (fun ls hl => ?_)
          refine lv_iload hx hb dX4_weightBySize_56 (lv_at hl 6 rfl) ?_
          refine lv_iload hx hb dX4_weightBySize_58 (lv_at hl 0 rfl) ?_
          refine lv_if_eq (tgt := 68) hx hb dX4_weightBySize_60 (by decide) (fun _ => ?_) (fun c => absurd c (by decide))
          refine lv_iconst (v := 0) hx hb dX4_weightBySize_68 (by decide) ?_
          refine lv_isub hx hb dX4_weightBySize_69 ?_
          refine lv_istore (lv' := [(7, .int (a7 - (0 : Int32))), (10, .int (0 : Int32)), (9, .int (t2 - t3)), (0, .ref (ad 0)), (4, .int a4), (5, .int a5), (6, .int a6), (8, .int a8)]) hx hb dX4_weightBySize_70 hl (by decide) rfl (fun ls hl => ?_)
          refine lv_iload hx hb dX4_weightBySize_72 (lv_at hl 4 rfl) ?_
          refine lv_iconst (v := 2) hx hb dX4_weightBySize_74 (by decide) ?_
          refine lv_imul hx hb dX4_weightBySize_75 ?_
          refine lv_iload hx hb dX4_weightBySize_76 (lv_at hl 1 rfl) ?_
          refine lv_if_eq (tgt := 85) hx hb dX4_weightBySize_78 (by decide) (fun _ => ?_) (fun c => absurd c (by decide))
          refine lv_iconst (v := 0) hx hb dX4_weightBySize_85 (by decide) ?_
          refine lv_iadd hx hb dX4_weightBySize_86 ?_
          refine lv_istore (lv' := [(4, .int ((a4 * (2 : Int32)) + (0 : Int32))), (7, .int (a7 - (0 : Int32))), (10, .int (0 : Int32)), (9, .int (t2 - t3)), (0, .ref (ad 0)), (5, .int a5), (6, .int a6), (8, .int a8)]) hx hb dX4_weightBySize_87 hl (by decide) rfl (fun ls hl => ?_)
          refine lv_aload_n hx hb dX4_weightBySize_89 rfl (lv_at hl 4 rfl) ?_
          refine lv_iload hx hb dX4_weightBySize_90 (lv_at hl 7 rfl) ?_
          refine lv_iload hx hb dX4_weightBySize_92 (lv_at hl 2 rfl) ?_
          refine lv_iload hx hb dX4_weightBySize_94 (lv_at hl 5 rfl) ?_
          obtain ⟨t5, ht5, hf⟩ := ob hf
          refine k_PVi hC LX4_89 ⟨Nat.le_of_ble_eq_true rfl, Nat.le_of_ble_eq_true rfl⟩ ⟨Nat.zero_le _, Nat.zero_le _⟩ (cR_down l E ad q0_wholes q0_onesAtBlocks q0_zeros q0_order q0_nextOrder q0_size a8 (0 : Int32) a5 t5 ht5) rfl rfl hP rfl rfl hl.1 rfl (Nat.le_of_ble_eq_true rfl) rfl dX4_weightBySize_96 (fun hz96 => ?_)
          refine lv_istore (lv' := [(5, .int t5), (4, .int ((a4 * (2 : Int32)) + (0 : Int32))), (7, .int (a7 - (0 : Int32))), (10, .int (0 : Int32)), (9, .int (t2 - t3)), (0, .ref (ad 0)), (6, .int a6), (8, .int a8)]) hx hb dX4_weightBySize_99 hl (by decide) rfl (fun ls hl => ?_)
          refine lv_aload_n hx hb dX4_weightBySize_101 rfl (lv_at hl 5 rfl) ?_
          refine lv_iload hx hb dX4_weightBySize_102 (lv_at hl 7 rfl) ?_
          refine lv_iload hx hb dX4_weightBySize_104 (lv_at hl 3 rfl) ?_
          refine lv_iload hx hb dX4_weightBySize_106 (lv_at hl 6 rfl) ?_
          obtain ⟨t6, ht6, hf⟩ := ob hf
          refine k_PVi hC LX4_89 ⟨Nat.le_of_ble_eq_true rfl, Nat.le_of_ble_eq_true rfl⟩ ⟨Nat.zero_le _, Nat.zero_le _⟩ (cR_down l E ad q0_wholes q0_onesAtBlocks q0_zeros q0_order q0_nextOrder q0_size a8 (0 : Int32) a6 t6 ht6) rfl rfl hP rfl rfl hl.1 rfl (Nat.le_of_ble_eq_true rfl) rfl dX4_weightBySize_108 (fun hz108 => ?_)
          refine lv_istore (lv' := [(6, .int t6), (5, .int t5), (4, .int ((a4 * (2 : Int32)) + (0 : Int32))), (7, .int (a7 - (0 : Int32))), (10, .int (0 : Int32)), (9, .int (t2 - t3)), (0, .ref (ad 0)), (8, .int a8)]) hx hb dX4_weightBySize_111 hl (by decide) rfl (fun ls hl => ?_)
          refine lv_iinc (v := (a8 + (1 : Int32))) (lv' := [(8, .int (a8 + (1 : Int32))), (6, .int t6), (5, .int t5), (4, .int ((a4 * (2 : Int32)) + (0 : Int32))), (7, .int (a7 - (0 : Int32))), (10, .int (0 : Int32)), (9, .int (t2 - t3)), (0, .ref (ad 0))]) hx hb dX4_weightBySize_113 hl (k := 7) rfl rfl (by decide) rfl (fun ls hl => ?_)
          refine lv_goto (tgt := 15) hx hb dX4_weightBySize_116 (by decide) ?_
          exact ih ((a4 * (2 : Int32)) + (0 : Int32)) t5 t6 (a7 - (0 : Int32)) (a8 + (1 : Int32)) ls (lv_sub hl [7, 3, 2, 1, 4, 0] rfl) hf
        · have hf := ite_f hf c4
          refine lv_iconst (v := 1) hx hb dX4_weightBySize_49 (by decide) ?_
          refine lv_goto (tgt := 54) hx hb dX4_weightBySize_50 (by decide) ?_
          refine lv_istore (lv' := [(10, .int (1 : Int32)), (9, .int (t2 - t3)), (0, .ref (ad 0)), (4, .int a4), (5, .int a5), (6, .int a6), (7, .int a7), (8, .int a8)]) hx hb dX4_weightBySize_54 hl (by decide) rfl (fun ls hl => ?_)
          refine lv_iload hx hb dX4_weightBySize_56 (lv_at hl 6 rfl) ?_
          refine lv_iload hx hb dX4_weightBySize_58 (lv_at hl 0 rfl) ?_
          refine lv_if_eq (tgt := 68) hx hb dX4_weightBySize_60 (by decide) (fun c => absurd c (by decide)) (fun _ => ?_)
          refine lv_iload hx hb dX4_weightBySize_63 (lv_at hl 1 rfl) ?_
          refine lv_goto (tgt := 69) hx hb dX4_weightBySize_65 (by decide) ?_
          refine lv_isub hx hb dX4_weightBySize_69 ?_
          refine lv_istore (lv' := [(7, .int (a7 - (t2 - t3))), (10, .int (1 : Int32)), (9, .int (t2 - t3)), (0, .ref (ad 0)), (4, .int a4), (5, .int a5), (6, .int a6), (8, .int a8)]) hx hb dX4_weightBySize_70 hl (by decide) rfl (fun ls hl => ?_)
          refine lv_iload hx hb dX4_weightBySize_72 (lv_at hl 4 rfl) ?_
          refine lv_iconst (v := 2) hx hb dX4_weightBySize_74 (by decide) ?_
          refine lv_imul hx hb dX4_weightBySize_75 ?_
          refine lv_iload hx hb dX4_weightBySize_76 (lv_at hl 1 rfl) ?_
          refine lv_if_eq (tgt := 85) hx hb dX4_weightBySize_78 (by decide) (fun c => absurd c (by decide)) (fun _ => ?_)
          refine lv_iconst (v := 1) hx hb dX4_weightBySize_81 (by decide) ?_
          refine lv_goto (tgt := 86) hx hb dX4_weightBySize_82 (by decide) ?_
          refine lv_iadd hx hb dX4_weightBySize_86 ?_
          refine lv_istore (lv' := [(4, .int ((a4 * (2 : Int32)) + (1 : Int32))), (7, .int (a7 - (t2 - t3))), (10, .int (1 : Int32)), (9, .int (t2 - t3)), (0, .ref (ad 0)), (5, .int a5), (6, .int a6), (8, .int a8)]) hx hb dX4_weightBySize_87 hl (by decide) rfl (fun ls hl => ?_)
          refine lv_aload_n hx hb dX4_weightBySize_89 rfl (lv_at hl 4 rfl) ?_
          refine lv_iload hx hb dX4_weightBySize_90 (lv_at hl 7 rfl) ?_
          refine lv_iload hx hb dX4_weightBySize_92 (lv_at hl 2 rfl) ?_
          refine lv_iload hx hb dX4_weightBySize_94 (lv_at hl 5 rfl) ?_
          obtain ⟨t7, ht7, hf⟩ := ob hf
          refine k_PVi hC LX4_89 ⟨Nat.le_of_ble_eq_true rfl, Nat.le_of_ble_eq_true rfl⟩ ⟨Nat.zero_le _, Nat.zero_le _⟩ (cR_down l E ad q0_wholes q0_onesAtBlocks q0_zeros q0_order q0_nextOrder q0_size a8 (1 : Int32) a5 t7 ht7) rfl rfl hP rfl rfl hl.1 rfl (Nat.le_of_ble_eq_true rfl) rfl dX4_weightBySize_96 (fun hz96 => ?_)
          refine lv_istore (lv' := [(5, .int t7), (4, .int ((a4 * (2 : Int32)) + (1 : Int32))), (7, .int (a7 - (t2 - t3))), (10, .int (1 : Int32)), (9, .int (t2 - t3)), (0, .ref (ad 0)), (6, .int a6), (8, .int a8)]) hx hb dX4_weightBySize_99 hl (by decide) rfl (fun ls hl => ?_)
          refine lv_aload_n hx hb dX4_weightBySize_101 rfl (lv_at hl 5 rfl) ?_
          refine lv_iload hx hb dX4_weightBySize_102 (lv_at hl 7 rfl) ?_
          refine lv_iload hx hb dX4_weightBySize_104 (lv_at hl 3 rfl) ?_
          refine lv_iload hx hb dX4_weightBySize_106 (lv_at hl 6 rfl) ?_
          obtain ⟨t8, ht8, hf⟩ := ob hf
          refine k_PVi hC LX4_89 ⟨Nat.le_of_ble_eq_true rfl, Nat.le_of_ble_eq_true rfl⟩ ⟨Nat.zero_le _, Nat.zero_le _⟩ (cR_down l E ad q0_wholes q0_onesAtBlocks q0_zeros q0_order q0_nextOrder q0_size a8 (1 : Int32) a6 t8 ht8) rfl rfl hP rfl rfl hl.1 rfl (Nat.le_of_ble_eq_true rfl) rfl dX4_weightBySize_108 (fun hz108 => ?_)
          refine lv_istore (lv' := [(6, .int t8), (5, .int t7), (4, .int ((a4 * (2 : Int32)) + (1 : Int32))), (7, .int (a7 - (t2 - t3))), (10, .int (1 : Int32)), (9, .int (t2 - t3)), (0, .ref (ad 0)), (8, .int a8)]) hx hb dX4_weightBySize_111 hl (by decide) rfl (fun ls hl => ?_)
          refine lv_iinc (v := (a8 + (1 : Int32))) (lv' := [(8, .int (a8 + (1 : Int32))), (6, .int t8), (5, .int t7), (4, .int ((a4 * (2 : Int32)) + (1 : Int32))), (7, .int (a7 - (t2 - t3))), (10, .int (1 : Int32)), (9, .int (t2 - t3)), (0, .ref (ad 0))]) hx hb dX4_weightBySize_113 hl (k := 7) rfl rfl (by decide) rfl (fun ls hl => ?_)
          refine lv_goto (tgt := 15) hx hb dX4_weightBySize_116 (by decide) ?_
          exact ih ((a4 * (2 : Int32)) + (1 : Int32)) t7 t8 (a7 - (t2 - t3)) (a8 + (1 : Int32)) ls (lv_sub hl [7, 3, 2, 1, 4, 0] rfl) hf
  rw [fR_weightBySize] at hf
  refine lv_iconst (v := 0) hx hb dX4_weightBySize_0 (by decide) ?_
  refine lv_istore (lv' := [(4, .int (0 : Int32)), (0, .ref (ad 0)), (1, .int a1), (2, .int a2), (3, .int a3)]) hx hb dX4_weightBySize_1 hl (by decide) rfl (fun ls hl => ?_)
  refine lv_iload_n hx hb dX4_weightBySize_3 rfl (lv_at hl 2 rfl) ?_
  refine lv_istore (lv' := [(5, .int a1), (4, .int (0 : Int32)), (0, .ref (ad 0)), (1, .int a1), (2, .int a2), (3, .int a3)]) hx hb dX4_weightBySize_4 hl (by decide) rfl (fun ls hl => ?_)
  refine lv_iload_n hx hb dX4_weightBySize_6 rfl (lv_at hl 4 rfl) ?_
  refine lv_istore (lv' := [(6, .int a2), (5, .int a1), (4, .int (0 : Int32)), (0, .ref (ad 0)), (1, .int a1), (2, .int a2), (3, .int a3)]) hx hb dX4_weightBySize_7 hl (by decide) rfl (fun ls hl => ?_)
  refine lv_iload_n hx hb dX4_weightBySize_9 rfl (lv_at hl 6 rfl) ?_
  refine lv_istore (lv' := [(7, .int a3), (6, .int a2), (5, .int a1), (4, .int (0 : Int32)), (0, .ref (ad 0)), (1, .int a1), (2, .int a2), (3, .int a3)]) hx hb dX4_weightBySize_10 hl (by decide) rfl (fun ls hl => ?_)
  refine lv_iconst (v := 0) hx hb dX4_weightBySize_12 (by decide) ?_
  refine lv_istore (lv' := [(8, .int (0 : Int32)), (7, .int a3), (6, .int a2), (5, .int a1), (4, .int (0 : Int32)), (0, .ref (ad 0)), (1, .int a1), (2, .int a2), (3, .int a3)]) hx hb dX4_weightBySize_13 hl (by decide) rfl (fun ls hl => ?_)
  exact L15 FU (0 : Int32) a1 a2 a3 (0 : Int32) ls (lv_sub hl [5, 4, 3, 2, 1, 0] rfl) hf
abbrev rmR_downAll : Room := { frames := 3, cells := 0, slots := 0, locals := 72 }
set_option maxHeartbeats 4000000 in
set_option maxRecDepth 100000 in
theorem cR_downAll (l : Launch) (E : eE) (ad : Nat → Nat) (q0_wholes : (Nat → Int64)) (q0_onesAtBlocks : (Nat → Nat → Int32)) (q0_zeros : (Nat → Int32)) (q0_order : (Nat → Int32)) (q0_nextOrder : (Nat → Int32)) (q0_size : Int32) (a1 : Int32) (a2 : Int32) (r : Int32) (hf : fR_downAll q0_wholes q0_onesAtBlocks q0_zeros q0_size a1 a2 = some r) : cP l E yX4_downAll cX4_downAll 5 (some .int) rmR_downAll [.ref (ad 0), .int a1, .int a2] (wR E ad q0_wholes q0_onesAtBlocks q0_zeros q0_order q0_nextOrder q0_size) (some (.int r)) := by
  refine Met.ofW (cc := cX4_downAll) (maxL := 5) (ret := (some .int)) (by decide) rfl ?_
  intro p e s m args below meth c s₁ B hml hv
  obtain ⟨hargs, hP, hK⟩ := hv
  have hx := B.exec
  have hb := B.bytes
  have hr := B.returns
  have hts := atoms_spec (ws := ws_ yX4_downAll cX4_downAll 5 (some .int)) B.pre
  have hta : ∀ w ∈ lw_all, w.before args s = true := fun w h => hts w (List.mem_cons_of_mem _ h)
  have hown : s.vm.findClass RX4 = some m.cls := findClass_of_methodNamed B.named
  have hlocks := B.notSynchronized
  have hC : Cx p s m args c cX4_downAll 5 RX4 E := ⟨hx, hb, hml, hown, hta, hK⟩
  obtain ⟨ls, he, hl⟩ := entry_ (m := m) (n := 5) hargs (Nat.le_of_ble_eq_true rfl)
  rw [he]
  have hl : lv_has ls 5 [(0, .ref (ad 0)), (1, .int a1), (2, .int a2)] := hl
  show W p l e rmR_downAll s m args below meth c s.heap [] 0 0 (MQ below (qP (some .int) (some (.int r))) args s 0 0 (fun _ => False)) (F0 m 0 ls [])
  have L5 : ∀ (n : Nat) (a1 : Int32) (a3 : Int32) (a4 : Int32) (ls : Array Slot), lv_has ls 5 [(0, .ref (ad 0)), (1, .int a1), (3, .int a3), (4, .int a4)] → fR_downAll_5 n q0_wholes q0_onesAtBlocks q0_zeros q0_size a1 a3 a4 = some r → W p l e rmR_downAll s m args below meth c s.heap [] 0 0 (MQ below (qP (some .int) (some (.int r))) args s 0 0 (fun _ => False)) (F0 m 5 ls []) := by
    intro n
    induction n with
    | zero => intro a1 a3 a4 ls hl hf; cases hf
    | succ n ih =>
      intro a1 a3 a4 ls hl hf
      rw [fR_downAll_5] at hf
      refine lv_iload hx hb dX4_downAll_5 (lv_at hl 3 rfl) ?_
      refine lv_iconst (v := 5) hx hb dX4_downAll_7 (by decide) ?_
      refine lv_icmp_ge (tgt := 31) hx hb dX4_downAll_8 (by decide) (fun c1 => ?_) (fun c1 => ?_)
      · have hf := ite_t hf c1
        refine lv_iload_n hx hb dX4_downAll_31 rfl (lv_at hl 2 rfl) ?_
        have hf := Option.some.inj hf
        exact e_Pi hC hr hlocks hf dX4_downAll_32
      · have hf := ite_f hf c1
        refine lv_aload_n hx hb dX4_downAll_11 rfl (lv_at hl 0 rfl) ?_
        refine lv_iload hx hb dX4_downAll_12 (lv_at hl 3 rfl) ?_
        refine lv_iload_n hx hb dX4_downAll_14 rfl (lv_at hl 1 rfl) ?_
        refine lv_iload hx hb dX4_downAll_15 (lv_at hl 3 rfl) ?_
        refine k_PSNi hC LX4_54 ⟨Nat.le_of_ble_eq_true rfl, Nat.le_of_ble_eq_true rfl⟩ ⟨Nat.zero_le _, Nat.zero_le _⟩ (cS_hasBit l E a1 a4 _ rfl) rfl rfl (vP_nil) hl.1 rfl (Nat.le_of_ble_eq_true rfl) rfl dX4_downAll_17 (fun hz17 => ?_)
        refine lv_iload_n hx hb dX4_downAll_20 rfl (lv_at hl 2 rfl) ?_
        obtain ⟨t2, ht2, hf⟩ := ob hf
        refine k_PVi hC LX4_89 ⟨Nat.le_of_ble_eq_true rfl, Nat.le_of_ble_eq_true rfl⟩ ⟨Nat.zero_le _, Nat.zero_le _⟩ (cR_down l E ad q0_wholes q0_onesAtBlocks q0_zeros q0_order q0_nextOrder q0_size a4 (fS_hasBit a1 a4) a3 t2 ht2) rfl rfl hP rfl rfl hl.1 rfl (Nat.le_of_ble_eq_true rfl) rfl dX4_downAll_21 (fun hz21 => ?_)
        refine lv_istore_n (lv' := [(3, .int t2), (0, .ref (ad 0)), (1, .int a1), (4, .int a4)]) hx hb dX4_downAll_24 rfl hl (by decide) rfl (fun ls hl => ?_)
        refine lv_iinc (v := (a4 + (1 : Int32))) (lv' := [(4, .int (a4 + (1 : Int32))), (3, .int t2), (0, .ref (ad 0)), (1, .int a1)]) hx hb dX4_downAll_25 hl (k := 3) rfl rfl (by decide) rfl (fun ls hl => ?_)
        refine lv_goto (tgt := 5) hx hb dX4_downAll_28 (by decide) ?_
        exact ih a1 t2 (a4 + (1 : Int32)) ls (lv_sub hl [2, 3, 1, 0] rfl) hf
  rw [fR_downAll] at hf
  refine lv_iload_n hx hb dX4_downAll_0 rfl (lv_at hl 2 rfl) ?_
  refine lv_istore_n (lv' := [(3, .int a2), (0, .ref (ad 0)), (1, .int a1), (2, .int a2)]) hx hb dX4_downAll_1 rfl hl (by decide) rfl (fun ls hl => ?_)
  refine lv_iconst (v := 0) hx hb dX4_downAll_2 (by decide) ?_
  refine lv_istore (lv' := [(4, .int (0 : Int32)), (3, .int a2), (0, .ref (ad 0)), (1, .int a1), (2, .int a2)]) hx hb dX4_downAll_3 hl (by decide) rfl (fun ls hl => ?_)
  exact L5 FU a1 a2 (0 : Int32) ls (lv_sub hl [2, 3, 1, 0] rfl) hf
abbrev rmR_numberOf : Room := { frames := 4, cells := 0, slots := 0, locals := 96 }
set_option maxHeartbeats 4000000 in
set_option maxRecDepth 100000 in
theorem cR_numberOf (l : Launch) (E : eE) (ad : Nat → Nat) (q0_wholes : (Nat → Int64)) (q0_onesAtBlocks : (Nat → Nat → Int32)) (q0_zeros : (Nat → Int32)) (q0_order : (Nat → Int32)) (q0_nextOrder : (Nat → Int32)) (q0_size : Int32) (a1 : Int32) (a2 : Int32) (a3 : Int32) (r : Int32) (hf : fR_numberOf q0_wholes q0_onesAtBlocks q0_zeros q0_size a1 a2 a3 = some r) : cP l E yX4_numberOf cX4_numberOf 4 (some .int) rmR_numberOf [.ref (ad 0), .int a1, .int a2, .int a3] (wR E ad q0_wholes q0_onesAtBlocks q0_zeros q0_order q0_nextOrder q0_size) (some (.int r)) := by
  refine Met.ofW (cc := cX4_numberOf) (maxL := 4) (ret := (some .int)) (by decide) rfl ?_
  intro p e s m args below meth c s₁ B hml hv
  obtain ⟨hargs, hP, hK⟩ := hv
  have hx := B.exec
  have hb := B.bytes
  have hr := B.returns
  have hts := atoms_spec (ws := ws_ yX4_numberOf cX4_numberOf 4 (some .int)) B.pre
  have hta : ∀ w ∈ lw_all, w.before args s = true := fun w h => hts w (List.mem_cons_of_mem _ h)
  have hown : s.vm.findClass RX4 = some m.cls := findClass_of_methodNamed B.named
  have hlocks := B.notSynchronized
  have hC : Cx p s m args c cX4_numberOf 4 RX4 E := ⟨hx, hb, hml, hown, hta, hK⟩
  obtain ⟨ls, he, hl⟩ := entry_ (m := m) (n := 4) hargs (Nat.le_of_ble_eq_true rfl)
  rw [he]
  have hl : lv_has ls 4 [(0, .ref (ad 0)), (1, .int a1), (2, .int a2), (3, .int a3)] := hl
  show W p l e rmR_numberOf s m args below meth c s.heap [] 0 0 (MQ below (qP (some .int) (some (.int r))) args s 0 0 (fun _ => False)) (F0 m 0 ls [])
  rw [fR_numberOf] at hf
  refine lv_aload_n hx hb dX4_numberOf_0 rfl (lv_at hl 0 rfl) ?_
  refine lv_iload_n hx hb dX4_numberOf_1 rfl (lv_at hl 3 rfl) ?_
  refine lv_iload_n hx hb dX4_numberOf_2 rfl (lv_at hl 2 rfl) ?_
  obtain ⟨t1, ht1, hf⟩ := ob hf
  refine k_PVi hC LX4_92 ⟨Nat.le_of_ble_eq_true rfl, Nat.le_of_ble_eq_true rfl⟩ ⟨Nat.zero_le _, Nat.zero_le _⟩ (cR_downAll l E ad q0_wholes q0_onesAtBlocks q0_zeros q0_order q0_nextOrder q0_size a3 a2 t1 ht1) rfl rfl hP rfl rfl hl.1 rfl (Nat.le_of_ble_eq_true rfl) rfl dX4_numberOf_3 (fun hz3 => ?_)
  refine lv_aload_n hx hb dX4_numberOf_6 rfl (lv_at hl 0 rfl) ?_
  refine lv_iload_n hx hb dX4_numberOf_7 rfl (lv_at hl 3 rfl) ?_
  refine lv_iload_n hx hb dX4_numberOf_8 rfl (lv_at hl 1 rfl) ?_
  obtain ⟨t2, ht2, hf⟩ := ob hf
  refine k_PVi hC LX4_92 ⟨Nat.le_of_ble_eq_true rfl, Nat.le_of_ble_eq_true rfl⟩ ⟨Nat.zero_le _, Nat.zero_le _⟩ (cR_downAll l E ad q0_wholes q0_onesAtBlocks q0_zeros q0_order q0_nextOrder q0_size a3 a1 t2 ht2) rfl rfl hP rfl rfl hl.1 rfl (Nat.le_of_ble_eq_true rfl) rfl dX4_numberOf_9 (fun hz9 => ?_)
  refine lv_isub hx hb dX4_numberOf_12 ?_
  have hf := Option.some.inj hf
  exact e_Pi hC hr hlocks hf dX4_numberOf_13
abbrev rmR_numberBelow : Room := { frames := 3, cells := 0, slots := 0, locals := 72 }
set_option maxHeartbeats 4000000 in
set_option maxRecDepth 100000 in
theorem cR_numberBelow (l : Launch) (E : eE) (ad : Nat → Nat) (q0_wholes : (Nat → Int64)) (q0_onesAtBlocks : (Nat → Nat → Int32)) (q0_zeros : (Nat → Int32)) (q0_order : (Nat → Int32)) (q0_nextOrder : (Nat → Int32)) (q0_size : Int32) (a1 : Int32) (a2 : Int32) (a3 : Int32) (r : Int32) (hf : fR_numberBelow q0_wholes q0_onesAtBlocks q0_zeros q0_size a1 a2 a3 = some r) : cP l E yX4_numberBelow cX4_numberBelow 9 (some .int) rmR_numberBelow [.ref (ad 0), .int a1, .int a2, .int a3] (wR E ad q0_wholes q0_onesAtBlocks q0_zeros q0_order q0_nextOrder q0_size) (some (.int r)) := by
  refine Met.ofW (cc := cX4_numberBelow) (maxL := 9) (ret := (some .int)) (by decide) rfl ?_
  intro p e s m args below meth c s₁ B hml hv
  obtain ⟨hargs, hP, hK⟩ := hv
  have hx := B.exec
  have hb := B.bytes
  have hr := B.returns
  have hts := atoms_spec (ws := ws_ yX4_numberBelow cX4_numberBelow 9 (some .int)) B.pre
  have hta : ∀ w ∈ lw_all, w.before args s = true := fun w h => hts w (List.mem_cons_of_mem _ h)
  have hown : s.vm.findClass RX4 = some m.cls := findClass_of_methodNamed B.named
  have hlocks := B.notSynchronized
  have hC : Cx p s m args c cX4_numberBelow 9 RX4 E := ⟨hx, hb, hml, hown, hta, hK⟩
  obtain ⟨ls, he, hl⟩ := entry_ (m := m) (n := 9) hargs (Nat.le_of_ble_eq_true rfl)
  rw [he]
  have hl : lv_has ls 9 [(0, .ref (ad 0)), (1, .int a1), (2, .int a2), (3, .int a3)] := hl
  show W p l e rmR_numberBelow s m args below meth c s.heap [] 0 0 (MQ below (qP (some .int) (some (.int r))) args s 0 0 (fun _ => False)) (F0 m 0 ls [])
  have L12 : ∀ (n : Nat) (a3 : Int32) (a4 : Int32) (a5 : Int32) (a6 : Int32) (a7 : Int32) (ls : Array Slot), lv_has ls 9 [(0, .ref (ad 0)), (3, .int a3), (4, .int a4), (5, .int a5), (6, .int a6), (7, .int a7)] → fR_numberBelow_12 n q0_wholes q0_onesAtBlocks q0_zeros q0_size a3 a4 a5 a6 a7 = some r → W p l e rmR_numberBelow s m args below meth c s.heap [] 0 0 (MQ below (qP (some .int) (some (.int r))) args s 0 0 (fun _ => False)) (F0 m 12 ls []) := by
    intro n
    induction n with
    | zero => intro a3 a4 a5 a6 a7 ls hl hf; cases hf
    | succ n ih =>
      intro a3 a4 a5 a6 a7 ls hl hf
      rw [fR_numberBelow_12] at hf
      refine lv_iload hx hb dX4_numberBelow_12 (lv_at hl 5 rfl) ?_
      refine lv_iconst (v := 5) hx hb dX4_numberBelow_14 (by decide) ?_
      refine lv_icmp_ge (tgt := 85) hx hb dX4_numberBelow_15 (by decide) (fun c1 => ?_) (fun c1 => ?_)
      · have hf := ite_t hf c1
        refine lv_iload hx hb dX4_numberBelow_85 (lv_at hl 2 rfl) ?_
        have hf := Option.some.inj hf
        exact e_Pi hC hr hlocks hf dX4_numberBelow_87
      · have hf := ite_f hf c1
        refine lv_iload_n hx hb dX4_numberBelow_18 rfl (lv_at hl 1 rfl) ?_
        refine lv_iload hx hb dX4_numberBelow_19 (lv_at hl 5 rfl) ?_
        refine k_PSNi hC LX4_54 ⟨Nat.le_of_ble_eq_true rfl, Nat.le_of_ble_eq_true rfl⟩ ⟨Nat.zero_le _, Nat.zero_le _⟩ (cS_hasBit l E a3 a7 _ rfl) rfl rfl (vP_nil) hl.1 rfl (Nat.le_of_ble_eq_true rfl) rfl dX4_numberBelow_21 (fun hz21 => ?_)
        refine lv_istore (lv' := [(8, .int (fS_hasBit a3 a7)), (0, .ref (ad 0)), (3, .int a3), (4, .int a4), (5, .int a5), (6, .int a6), (7, .int a7)]) hx hb dX4_numberBelow_24 hl (by decide) rfl (fun ls hl => ?_)
        refine lv_iload hx hb dX4_numberBelow_26 (lv_at hl 0 rfl) ?_
        refine lv_if_eq (tgt := 55) hx hb dX4_numberBelow_28 (by decide) (fun c2 => ?_) (fun c2 => ?_)
        · have hf := ite_t hf c2
          refine lv_aload_n hx hb dX4_numberBelow_55 rfl (lv_at hl 1 rfl) ?_
          refine lv_iload hx hb dX4_numberBelow_56 (lv_at hl 6 rfl) ?_
          refine lv_iload hx hb dX4_numberBelow_58 (lv_at hl 0 rfl) ?_
          refine lv_iload hx hb dX4_numberBelow_60 (lv_at hl 4 rfl) ?_
          obtain ⟨t3, ht3, hf⟩ := ob hf
          refine k_PVi hC LX4_89 ⟨Nat.le_of_ble_eq_true rfl, Nat.le_of_ble_eq_true rfl⟩ ⟨Nat.zero_le _, Nat.zero_le _⟩ (cR_down l E ad q0_wholes q0_onesAtBlocks q0_zeros q0_order q0_nextOrder q0_size a7 (fS_hasBit a3 a7) a5 t3 ht3) rfl rfl hP rfl rfl hl.1 rfl (Nat.le_of_ble_eq_true rfl) rfl dX4_numberBelow_62 (fun hz62 => ?_)
          refine lv_istore (lv' := [(5, .int t3), (8, .int (fS_hasBit a3 a7)), (0, .ref (ad 0)), (3, .int a3), (4, .int a4), (6, .int a6), (7, .int a7)]) hx hb dX4_numberBelow_65 hl (by decide) rfl (fun ls hl => ?_)
          refine lv_aload_n hx hb dX4_numberBelow_67 rfl (lv_at hl 2 rfl) ?_
          refine lv_iload hx hb dX4_numberBelow_68 (lv_at hl 6 rfl) ?_
          refine lv_iload hx hb dX4_numberBelow_70 (lv_at hl 1 rfl) ?_
          refine lv_iload hx hb dX4_numberBelow_72 (lv_at hl 5 rfl) ?_
          obtain ⟨t4, ht4, hf⟩ := ob hf
          refine k_PVi hC LX4_89 ⟨Nat.le_of_ble_eq_true rfl, Nat.le_of_ble_eq_true rfl⟩ ⟨Nat.zero_le _, Nat.zero_le _⟩ (cR_down l E ad q0_wholes q0_onesAtBlocks q0_zeros q0_order q0_nextOrder q0_size a7 (fS_hasBit a3 a7) a6 t4 ht4) rfl rfl hP rfl rfl hl.1 rfl (Nat.le_of_ble_eq_true rfl) rfl dX4_numberBelow_74 (fun hz74 => ?_)
          refine lv_istore (lv' := [(6, .int t4), (5, .int t3), (8, .int (fS_hasBit a3 a7)), (0, .ref (ad 0)), (3, .int a3), (4, .int a4), (7, .int a7)]) hx hb dX4_numberBelow_77 hl (by decide) rfl (fun ls hl => ?_)
          refine lv_iinc (v := (a7 + (1 : Int32))) (lv' := [(7, .int (a7 + (1 : Int32))), (6, .int t4), (5, .int t3), (8, .int (fS_hasBit a3 a7)), (0, .ref (ad 0)), (3, .int a3), (4, .int a4)]) hx hb dX4_numberBelow_79 hl (k := 6) rfl rfl (by decide) rfl (fun ls hl => ?_)
          refine lv_goto (tgt := 12) hx hb dX4_numberBelow_82 (by decide) ?_
          exact ih a3 a4 t3 t4 (a7 + (1 : Int32)) ls (lv_sub hl [4, 5, 6, 2, 1, 0] rfl) hf
        · have hf := ite_f hf c2
          refine lv_iload hx hb dX4_numberBelow_31 (lv_at hl 3 rfl) ?_
          refine lv_aload_n hx hb dX4_numberBelow_33 rfl (lv_at hl 1 rfl) ?_
          refine lv_iload hx hb dX4_numberBelow_34 (lv_at hl 6 rfl) ?_
          refine lv_iconst (v := 0) hx hb dX4_numberBelow_36 (by decide) ?_
          refine lv_iload hx hb dX4_numberBelow_37 (lv_at hl 5 rfl) ?_
          obtain ⟨t5, ht5, hf⟩ := ob hf
          refine k_PVi hC LX4_83 ⟨Nat.le_of_ble_eq_true rfl, Nat.le_of_ble_eq_true rfl⟩ ⟨Nat.zero_le _, Nat.zero_le _⟩ (cR_ahead l E ad q0_wholes q0_onesAtBlocks q0_zeros q0_order q0_nextOrder q0_size a7 (0 : Int32) a6 t5 ht5) rfl rfl hP rfl rfl hl.1 rfl (Nat.le_of_ble_eq_true rfl) rfl dX4_numberBelow_39 (fun hz39 => ?_)
          refine lv_aload_n hx hb dX4_numberBelow_42 rfl (lv_at hl 1 rfl) ?_
          refine lv_iload hx hb dX4_numberBelow_43 (lv_at hl 6 rfl) ?_
          refine lv_iconst (v := 0) hx hb dX4_numberBelow_45 (by decide) ?_
          refine lv_iload hx hb dX4_numberBelow_46 (lv_at hl 4 rfl) ?_
          obtain ⟨t6, ht6, hf⟩ := ob hf
          refine k_PVi hC LX4_83 ⟨Nat.le_of_ble_eq_true rfl, Nat.le_of_ble_eq_true rfl⟩ ⟨Nat.zero_le _, Nat.zero_le _⟩ (cR_ahead l E ad q0_wholes q0_onesAtBlocks q0_zeros q0_order q0_nextOrder q0_size a7 (0 : Int32) a5 t6 ht6) rfl rfl hP rfl rfl hl.1 rfl (Nat.le_of_ble_eq_true rfl) rfl dX4_numberBelow_48 (fun hz48 => ?_)
          refine lv_isub hx hb dX4_numberBelow_51 ?_
          refine lv_iadd hx hb dX4_numberBelow_52 ?_
          refine lv_istore (lv' := [(4, .int (a4 + (t5 - t6))), (8, .int (fS_hasBit a3 a7)), (0, .ref (ad 0)), (3, .int a3), (5, .int a5), (6, .int a6), (7, .int a7)]) hx hb dX4_numberBelow_53 hl (by decide) rfl (fun ls hl => ?_)
          refine lv_aload_n hx hb dX4_numberBelow_55 rfl (lv_at hl 2 rfl) ?_
          refine lv_iload hx hb dX4_numberBelow_56 (lv_at hl 6 rfl) ?_
          refine lv_iload hx hb dX4_numberBelow_58 (lv_at hl 1 rfl) ?_
          refine lv_iload hx hb dX4_numberBelow_60 (lv_at hl 4 rfl) ?_
          obtain ⟨t7, ht7, hf⟩ := ob hf
          refine k_PVi hC LX4_89 ⟨Nat.le_of_ble_eq_true rfl, Nat.le_of_ble_eq_true rfl⟩ ⟨Nat.zero_le _, Nat.zero_le _⟩ (cR_down l E ad q0_wholes q0_onesAtBlocks q0_zeros q0_order q0_nextOrder q0_size a7 (fS_hasBit a3 a7) a5 t7 ht7) rfl rfl hP rfl rfl hl.1 rfl (Nat.le_of_ble_eq_true rfl) rfl dX4_numberBelow_62 (fun hz62 => ?_)
          refine lv_istore (lv' := [(5, .int t7), (4, .int (a4 + (t5 - t6))), (8, .int (fS_hasBit a3 a7)), (0, .ref (ad 0)), (3, .int a3), (6, .int a6), (7, .int a7)]) hx hb dX4_numberBelow_65 hl (by decide) rfl (fun ls hl => ?_)
          refine lv_aload_n hx hb dX4_numberBelow_67 rfl (lv_at hl 3 rfl) ?_
          refine lv_iload hx hb dX4_numberBelow_68 (lv_at hl 6 rfl) ?_
          refine lv_iload hx hb dX4_numberBelow_70 (lv_at hl 2 rfl) ?_
          refine lv_iload hx hb dX4_numberBelow_72 (lv_at hl 5 rfl) ?_
          obtain ⟨t8, ht8, hf⟩ := ob hf
          refine k_PVi hC LX4_89 ⟨Nat.le_of_ble_eq_true rfl, Nat.le_of_ble_eq_true rfl⟩ ⟨Nat.zero_le _, Nat.zero_le _⟩ (cR_down l E ad q0_wholes q0_onesAtBlocks q0_zeros q0_order q0_nextOrder q0_size a7 (fS_hasBit a3 a7) a6 t8 ht8) rfl rfl hP rfl rfl hl.1 rfl (Nat.le_of_ble_eq_true rfl) rfl dX4_numberBelow_74 (fun hz74 => ?_)
          refine lv_istore (lv' := [(6, .int t8), (5, .int t7), (4, .int (a4 + (t5 - t6))), (8, .int (fS_hasBit a3 a7)), (0, .ref (ad 0)), (3, .int a3), (7, .int a7)]) hx hb dX4_numberBelow_77 hl (by decide) rfl (fun ls hl => ?_)
          refine lv_iinc (v := (a7 + (1 : Int32))) (lv' := [(7, .int (a7 + (1 : Int32))), (6, .int t8), (5, .int t7), (4, .int (a4 + (t5 - t6))), (8, .int (fS_hasBit a3 a7)), (0, .ref (ad 0)), (3, .int a3)]) hx hb dX4_numberBelow_79 hl (k := 6) rfl rfl (by decide) rfl (fun ls hl => ?_)
          refine lv_goto (tgt := 12) hx hb dX4_numberBelow_82 (by decide) ?_
          exact ih a3 (a4 + (t5 - t6)) t7 t8 (a7 + (1 : Int32)) ls (lv_sub hl [5, 6, 3, 2, 1, 0] rfl) hf
  rw [fR_numberBelow] at hf
  refine lv_iconst (v := 0) hx hb dX4_numberBelow_0 (by decide) ?_
  refine lv_istore (lv' := [(4, .int (0 : Int32)), (0, .ref (ad 0)), (1, .int a1), (2, .int a2), (3, .int a3)]) hx hb dX4_numberBelow_1 hl (by decide) rfl (fun ls hl => ?_)
  refine lv_iload_n hx hb dX4_numberBelow_3 rfl (lv_at hl 2 rfl) ?_
  refine lv_istore (lv' := [(5, .int a1), (4, .int (0 : Int32)), (0, .ref (ad 0)), (1, .int a1), (2, .int a2), (3, .int a3)]) hx hb dX4_numberBelow_4 hl (by decide) rfl (fun ls hl => ?_)
  refine lv_iload_n hx hb dX4_numberBelow_6 rfl (lv_at hl 4 rfl) ?_
  refine lv_istore (lv' := [(6, .int a2), (5, .int a1), (4, .int (0 : Int32)), (0, .ref (ad 0)), (1, .int a1), (2, .int a2), (3, .int a3)]) hx hb dX4_numberBelow_7 hl (by decide) rfl (fun ls hl => ?_)
  refine lv_iconst (v := 0) hx hb dX4_numberBelow_9 (by decide) ?_
  refine lv_istore (lv' := [(7, .int (0 : Int32)), (6, .int a2), (5, .int a1), (4, .int (0 : Int32)), (0, .ref (ad 0)), (1, .int a1), (2, .int a2), (3, .int a3)]) hx hb dX4_numberBelow_10 hl (by decide) rfl (fun ls hl => ?_)
  exact L12 FU a3 (0 : Int32) a1 a2 (0 : Int32) ls (lv_sub hl [4, 7, 3, 2, 1, 0] rfl) hf
abbrev rmR_placeBack : Room := { frames := 4, cells := 0, slots := 0, locals := 96 }
set_option maxHeartbeats 4000000 in
set_option maxRecDepth 100000 in
theorem cR_placeBack (l : Launch) (E : eE) (ad : Nat → Nat) (q0_wholes : (Nat → Int64)) (q0_onesAtBlocks : (Nat → Nat → Int32)) (q0_zeros : (Nat → Int32)) (q0_order : (Nat → Int32)) (q0_nextOrder : (Nat → Int32)) (q0_size : Int32) (a1 : Int32) (a2 : Int32) (r : Int32) (hf : fR_placeBack q0_wholes q0_onesAtBlocks q0_zeros q0_size a1 a2 = some r) : cP l E yX4_placeBack cX4_placeBack 7 (some .int) rmR_placeBack [.ref (ad 0), .int a1, .int a2] (wR E ad q0_wholes q0_onesAtBlocks q0_zeros q0_order q0_nextOrder q0_size) (some (.int r)) := by
  refine Met.ofW (cc := cX4_placeBack) (maxL := 7) (ret := (some .int)) (by decide) rfl ?_
  intro p e s m args below meth c s₁ B hml hv
  obtain ⟨hargs, hP, hK⟩ := hv
  have hx := B.exec
  have hb := B.bytes
  have hr := B.returns
  have hts := atoms_spec (ws := ws_ yX4_placeBack cX4_placeBack 7 (some .int)) B.pre
  have hta : ∀ w ∈ lw_all, w.before args s = true := fun w h => hts w (List.mem_cons_of_mem _ h)
  have hown : s.vm.findClass RX4 = some m.cls := findClass_of_methodNamed B.named
  have hlocks := B.notSynchronized
  have hC : Cx p s m args c cX4_placeBack 7 RX4 E := ⟨hx, hb, hml, hown, hta, hK⟩
  obtain ⟨ls, he, hl⟩ := entry_ (m := m) (n := 7) hargs (Nat.le_of_ble_eq_true rfl)
  rw [he]
  have hl : lv_has ls 7 [(0, .ref (ad 0)), (1, .int a1), (2, .int a2)] := hl
  show W p l e rmR_placeBack s m args below meth c s.heap [] 0 0 (MQ below (qP (some .int) (some (.int r))) args s 0 0 (fun _ => False)) (F0 m 0 ls [])
  have L36 : ∀ (n : Nat) (a1 : Int32) (a4 : Int32) (a5 : Int32) (ls : Array Slot), lv_has ls 7 [(0, .ref (ad 0)), (1, .int a1), (4, .int a4), (5, .int a5)] → fR_placeBack_36 n q0_wholes q0_onesAtBlocks q0_zeros q0_size a1 a4 a5 = some r → W p l e rmR_placeBack s m args below meth c s.heap [] 0 0 (MQ below (qP (some .int) (some (.int r))) args s 0 0 (fun _ => False)) (F0 m 36 ls []) := by
    intro n
    induction n with
    | zero => intro a1 a4 a5 ls hl hf; cases hf
    | succ n ih =>
      intro a1 a4 a5 ls hl hf
      rw [fR_placeBack_36] at hf
      refine lv_iload hx hb dX4_placeBack_36 (lv_at hl 3 rfl) ?_
      refine lv_if_lt (tgt := 84) hx hb dX4_placeBack_38 (by decide) (fun c5 => ?_) (fun c5 => ?_)
      · have hf := ite_t hf c5
        refine lv_iload hx hb dX4_placeBack_84 (lv_at hl 2 rfl) ?_
        have hf := Option.some.inj hf
        exact e_Pi hC hr hlocks hf dX4_placeBack_86
      · have hf := ite_f hf c5
        refine lv_iload_n hx hb dX4_placeBack_41 rfl (lv_at hl 1 rfl) ?_
        refine lv_iload hx hb dX4_placeBack_42 (lv_at hl 3 rfl) ?_
        refine k_PSNi hC LX4_54 ⟨Nat.le_of_ble_eq_true rfl, Nat.le_of_ble_eq_true rfl⟩ ⟨Nat.zero_le _, Nat.zero_le _⟩ (cS_hasBit l E a1 a5 _ rfl) rfl rfl (vP_nil) hl.1 rfl (Nat.le_of_ble_eq_true rfl) rfl dX4_placeBack_44 (fun hz44 => ?_)
        refine lv_istore (lv' := [(6, .int (fS_hasBit a1 a5)), (0, .ref (ad 0)), (1, .int a1), (4, .int a4), (5, .int a5)]) hx hb dX4_placeBack_47 hl (by decide) rfl (fun ls hl => ?_)
        refine lv_aload_n hx hb dX4_placeBack_49 rfl (lv_at hl 1 rfl) ?_
        refine lv_iload hx hb dX4_placeBack_50 (lv_at hl 4 rfl) ?_
        refine lv_iload hx hb dX4_placeBack_52 (lv_at hl 0 rfl) ?_
        refine lv_iload hx hb dX4_placeBack_54 (lv_at hl 0 rfl) ?_
        refine lv_if_eq (tgt := 71) hx hb dX4_placeBack_56 (by decide) (fun c6 => ?_) (fun c6 => ?_)
        · have hf := ite_t hf c6
          refine lv_iload hx hb dX4_placeBack_71 (lv_at hl 3 rfl) ?_
          obtain ⟨t7, ht7, hf⟩ := ob hf
          refine k_PVi hC LX4_95 ⟨Nat.le_of_ble_eq_true rfl, Nat.le_of_ble_eq_true rfl⟩ ⟨Nat.zero_le _, Nat.zero_le _⟩ (cR_placeOf l E ad q0_wholes q0_onesAtBlocks q0_zeros q0_order q0_nextOrder q0_size a5 (fS_hasBit a1 a5) a4 t7 ht7) rfl rfl hP rfl rfl hl.1 rfl (Nat.le_of_ble_eq_true rfl) rfl dX4_placeBack_73 (fun hz73 => ?_)
          refine lv_istore (lv' := [(4, .int t7), (6, .int (fS_hasBit a1 a5)), (0, .ref (ad 0)), (1, .int a1), (5, .int a5)]) hx hb dX4_placeBack_76 hl (by decide) rfl (fun ls hl => ?_)
          refine lv_iinc (v := (a5 + (-1 : Int32))) (lv' := [(5, .int (a5 + (-1 : Int32))), (4, .int t7), (6, .int (fS_hasBit a1 a5)), (0, .ref (ad 0)), (1, .int a1)]) hx hb dX4_placeBack_78 hl (k := 4) rfl rfl (by decide) rfl (fun ls hl => ?_)
          refine lv_goto (tgt := 36) hx hb dX4_placeBack_81 (by decide) ?_
          exact ih a1 t7 (a5 + (-1 : Int32)) ls (lv_sub hl [3, 4, 1, 0] rfl) hf
        · have hf := ite_f hf c6
          refine lv_iload hx hb dX4_placeBack_59 (lv_at hl 3 rfl) ?_
          refine lv_aload_n hx hb dX4_placeBack_61 rfl (lv_at hl 1 rfl) ?_
          refine lv_iload hx hb dX4_placeBack_62 (lv_at hl 4 rfl) ?_
          obtain ⟨t8, ht8, hf⟩ := ob hf
          refine k_PVi hC LX4_86 ⟨Nat.le_of_ble_eq_true rfl, Nat.le_of_ble_eq_true rfl⟩ ⟨Nat.zero_le _, Nat.zero_le _⟩ (cR_zerosOf l E ad q0_wholes q0_onesAtBlocks q0_zeros q0_order q0_nextOrder q0_size a5 t8 ht8) rfl rfl hP rfl rfl hl.1 rfl (Nat.le_of_ble_eq_true rfl) rfl dX4_placeBack_64 (fun hz64 => ?_)
          refine lv_isub hx hb dX4_placeBack_67 ?_
          refine lv_goto (tgt := 73) hx hb dX4_placeBack_68 (by decide) ?_
          obtain ⟨t9, ht9, hf⟩ := ob hf
          refine k_PVi hC LX4_95 ⟨Nat.le_of_ble_eq_true rfl, Nat.le_of_ble_eq_true rfl⟩ ⟨Nat.zero_le _, Nat.zero_le _⟩ (cR_placeOf l E ad q0_wholes q0_onesAtBlocks q0_zeros q0_order q0_nextOrder q0_size a5 (fS_hasBit a1 a5) (a4 - t8) t9 ht9) rfl rfl hP rfl rfl hl.1 rfl (Nat.le_of_ble_eq_true rfl) rfl dX4_placeBack_73 (fun hz73 => ?_)
          refine lv_istore (lv' := [(4, .int t9), (6, .int (fS_hasBit a1 a5)), (0, .ref (ad 0)), (1, .int a1), (5, .int a5)]) hx hb dX4_placeBack_76 hl (by decide) rfl (fun ls hl => ?_)
          refine lv_iinc (v := (a5 + (-1 : Int32))) (lv' := [(5, .int (a5 + (-1 : Int32))), (4, .int t9), (6, .int (fS_hasBit a1 a5)), (0, .ref (ad 0)), (1, .int a1)]) hx hb dX4_placeBack_78 hl (k := 4) rfl rfl (by decide) rfl (fun ls hl => ?_)
          refine lv_goto (tgt := 36) hx hb dX4_placeBack_81 (by decide) ?_
          exact ih a1 t9 (a5 + (-1 : Int32)) ls (lv_sub hl [3, 4, 1, 0] rfl) hf
  rw [fR_placeBack] at hf
  refine lv_aload_n hx hb dX4_placeBack_0 rfl (lv_at hl 0 rfl) ?_
  refine lv_iload_n hx hb dX4_placeBack_1 rfl (lv_at hl 1 rfl) ?_
  refine lv_iconst (v := 0) hx hb dX4_placeBack_2 (by decide) ?_
  obtain ⟨t1, ht1, hf⟩ := ob hf
  refine k_PVi hC LX4_92 ⟨Nat.le_of_ble_eq_true rfl, Nat.le_of_ble_eq_true rfl⟩ ⟨Nat.zero_le _, Nat.zero_le _⟩ (cR_downAll l E ad q0_wholes q0_onesAtBlocks q0_zeros q0_order q0_nextOrder q0_size a1 (0 : Int32) t1 ht1) rfl rfl hP rfl rfl hl.1 rfl (Nat.le_of_ble_eq_true rfl) rfl dX4_placeBack_3 (fun hz3 => ?_)
  refine lv_istore_n (lv' := [(3, .int t1), (0, .ref (ad 0)), (1, .int a1), (2, .int a2)]) hx hb dX4_placeBack_6 rfl hl (by decide) rfl (fun ls hl => ?_)
  refine lv_iload_n hx hb dX4_placeBack_7 rfl (lv_at hl 3 rfl) ?_
  refine lv_if_lt (tgt := 26) hx hb dX4_placeBack_8 (by decide) (fun c2 => ?_) (fun c2 => ?_)
  · have hf := ite_t hf c2
    refine lv_iconst (v := (-1)) hx hb dX4_placeBack_26 (by decide) ?_
    have hf := Option.some.inj hf
    exact e_Pi hC hr hlocks hf dX4_placeBack_27
  · have hf := ite_f hf c2
    refine lv_iload_n hx hb dX4_placeBack_11 rfl (lv_at hl 3 rfl) ?_
    refine lv_aload_n hx hb dX4_placeBack_12 rfl (lv_at hl 1 rfl) ?_
    refine lv_iload_n hx hb dX4_placeBack_13 rfl (lv_at hl 2 rfl) ?_
    refine lv_aload_n hx hb dX4_placeBack_14 rfl (lv_at hl 1 rfl) ?_
    refine gX4_36 hC hP 0 rfl (v := .int q0_size) rfl dX4_placeBack_15 ?_
    obtain ⟨t3, ht3, hf⟩ := ob hf
    refine k_PVi hC LX4_92 ⟨Nat.le_of_ble_eq_true rfl, Nat.le_of_ble_eq_true rfl⟩ ⟨Nat.zero_le _, Nat.zero_le _⟩ (cR_downAll l E ad q0_wholes q0_onesAtBlocks q0_zeros q0_order q0_nextOrder q0_size a1 q0_size t3 ht3) rfl rfl hP rfl rfl hl.1 rfl (Nat.le_of_ble_eq_true rfl) rfl dX4_placeBack_18 (fun hz18 => ?_)
    refine lv_iload_n hx hb dX4_placeBack_21 rfl (lv_at hl 0 rfl) ?_
    refine lv_isub hx hb dX4_placeBack_22 ?_
    refine lv_icmp_lt (tgt := 28) hx hb dX4_placeBack_23 (by decide) (fun c4 => ?_) (fun c4 => ?_)
    · have hf := ite_t hf c4
      refine lv_iload_n hx hb dX4_placeBack_28 rfl (lv_at hl 0 rfl) ?_
      refine lv_iload_n hx hb dX4_placeBack_29 rfl (lv_at hl 3 rfl) ?_
      refine lv_iadd hx hb dX4_placeBack_30 ?_
      refine lv_istore (lv' := [(4, .int (t1 + a2)), (3, .int t1), (0, .ref (ad 0)), (1, .int a1), (2, .int a2)]) hx hb dX4_placeBack_31 hl (by decide) rfl (fun ls hl => ?_)
      refine lv_iconst (v := 4) hx hb dX4_placeBack_33 (by decide) ?_
      refine lv_istore (lv' := [(5, .int (4 : Int32)), (4, .int (t1 + a2)), (3, .int t1), (0, .ref (ad 0)), (1, .int a1), (2, .int a2)]) hx hb dX4_placeBack_34 hl (by decide) rfl (fun ls hl => ?_)
      exact L36 FU a1 (t1 + a2) (4 : Int32) ls (lv_sub hl [3, 4, 1, 0] rfl) hf
    · have hf := ite_f hf c4
      refine lv_iconst (v := (-1)) hx hb dX4_placeBack_26 (by decide) ?_
      have hf := Option.some.inj hf
      exact e_Pi hC hr hlocks hf dX4_placeBack_27
