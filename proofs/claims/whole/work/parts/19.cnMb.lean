abbrev rmM_bits : Room := { frames := 2, cells := 0, slots := 0, locals := 47 }
set_option maxHeartbeats 4000000 in
set_option maxRecDepth 100000 in
theorem cM_bits (l : Launch) (E : eE) (ad : Nat → Nat) (x : TM) (a1 : Int32) (t : Int64 × (Nat → Int32)) (hf : fM_bits x.2.2.2.2.1 x.2.2.2.2.2.2.2.2.2.2.2.1 a1 = some t) : cW l E yX9_bits cX9_bits 5 (some .long) rmM_bits [.ref (ad 0), .int a1] (wM E ad x) (some (.long t.1)) (wM E ad (x.1, x.2.1, x.2.2.1, x.2.2.2.1, x.2.2.2.2.1, x.2.2.2.2.2.1, x.2.2.2.2.2.2.1, x.2.2.2.2.2.2.2.1, x.2.2.2.2.2.2.2.2.1, x.2.2.2.2.2.2.2.2.2.1, x.2.2.2.2.2.2.2.2.2.2.1, t.2, x.2.2.2.2.2.2.2.2.2.2.2.2)) := by
  refine Met.ofW (cc := cX9_bits) (maxL := 5) (ret := (some .long)) (by decide) rfl ?_
  intro p e s m args below meth c s₁ B hml hv
  obtain ⟨hargs, hP, hK, hD0⟩ := hv
  have hx := B.exec
  have hb := B.bytes
  have hr := B.returns
  have hts := atoms_spec (ws := ws_ yX9_bits cX9_bits 5 (some .long)) B.pre
  have hta : ∀ w ∈ lw_all, w.before args s = true := fun w h => hts w (List.mem_cons_of_mem _ h)
  have hown : s.vm.findClass RX9 = some m.cls := findClass_of_methodNamed B.named
  have hlocks := B.notSynchronized
  have hC : Cx p s m args c cX9_bits 5 RX9 E := ⟨hx, hb, hml, hown, hta, hK⟩
  have hH : Hp E (adr (wM E ad x)) (wM E ad x) s.heap s.heap [] := Hp.start hP hD0
  obtain ⟨ls, he, hl⟩ := entry_ (m := m) (n := 5) hargs (Nat.le_of_ble_eq_true rfl)
  rw [he]
  have hl : lv_has ls 5 [(0, .ref (ad 0)), (1, .int a1)] := hl
  show W p l e rmM_bits s m args below meth c s.heap [] 0 0 (MQ below (qW E (some .long) (some (.long t.1)) (wM E ad x) (wM E ad (x.1, x.2.1, x.2.2.1, x.2.2.2.1, x.2.2.2.2.1, x.2.2.2.2.2.1, x.2.2.2.2.2.2.1, x.2.2.2.2.2.2.2.1, x.2.2.2.2.2.2.2.2.1, x.2.2.2.2.2.2.2.2.2.1, x.2.2.2.2.2.2.2.2.2.2.1, t.2, x.2.2.2.2.2.2.2.2.2.2.2.2))) args s 0 0 (adr (wM E ad x))) (F0 m 0 ls [])
  suffices hmain : ∀ (H : Heap) (locs : List Loc), Hp E (adr (wM E ad x)) (wM E ad x) s.heap H locs → W p l e rmM_bits s m args below meth c H locs 0 0 (MQ below (qW E (some .long) (some (.long t.1)) (wM E ad x) (wM E ad (x.1, x.2.1, x.2.2.1, x.2.2.2.1, x.2.2.2.2.1, x.2.2.2.2.2.1, x.2.2.2.2.2.2.1, x.2.2.2.2.2.2.2.1, x.2.2.2.2.2.2.2.2.1, x.2.2.2.2.2.2.2.2.2.1, x.2.2.2.2.2.2.2.2.2.2.1, t.2, x.2.2.2.2.2.2.2.2.2.2.2.2))) args s 0 0 (adr (wM E ad x))) (F0 m 0 ls []) from hmain _ _ hH
  clear hH
  have L25 : ∀ (n : Nat) (y0_11 : (Nat → Int32)) (a1 : Int32) (a2 : Int64) (a4 : Int32) (ls : Array Slot), lv_has ls 5 [(0, .ref (ad 0)), (1, .int a1), (2, .long a2), (4, .int a4)] → ∀ (H : Heap) (locs : List Loc), Hp E (adr (wM E ad x)) (wM E ad (x.1, x.2.1, x.2.2.1, x.2.2.2.1, x.2.2.2.2.1, x.2.2.2.2.2.1, x.2.2.2.2.2.2.1, x.2.2.2.2.2.2.2.1, x.2.2.2.2.2.2.2.2.1, x.2.2.2.2.2.2.2.2.2.1, x.2.2.2.2.2.2.2.2.2.2.1, y0_11, x.2.2.2.2.2.2.2.2.2.2.2.2)) s.heap H locs → fM_bits_25 n x.2.2.2.2.1 y0_11 a1 a2 a4 = some t → W p l e rmM_bits s m args below meth c H locs 0 0 (MQ below (qW E (some .long) (some (.long t.1)) (wM E ad x) (wM E ad (x.1, x.2.1, x.2.2.1, x.2.2.2.1, x.2.2.2.2.1, x.2.2.2.2.2.1, x.2.2.2.2.2.2.1, x.2.2.2.2.2.2.2.1, x.2.2.2.2.2.2.2.2.1, x.2.2.2.2.2.2.2.2.2.1, x.2.2.2.2.2.2.2.2.2.2.1, t.2, x.2.2.2.2.2.2.2.2.2.2.2.2))) args s 0 0 (adr (wM E ad x))) (F0 m 25 ls []) := by
    intro n
    induction n with
    | zero => intro y0_11 a1 a2 a4 ls hl H locs hH hf; cases hf
    | succ n ih =>
      intro y0_11 a1 a2 a4 ls hl H locs hH hf
      rw [fM_bits_25] at hf
      refine lv_iload hx hb dX9_bits_25 (lv_at hl 3 rfl) ?_
      refine lv_if_lt (tgt := 51) hx hb dX9_bits_27 (by decide) (fun c4 => ?_) (fun c4 => ?_)
      · have hf := ite_t hf c4
        refine lv_lload_n hx hb dX9_bits_51 rfl (lv_at hl 2 rfl) ?_
        cases hf
        exact e_Wl hC hH hr hlocks rfl rfl dX9_bits_52
      · have hf := ite_f hf c4
        refine lv_ldc2 hx hb hown (hta _ q5_72) dX9_bits_30 ?_
        refine lv_lload_n hx hb dX9_bits_33 rfl (lv_at hl 2 rfl) ?_
        refine lv_lmul hx hb dX9_bits_34 ?_
        refine lv_aload_n hx hb dX9_bits_35 rfl (lv_at hl 0 rfl) ?_
        refine lv_iload_n hx hb dX9_bits_36 rfl (lv_at hl 1 rfl) ?_
        refine lv_iload hx hb dX9_bits_37 (lv_at hl 3 rfl) ?_
        obtain ⟨t5, ht5, hf⟩ := ob hf
        refine k_PVi hC LX9_130 ⟨Nat.le_of_ble_eq_true rfl, Nat.le_of_ble_eq_true rfl⟩ ⟨Nat.zero_le _, Nat.zero_le _⟩ (cM_bitAt l E ad (x.1, x.2.1, x.2.2.1, x.2.2.2.1, x.2.2.2.2.1, x.2.2.2.2.2.1, x.2.2.2.2.2.2.1, x.2.2.2.2.2.2.2.1, x.2.2.2.2.2.2.2.2.1, x.2.2.2.2.2.2.2.2.2.1, x.2.2.2.2.2.2.2.2.2.2.1, y0_11, x.2.2.2.2.2.2.2.2.2.2.2.2) a1 a4 t5 ht5) rfl rfl hH.1 rfl rfl hl.1 rfl (Nat.le_of_ble_eq_true rfl) rfl dX9_bits_39 (fun hz39 => ?_)
        refine lv_i2l hx hb dX9_bits_42 rfl ?_
        refine lv_ladd hx hb dX9_bits_43 ?_
        refine lv_lstore_n (lv' := [(2, .long (((2 : Int64) * a2) + t5.toInt64)), (0, .ref (ad 0)), (1, .int a1), (4, .int a4)]) hx hb dX9_bits_44 rfl hl (by decide) rfl (fun ls hl => ?_)
        refine lv_iinc (v := (a4 + (-1 : Int32))) (lv' := [(4, .int (a4 + (-1 : Int32))), (2, .long (((2 : Int64) * a2) + t5.toInt64)), (0, .ref (ad 0)), (1, .int a1)]) hx hb dX9_bits_45 hl (k := 3) rfl rfl (by decide) rfl (fun ls hl => ?_)
        refine lv_goto (tgt := 25) hx hb dX9_bits_48 (by decide) ?_
        exact ih y0_11 a1 (((2 : Int64) * a2) + t5.toInt64) (a4 + (-1 : Int32)) ls (lv_sub hl [2, 3, 1, 0] rfl) _ _ hH hf
  intro H locs hH
  rw [fM_bits] at hf
  refine lv_iload_n hx hb dX9_bits_0 rfl (lv_at hl 1 rfl) ?_
  refine k_PSi hC LX9_124 ⟨Nat.le_of_ble_eq_true rfl, Nat.le_of_ble_eq_true rfl⟩ ⟨Nat.zero_le _, Nat.zero_le _⟩ (cM_isRow l E a1 _ rfl) rfl rfl (vP_nil) hl.1 rfl (Nat.le_of_ble_eq_true rfl) rfl dX9_bits_1 (fun hz1 => ?_)
  refine lv_if_ne (tgt := 9) hx hb dX9_bits_4 (by decide) (fun c1 => ?_) (fun c1 => ?_)
  · have hf := ite_f hf c1
    refine lv_aload_n hx hb dX9_bits_9 rfl (lv_at hl 0 rfl) ?_
    obtain ⟨t2, ht2, hf⟩ := ob hf
    refine k_WVsv hC LX9_127 ⟨Nat.le_of_ble_eq_true rfl, Nat.le_of_ble_eq_true rfl⟩ ⟨Nat.zero_le _, Nat.zero_le _⟩ (cM_findsRows l E ad x t2 ht2) rfl rfl hH rfl rfl rfl hl.1 rfl (Nat.le_of_ble_eq_true rfl) rfl dX9_bits_10 (fun H locs hz10 hH => ?_)
    have hH : Hp E (adr (wM E ad x)) (wM E ad (x.1, x.2.1, x.2.2.1, x.2.2.2.1, x.2.2.2.2.1, x.2.2.2.2.2.1, x.2.2.2.2.2.2.1, x.2.2.2.2.2.2.2.1, x.2.2.2.2.2.2.2.2.1, x.2.2.2.2.2.2.2.2.2.1, x.2.2.2.2.2.2.2.2.2.2.1, t2, x.2.2.2.2.2.2.2.2.2.2.2.2)) s.heap H locs := hH
    refine lv_lconst (v := 0) hx hb dX9_bits_13 (by decide) ?_
    refine lv_lstore_n (lv' := [(2, .long (0 : Int64)), (0, .ref (ad 0)), (1, .int a1)]) hx hb dX9_bits_14 rfl hl (by decide) rfl (fun ls hl => ?_)
    refine lv_aload_n hx hb dX9_bits_15 rfl (lv_at hl 1 rfl) ?_
    refine gX9_7 hC hH.1 0 rfl (v := .ref (ad 1)) rfl dX9_bits_16 ?_
    refine lv_iconst (v := 0) hx hb dX9_bits_19 (by decide) ?_
    obtain ⟨v3, hv3, hf⟩ := ob hf
    obtain ⟨hv3a, hv3b⟩ := ldA_ok hv3
    refine a_ild hC hH.1 1 rfl hv3a hv3b dX9_bits_20 ?_
    refine lv_iconst (v := 1) hx hb dX9_bits_21 (by decide) ?_
    refine lv_isub hx hb dX9_bits_22 ?_
    refine lv_istore (lv' := [(4, .int (v3 - (1 : Int32))), (2, .long (0 : Int64)), (0, .ref (ad 0)), (1, .int a1)]) hx hb dX9_bits_23 hl (by decide) rfl (fun ls hl => ?_)
    exact L25 FU t2 a1 (0 : Int64) (v3 - (1 : Int32)) ls (lv_sub hl [2, 3, 1, 0] rfl) _ _ hH hf
  · have hf := ite_t hf c1
    refine lv_lconst (v := 0) hx hb dX9_bits_7 (by decide) ?_
    cases hf
    exact e_Wl hC hH hr hlocks rfl rfl dX9_bits_8
abbrev rmM_counted : Room := { frames := 2, cells := 0, slots := 0, locals := 43 }
set_option maxHeartbeats 4000000 in
set_option maxRecDepth 100000 in
theorem cM_counted (l : Launch) (E : eE) (ad : Nat → Nat) (x : TM) (a1 : Int32) (a2 : Int32) (a3 : Int32) (r : Int32) (hf : fM_counted x.2.2.2.2.1 x.2.2.2.2.2.2.2.2.2.2.2.1 a1 a2 a3 = some r) : cP l E yX9_counted cX9_counted 6 (some .int) rmM_counted [.ref (ad 0), .int a1, .int a2, .int a3] (wM E ad x) (some (.int r)) := by
  refine Met.ofW (cc := cX9_counted) (maxL := 6) (ret := (some .int)) (by decide) rfl ?_
  intro p e s m args below meth c s₁ B hml hv
  obtain ⟨hargs, hP, hK⟩ := hv
  have hx := B.exec
  have hb := B.bytes
  have hr := B.returns
  have hts := atoms_spec (ws := ws_ yX9_counted cX9_counted 6 (some .int)) B.pre
  have hta : ∀ w ∈ lw_all, w.before args s = true := fun w h => hts w (List.mem_cons_of_mem _ h)
  have hown : s.vm.findClass RX9 = some m.cls := findClass_of_methodNamed B.named
  have hlocks := B.notSynchronized
  have hC : Cx p s m args c cX9_counted 6 RX9 E := ⟨hx, hb, hml, hown, hta, hK⟩
  obtain ⟨ls, he, hl⟩ := entry_ (m := m) (n := 6) hargs (Nat.le_of_ble_eq_true rfl)
  rw [he]
  have hl : lv_has ls 6 [(0, .ref (ad 0)), (1, .int a1), (2, .int a2), (3, .int a3)] := hl
  show W p l e rmM_counted s m args below meth c s.heap [] 0 0 (MQ below (qP (some .int) (some (.int r))) args s 0 0 (fun _ => False)) (F0 m 0 ls [])
  have L6 : ∀ (n : Nat) (a1 : Int32) (a2 : Int32) (a3 : Int32) (a4 : Int32) (a5 : Int32) (ls : Array Slot), lv_has ls 6 [(0, .ref (ad 0)), (1, .int a1), (2, .int a2), (3, .int a3), (4, .int a4), (5, .int a5)] → fM_counted_6 n x.2.2.2.2.1 x.2.2.2.2.2.2.2.2.2.2.2.1 a1 a2 a3 a4 a5 = some r → W p l e rmM_counted s m args below meth c s.heap [] 0 0 (MQ below (qP (some .int) (some (.int r))) args s 0 0 (fun _ => False)) (F0 m 6 ls []) := by
    intro n
    induction n with
    | zero => intro a1 a2 a3 a4 a5 ls hl hf; cases hf
    | succ n ih =>
      intro a1 a2 a3 a4 a5 ls hl hf
      rw [fM_counted_6] at hf
      refine lv_iload hx hb dX9_counted_6 (lv_at hl 5 rfl) ?_
      refine lv_iload_n hx hb dX9_counted_8 rfl (lv_at hl 3 rfl) ?_
      refine lv_icmp_ge (tgt := 39) hx hb dX9_counted_9 (by decide) (fun c1 => ?_) (fun c1 => ?_)
      · have hf := ite_t hf c1
        refine lv_iload hx hb dX9_counted_39 (lv_at hl 4 rfl) ?_
        have hf := Option.some.inj hf
        exact e_Pi hC hr hlocks hf dX9_counted_41
      · have hf := ite_f hf c1
        refine lv_iload hx hb dX9_counted_12 (lv_at hl 4 rfl) ?_
        refine lv_aload_n hx hb dX9_counted_14 rfl (lv_at hl 0 rfl) ?_
        refine lv_iload_n hx hb dX9_counted_15 rfl (lv_at hl 1 rfl) ?_
        refine lv_iload hx hb dX9_counted_16 (lv_at hl 5 rfl) ?_
        obtain ⟨t2, ht2, hf⟩ := ob hf
        refine k_PVi hC LX9_130 ⟨Nat.le_of_ble_eq_true rfl, Nat.le_of_ble_eq_true rfl⟩ ⟨Nat.zero_le _, Nat.zero_le _⟩ (cM_bitAt l E ad x a1 a5 t2 ht2) rfl rfl hP rfl rfl hl.1 rfl (Nat.le_of_ble_eq_true rfl) rfl dX9_counted_18 (fun hz18 => ?_)
        refine lv_iload_n hx hb dX9_counted_21 rfl (lv_at hl 2 rfl) ?_
        refine lv_icmp_ne (tgt := 29) hx hb dX9_counted_22 (by decide) (fun c3 => ?_) (fun c3 => ?_)
        · have hf := ite_f hf c3
          refine lv_iconst (v := 0) hx hb dX9_counted_29 (by decide) ?_
          refine lv_iadd hx hb dX9_counted_30 ?_
          refine lv_istore (lv' := [(4, .int (a4 + (0 : Int32))), (0, .ref (ad 0)), (1, .int a1), (2, .int a2), (3, .int a3), (5, .int a5)]) hx hb dX9_counted_31 hl (by decide) rfl (fun ls hl => ?_)
          refine lv_iinc (v := (a5 + (1 : Int32))) (lv' := [(5, .int (a5 + (1 : Int32))), (4, .int (a4 + (0 : Int32))), (0, .ref (ad 0)), (1, .int a1), (2, .int a2), (3, .int a3)]) hx hb dX9_counted_33 hl (k := 5) rfl rfl (by decide) rfl (fun ls hl => ?_)
          refine lv_goto (tgt := 6) hx hb dX9_counted_36 (by decide) ?_
          exact ih a1 a2 a3 (a4 + (0 : Int32)) (a5 + (1 : Int32)) ls (lv_sub hl [2, 3, 4, 5, 1, 0] rfl) hf
        · have hf := ite_t hf c3
          refine lv_iconst (v := 1) hx hb dX9_counted_25 (by decide) ?_
          refine lv_goto (tgt := 30) hx hb dX9_counted_26 (by decide) ?_
          refine lv_iadd hx hb dX9_counted_30 ?_
          refine lv_istore (lv' := [(4, .int (a4 + (1 : Int32))), (0, .ref (ad 0)), (1, .int a1), (2, .int a2), (3, .int a3), (5, .int a5)]) hx hb dX9_counted_31 hl (by decide) rfl (fun ls hl => ?_)
          refine lv_iinc (v := (a5 + (1 : Int32))) (lv' := [(5, .int (a5 + (1 : Int32))), (4, .int (a4 + (1 : Int32))), (0, .ref (ad 0)), (1, .int a1), (2, .int a2), (3, .int a3)]) hx hb dX9_counted_33 hl (k := 5) rfl rfl (by decide) rfl (fun ls hl => ?_)
          refine lv_goto (tgt := 6) hx hb dX9_counted_36 (by decide) ?_
          exact ih a1 a2 a3 (a4 + (1 : Int32)) (a5 + (1 : Int32)) ls (lv_sub hl [2, 3, 4, 5, 1, 0] rfl) hf
  rw [fM_counted] at hf
  refine lv_iconst (v := 0) hx hb dX9_counted_0 (by decide) ?_
  refine lv_istore (lv' := [(4, .int (0 : Int32)), (0, .ref (ad 0)), (1, .int a1), (2, .int a2), (3, .int a3)]) hx hb dX9_counted_1 hl (by decide) rfl (fun ls hl => ?_)
  refine lv_iconst (v := 0) hx hb dX9_counted_3 (by decide) ?_
  refine lv_istore (lv' := [(5, .int (0 : Int32)), (4, .int (0 : Int32)), (0, .ref (ad 0)), (1, .int a1), (2, .int a2), (3, .int a3)]) hx hb dX9_counted_4 hl (by decide) rfl (fun ls hl => ?_)
  exact L6 FU a1 a2 a3 (0 : Int32) (0 : Int32) ls (lv_sub hl [2, 3, 4, 5, 1, 0] rfl) hf
abbrev rmM_rank : Room := { frames := 3, cells := 0, slots := 0, locals := 68 }
set_option maxHeartbeats 4000000 in
set_option maxRecDepth 100000 in
theorem cM_rank (l : Launch) (E : eE) (ad : Nat → Nat) (x : TM) (a1 : Int32) (a2 : Int32) (a3 : Int32) (t : Int32 × (Nat → Int32)) (hf : fM_rank x.2.2.2.2.1 x.2.2.2.2.2.2.2.2.2.2.2.1 a1 a2 a3 = some t) : cW l E yX9_rank cX9_rank 4 (some .int) rmM_rank [.ref (ad 0), .int a1, .int a2, .int a3] (wM E ad x) (some (.int t.1)) (wM E ad (x.1, x.2.1, x.2.2.1, x.2.2.2.1, x.2.2.2.2.1, x.2.2.2.2.2.1, x.2.2.2.2.2.2.1, x.2.2.2.2.2.2.2.1, x.2.2.2.2.2.2.2.2.1, x.2.2.2.2.2.2.2.2.2.1, x.2.2.2.2.2.2.2.2.2.2.1, t.2, x.2.2.2.2.2.2.2.2.2.2.2.2)) := by
  refine Met.ofW (cc := cX9_rank) (maxL := 4) (ret := (some .int)) (by decide) rfl ?_
  intro p e s m args below meth c s₁ B hml hv
  obtain ⟨hargs, hP, hK, hD0⟩ := hv
  have hx := B.exec
  have hb := B.bytes
  have hr := B.returns
  have hts := atoms_spec (ws := ws_ yX9_rank cX9_rank 4 (some .int)) B.pre
  have hta : ∀ w ∈ lw_all, w.before args s = true := fun w h => hts w (List.mem_cons_of_mem _ h)
  have hown : s.vm.findClass RX9 = some m.cls := findClass_of_methodNamed B.named
  have hlocks := B.notSynchronized
  have hC : Cx p s m args c cX9_rank 4 RX9 E := ⟨hx, hb, hml, hown, hta, hK⟩
  have hH : Hp E (adr (wM E ad x)) (wM E ad x) s.heap s.heap [] := Hp.start hP hD0
  obtain ⟨ls, he, hl⟩ := entry_ (m := m) (n := 4) hargs (Nat.le_of_ble_eq_true rfl)
  rw [he]
  have hl : lv_has ls 4 [(0, .ref (ad 0)), (1, .int a1), (2, .int a2), (3, .int a3)] := hl
  show W p l e rmM_rank s m args below meth c s.heap [] 0 0 (MQ below (qW E (some .int) (some (.int t.1)) (wM E ad x) (wM E ad (x.1, x.2.1, x.2.2.1, x.2.2.2.1, x.2.2.2.2.1, x.2.2.2.2.2.1, x.2.2.2.2.2.2.1, x.2.2.2.2.2.2.2.1, x.2.2.2.2.2.2.2.2.1, x.2.2.2.2.2.2.2.2.2.1, x.2.2.2.2.2.2.2.2.2.2.1, t.2, x.2.2.2.2.2.2.2.2.2.2.2.2))) args s 0 0 (adr (wM E ad x))) (F0 m 0 ls [])
  suffices hmain : ∀ (H : Heap) (locs : List Loc), Hp E (adr (wM E ad x)) (wM E ad x) s.heap H locs → W p l e rmM_rank s m args below meth c H locs 0 0 (MQ below (qW E (some .int) (some (.int t.1)) (wM E ad x) (wM E ad (x.1, x.2.1, x.2.2.1, x.2.2.2.1, x.2.2.2.2.1, x.2.2.2.2.2.1, x.2.2.2.2.2.2.1, x.2.2.2.2.2.2.2.1, x.2.2.2.2.2.2.2.2.1, x.2.2.2.2.2.2.2.2.2.1, x.2.2.2.2.2.2.2.2.2.2.1, t.2, x.2.2.2.2.2.2.2.2.2.2.2.2))) args s 0 0 (adr (wM E ad x))) (F0 m 0 ls []) from hmain _ _ hH
  clear hH
  intro H locs hH
  rw [fM_rank] at hf
  refine lv_iload_n hx hb dX9_rank_0 rfl (lv_at hl 1 rfl) ?_
  refine k_PSi hC LX9_124 ⟨Nat.le_of_ble_eq_true rfl, Nat.le_of_ble_eq_true rfl⟩ ⟨Nat.zero_le _, Nat.zero_le _⟩ (cM_isRow l E a1 _ rfl) rfl rfl (vP_nil) hl.1 rfl (Nat.le_of_ble_eq_true rfl) rfl dX9_rank_1 (fun hz1 => ?_)
  refine lv_if_eq (tgt := 21) hx hb dX9_rank_4 (by decide) (fun c1 => ?_) (fun c1 => ?_)
  · have hf := ite_t hf c1
    refine lv_bipush (v := (-11)) hx hb dX9_rank_21 (by decide) ?_
    cases hf
    exact e_Wi hC hH hr hlocks rfl rfl dX9_rank_23
  · have hf := ite_f hf c1
    refine lv_iload_n hx hb dX9_rank_7 rfl (lv_at hl 3 rfl) ?_
    refine lv_iconst (v := 0) hx hb dX9_rank_8 (by decide) ?_
    refine lv_aload_n hx hb dX9_rank_9 rfl (lv_at hl 0 rfl) ?_
    refine gX9_7 hC hH.1 0 rfl (v := .ref (ad 1)) rfl dX9_rank_10 ?_
    refine lv_iconst (v := 0) hx hb dX9_rank_13 (by decide) ?_
    obtain ⟨v2, hv2, hf⟩ := ob hf
    obtain ⟨hv2a, hv2b⟩ := ldA_ok hv2
    refine a_ild hC hH.1 1 rfl hv2a hv2b dX9_rank_14 ?_
    refine k_PSi hC LX9_60 ⟨Nat.le_of_ble_eq_true rfl, Nat.le_of_ble_eq_true rfl⟩ ⟨Nat.zero_le _, Nat.zero_le _⟩ (cM_isBetween l E a3 (0 : Int32) v2 _ rfl) rfl rfl (vP_nil) hl.1 rfl (Nat.le_of_ble_eq_true rfl) rfl dX9_rank_15 (fun hz15 => ?_)
    refine lv_if_ne (tgt := 24) hx hb dX9_rank_18 (by decide) (fun c3 => ?_) (fun c3 => ?_)
    · have hf := ite_f hf c3
      refine lv_aload_n hx hb dX9_rank_24 rfl (lv_at hl 0 rfl) ?_
      obtain ⟨t4, ht4, hf⟩ := ob hf
      refine k_WVsv hC LX9_127 ⟨Nat.le_of_ble_eq_true rfl, Nat.le_of_ble_eq_true rfl⟩ ⟨Nat.zero_le _, Nat.zero_le _⟩ (cM_findsRows l E ad x t4 ht4) rfl rfl hH rfl rfl rfl hl.1 rfl (Nat.le_of_ble_eq_true rfl) rfl dX9_rank_25 (fun H locs hz25 hH => ?_)
      have hH : Hp E (adr (wM E ad x)) (wM E ad (x.1, x.2.1, x.2.2.1, x.2.2.2.1, x.2.2.2.2.1, x.2.2.2.2.2.1, x.2.2.2.2.2.2.1, x.2.2.2.2.2.2.2.1, x.2.2.2.2.2.2.2.2.1, x.2.2.2.2.2.2.2.2.2.1, x.2.2.2.2.2.2.2.2.2.2.1, t4, x.2.2.2.2.2.2.2.2.2.2.2.2)) s.heap H locs := hH
      refine lv_aload_n hx hb dX9_rank_28 rfl (lv_at hl 0 rfl) ?_
      refine lv_iload_n hx hb dX9_rank_29 rfl (lv_at hl 1 rfl) ?_
      refine lv_iload_n hx hb dX9_rank_30 rfl (lv_at hl 2 rfl) ?_
      refine lv_if_eq (tgt := 38) hx hb dX9_rank_31 (by decide) (fun c5 => ?_) (fun c5 => ?_)
      · have hf := ite_t hf c5
        refine lv_iconst (v := 0) hx hb dX9_rank_38 (by decide) ?_
        refine lv_iload_n hx hb dX9_rank_39 rfl (lv_at hl 3 rfl) ?_
        obtain ⟨t6, ht6, hf⟩ := ob hf
        refine k_PVi hC LX9_135 ⟨Nat.le_of_ble_eq_true rfl, Nat.le_of_ble_eq_true rfl⟩ ⟨Nat.zero_le _, Nat.zero_le _⟩ (cM_counted l E ad (x.1, x.2.1, x.2.2.1, x.2.2.2.1, x.2.2.2.2.1, x.2.2.2.2.2.1, x.2.2.2.2.2.2.1, x.2.2.2.2.2.2.2.1, x.2.2.2.2.2.2.2.2.1, x.2.2.2.2.2.2.2.2.2.1, x.2.2.2.2.2.2.2.2.2.2.1, t4, x.2.2.2.2.2.2.2.2.2.2.2.2) a1 (0 : Int32) a3 t6 ht6) rfl rfl hH.1 rfl rfl hl.1 rfl (Nat.le_of_ble_eq_true rfl) rfl dX9_rank_40 (fun hz40 => ?_)
        cases hf
        exact e_Wi hC hH hr hlocks rfl rfl dX9_rank_43
      · have hf := ite_f hf c5
        refine lv_iconst (v := 1) hx hb dX9_rank_34 (by decide) ?_
        refine lv_goto (tgt := 39) hx hb dX9_rank_35 (by decide) ?_
        refine lv_iload_n hx hb dX9_rank_39 rfl (lv_at hl 3 rfl) ?_
        obtain ⟨t7, ht7, hf⟩ := ob hf
        refine k_PVi hC LX9_135 ⟨Nat.le_of_ble_eq_true rfl, Nat.le_of_ble_eq_true rfl⟩ ⟨Nat.zero_le _, Nat.zero_le _⟩ (cM_counted l E ad (x.1, x.2.1, x.2.2.1, x.2.2.2.1, x.2.2.2.2.1, x.2.2.2.2.2.1, x.2.2.2.2.2.2.1, x.2.2.2.2.2.2.2.1, x.2.2.2.2.2.2.2.2.1, x.2.2.2.2.2.2.2.2.2.1, x.2.2.2.2.2.2.2.2.2.2.1, t4, x.2.2.2.2.2.2.2.2.2.2.2.2) a1 (1 : Int32) a3 t7 ht7) rfl rfl hH.1 rfl rfl hl.1 rfl (Nat.le_of_ble_eq_true rfl) rfl dX9_rank_40 (fun hz40 => ?_)
        cases hf
        exact e_Wi hC hH hr hlocks rfl rfl dX9_rank_43
    · have hf := ite_t hf c3
      refine lv_bipush (v := (-11)) hx hb dX9_rank_21 (by decide) ?_
      cases hf
      exact e_Wi hC hH hr hlocks rfl rfl dX9_rank_23
abbrev rmM_rankAgain : Room := { frames := 3, cells := 0, slots := 0, locals := 68 }
set_option maxHeartbeats 4000000 in
set_option maxRecDepth 100000 in
theorem cM_rankAgain (l : Launch) (E : eE) (ad : Nat → Nat) (x : TM) (a1 : Int32) (a2 : Int32) (a3 : Int32) (t : Int32 × (Nat → Int32)) (hf : fM_rankAgain x.2.2.2.2.1 x.2.2.2.2.2.2.2.2.2.2.2.1 a1 a2 a3 = some t) : cW l E yX9_rankAgain cX9_rankAgain 5 (some .int) rmM_rankAgain [.ref (ad 0), .int a1, .int a2, .int a3] (wM E ad x) (some (.int t.1)) (wM E ad (x.1, x.2.1, x.2.2.1, x.2.2.2.1, x.2.2.2.2.1, x.2.2.2.2.2.1, x.2.2.2.2.2.2.1, x.2.2.2.2.2.2.2.1, x.2.2.2.2.2.2.2.2.1, x.2.2.2.2.2.2.2.2.2.1, x.2.2.2.2.2.2.2.2.2.2.1, t.2, x.2.2.2.2.2.2.2.2.2.2.2.2)) := by
  refine Met.ofW (cc := cX9_rankAgain) (maxL := 5) (ret := (some .int)) (by decide) rfl ?_
  intro p e s m args below meth c s₁ B hml hv
  obtain ⟨hargs, hP, hK, hD0⟩ := hv
  have hx := B.exec
  have hb := B.bytes
  have hr := B.returns
  have hts := atoms_spec (ws := ws_ yX9_rankAgain cX9_rankAgain 5 (some .int)) B.pre
  have hta : ∀ w ∈ lw_all, w.before args s = true := fun w h => hts w (List.mem_cons_of_mem _ h)
  have hown : s.vm.findClass RX9 = some m.cls := findClass_of_methodNamed B.named
  have hlocks := B.notSynchronized
  have hC : Cx p s m args c cX9_rankAgain 5 RX9 E := ⟨hx, hb, hml, hown, hta, hK⟩
  have hH : Hp E (adr (wM E ad x)) (wM E ad x) s.heap s.heap [] := Hp.start hP hD0
  obtain ⟨ls, he, hl⟩ := entry_ (m := m) (n := 5) hargs (Nat.le_of_ble_eq_true rfl)
  rw [he]
  have hl : lv_has ls 5 [(0, .ref (ad 0)), (1, .int a1), (2, .int a2), (3, .int a3)] := hl
  show W p l e rmM_rankAgain s m args below meth c s.heap [] 0 0 (MQ below (qW E (some .int) (some (.int t.1)) (wM E ad x) (wM E ad (x.1, x.2.1, x.2.2.1, x.2.2.2.1, x.2.2.2.2.1, x.2.2.2.2.2.1, x.2.2.2.2.2.2.1, x.2.2.2.2.2.2.2.1, x.2.2.2.2.2.2.2.2.1, x.2.2.2.2.2.2.2.2.2.1, x.2.2.2.2.2.2.2.2.2.2.1, t.2, x.2.2.2.2.2.2.2.2.2.2.2.2))) args s 0 0 (adr (wM E ad x))) (F0 m 0 ls [])
  suffices hmain : ∀ (H : Heap) (locs : List Loc), Hp E (adr (wM E ad x)) (wM E ad x) s.heap H locs → W p l e rmM_rankAgain s m args below meth c H locs 0 0 (MQ below (qW E (some .int) (some (.int t.1)) (wM E ad x) (wM E ad (x.1, x.2.1, x.2.2.1, x.2.2.2.1, x.2.2.2.2.1, x.2.2.2.2.2.1, x.2.2.2.2.2.2.1, x.2.2.2.2.2.2.2.1, x.2.2.2.2.2.2.2.2.1, x.2.2.2.2.2.2.2.2.2.1, x.2.2.2.2.2.2.2.2.2.2.1, t.2, x.2.2.2.2.2.2.2.2.2.2.2.2))) args s 0 0 (adr (wM E ad x))) (F0 m 0 ls []) from hmain _ _ hH
  clear hH
  intro H locs hH
  rw [fM_rankAgain] at hf
  refine lv_iload_n hx hb dX9_rankAgain_0 rfl (lv_at hl 1 rfl) ?_
  refine k_PSi hC LX9_124 ⟨Nat.le_of_ble_eq_true rfl, Nat.le_of_ble_eq_true rfl⟩ ⟨Nat.zero_le _, Nat.zero_le _⟩ (cM_isRow l E a1 _ rfl) rfl rfl (vP_nil) hl.1 rfl (Nat.le_of_ble_eq_true rfl) rfl dX9_rankAgain_1 (fun hz1 => ?_)
  refine lv_if_eq (tgt := 21) hx hb dX9_rankAgain_4 (by decide) (fun c1 => ?_) (fun c1 => ?_)
  · have hf := ite_t hf c1
    refine lv_bipush (v := (-11)) hx hb dX9_rankAgain_21 (by decide) ?_
    cases hf
    exact e_Wi hC hH hr hlocks rfl rfl dX9_rankAgain_23
  · have hf := ite_f hf c1
    refine lv_iload_n hx hb dX9_rankAgain_7 rfl (lv_at hl 3 rfl) ?_
    refine lv_iconst (v := 0) hx hb dX9_rankAgain_8 (by decide) ?_
    refine lv_aload_n hx hb dX9_rankAgain_9 rfl (lv_at hl 0 rfl) ?_
    refine gX9_7 hC hH.1 0 rfl (v := .ref (ad 1)) rfl dX9_rankAgain_10 ?_
    refine lv_iconst (v := 0) hx hb dX9_rankAgain_13 (by decide) ?_
    obtain ⟨v2, hv2, hf⟩ := ob hf
    obtain ⟨hv2a, hv2b⟩ := ldA_ok hv2
    refine a_ild hC hH.1 1 rfl hv2a hv2b dX9_rankAgain_14 ?_
    refine k_PSi hC LX9_60 ⟨Nat.le_of_ble_eq_true rfl, Nat.le_of_ble_eq_true rfl⟩ ⟨Nat.zero_le _, Nat.zero_le _⟩ (cM_isBetween l E a3 (0 : Int32) v2 _ rfl) rfl rfl (vP_nil) hl.1 rfl (Nat.le_of_ble_eq_true rfl) rfl dX9_rankAgain_15 (fun hz15 => ?_)
    refine lv_if_ne (tgt := 24) hx hb dX9_rankAgain_18 (by decide) (fun c3 => ?_) (fun c3 => ?_)
    · have hf := ite_f hf c3
      refine lv_aload_n hx hb dX9_rankAgain_24 rfl (lv_at hl 0 rfl) ?_
      obtain ⟨t4, ht4, hf⟩ := ob hf
      refine k_WVsv hC LX9_127 ⟨Nat.le_of_ble_eq_true rfl, Nat.le_of_ble_eq_true rfl⟩ ⟨Nat.zero_le _, Nat.zero_le _⟩ (cM_findsRows l E ad x t4 ht4) rfl rfl hH rfl rfl rfl hl.1 rfl (Nat.le_of_ble_eq_true rfl) rfl dX9_rankAgain_25 (fun H locs hz25 hH => ?_)
      have hH : Hp E (adr (wM E ad x)) (wM E ad (x.1, x.2.1, x.2.2.1, x.2.2.2.1, x.2.2.2.2.1, x.2.2.2.2.2.1, x.2.2.2.2.2.2.1, x.2.2.2.2.2.2.2.1, x.2.2.2.2.2.2.2.2.1, x.2.2.2.2.2.2.2.2.2.1, x.2.2.2.2.2.2.2.2.2.2.1, t4, x.2.2.2.2.2.2.2.2.2.2.2.2)) s.heap H locs := hH
      refine lv_aload_n hx hb dX9_rankAgain_28 rfl (lv_at hl 0 rfl) ?_
      refine lv_iload_n hx hb dX9_rankAgain_29 rfl (lv_at hl 1 rfl) ?_
      refine lv_iconst (v := 1) hx hb dX9_rankAgain_30 (by decide) ?_
      refine lv_iload_n hx hb dX9_rankAgain_31 rfl (lv_at hl 3 rfl) ?_
      obtain ⟨t5, ht5, hf⟩ := ob hf
      refine k_PVi hC LX9_135 ⟨Nat.le_of_ble_eq_true rfl, Nat.le_of_ble_eq_true rfl⟩ ⟨Nat.zero_le _, Nat.zero_le _⟩ (cM_counted l E ad (x.1, x.2.1, x.2.2.1, x.2.2.2.1, x.2.2.2.2.1, x.2.2.2.2.2.1, x.2.2.2.2.2.2.1, x.2.2.2.2.2.2.2.1, x.2.2.2.2.2.2.2.2.1, x.2.2.2.2.2.2.2.2.2.1, x.2.2.2.2.2.2.2.2.2.2.1, t4, x.2.2.2.2.2.2.2.2.2.2.2.2) a1 (1 : Int32) a3 t5 ht5) rfl rfl hH.1 rfl rfl hl.1 rfl (Nat.le_of_ble_eq_true rfl) rfl dX9_rankAgain_32 (fun hz32 => ?_)
      refine lv_istore (lv' := [(4, .int t5), (0, .ref (ad 0)), (1, .int a1), (2, .int a2), (3, .int a3)]) hx hb dX9_rankAgain_35 hl (by decide) rfl (fun ls hl => ?_)
      refine lv_iload_n hx hb dX9_rankAgain_37 rfl (lv_at hl 3 rfl) ?_
      refine lv_if_eq (tgt := 46) hx hb dX9_rankAgain_38 (by decide) (fun c6 => ?_) (fun c6 => ?_)
      · have hf := ite_t hf c6
        refine lv_iload_n hx hb dX9_rankAgain_46 rfl (lv_at hl 4 rfl) ?_
        refine lv_iload hx hb dX9_rankAgain_47 (lv_at hl 0 rfl) ?_
        refine lv_isub hx hb dX9_rankAgain_49 ?_
        cases hf
        exact e_Wi hC hH hr hlocks rfl rfl dX9_rankAgain_50
      · have hf := ite_f hf c6
        refine lv_iload hx hb dX9_rankAgain_41 (lv_at hl 0 rfl) ?_
        refine lv_goto (tgt := 50) hx hb dX9_rankAgain_43 (by decide) ?_
        cases hf
        exact e_Wi hC hH hr hlocks rfl rfl dX9_rankAgain_50
    · have hf := ite_t hf c3
      refine lv_bipush (v := (-11)) hx hb dX9_rankAgain_21 (by decide) ?_
      cases hf
      exact e_Wi hC hH hr hlocks rfl rfl dX9_rankAgain_23
abbrev rmM_select : Room := { frames := 3, cells := 0, slots := 0, locals := 68 }
set_option maxHeartbeats 4000000 in
set_option maxRecDepth 100000 in
theorem cM_select (l : Launch) (E : eE) (ad : Nat → Nat) (x : TM) (a1 : Int32) (a2 : Int32) (a3 : Int32) (t : Int32 × (Nat → Int32)) (hf : fM_select x.2.2.2.2.1 x.2.2.2.2.2.2.2.2.2.2.2.1 a1 a2 a3 = some t) : cW l E yX9_select cX9_select 5 (some .int) rmM_select [.ref (ad 0), .int a1, .int a2, .int a3] (wM E ad x) (some (.int t.1)) (wM E ad (x.1, x.2.1, x.2.2.1, x.2.2.2.1, x.2.2.2.2.1, x.2.2.2.2.2.1, x.2.2.2.2.2.2.1, x.2.2.2.2.2.2.2.1, x.2.2.2.2.2.2.2.2.1, x.2.2.2.2.2.2.2.2.2.1, x.2.2.2.2.2.2.2.2.2.2.1, t.2, x.2.2.2.2.2.2.2.2.2.2.2.2)) := by
  refine Met.ofW (cc := cX9_select) (maxL := 5) (ret := (some .int)) (by decide) rfl ?_
  intro p e s m args below meth c s₁ B hml hv
  obtain ⟨hargs, hP, hK, hD0⟩ := hv
  have hx := B.exec
  have hb := B.bytes
  have hr := B.returns
  have hts := atoms_spec (ws := ws_ yX9_select cX9_select 5 (some .int)) B.pre
  have hta : ∀ w ∈ lw_all, w.before args s = true := fun w h => hts w (List.mem_cons_of_mem _ h)
  have hown : s.vm.findClass RX9 = some m.cls := findClass_of_methodNamed B.named
  have hlocks := B.notSynchronized
  have hC : Cx p s m args c cX9_select 5 RX9 E := ⟨hx, hb, hml, hown, hta, hK⟩
  have hH : Hp E (adr (wM E ad x)) (wM E ad x) s.heap s.heap [] := Hp.start hP hD0
  obtain ⟨ls, he, hl⟩ := entry_ (m := m) (n := 5) hargs (Nat.le_of_ble_eq_true rfl)
  rw [he]
  have hl : lv_has ls 5 [(0, .ref (ad 0)), (1, .int a1), (2, .int a2), (3, .int a3)] := hl
  show W p l e rmM_select s m args below meth c s.heap [] 0 0 (MQ below (qW E (some .int) (some (.int t.1)) (wM E ad x) (wM E ad (x.1, x.2.1, x.2.2.1, x.2.2.2.1, x.2.2.2.2.1, x.2.2.2.2.2.1, x.2.2.2.2.2.2.1, x.2.2.2.2.2.2.2.1, x.2.2.2.2.2.2.2.2.1, x.2.2.2.2.2.2.2.2.2.1, x.2.2.2.2.2.2.2.2.2.2.1, t.2, x.2.2.2.2.2.2.2.2.2.2.2.2))) args s 0 0 (adr (wM E ad x))) (F0 m 0 ls [])
  suffices hmain : ∀ (H : Heap) (locs : List Loc), Hp E (adr (wM E ad x)) (wM E ad x) s.heap H locs → W p l e rmM_select s m args below meth c H locs 0 0 (MQ below (qW E (some .int) (some (.int t.1)) (wM E ad x) (wM E ad (x.1, x.2.1, x.2.2.1, x.2.2.2.1, x.2.2.2.2.1, x.2.2.2.2.2.1, x.2.2.2.2.2.2.1, x.2.2.2.2.2.2.2.1, x.2.2.2.2.2.2.2.2.1, x.2.2.2.2.2.2.2.2.2.1, x.2.2.2.2.2.2.2.2.2.2.1, t.2, x.2.2.2.2.2.2.2.2.2.2.2.2))) args s 0 0 (adr (wM E ad x))) (F0 m 0 ls []) from hmain _ _ hH
  clear hH
  have L17 : ∀ (n : Nat) (y0_11 : (Nat → Int32)) (a1 : Int32) (a2 : Int32) (a3 : Int32) (a4 : Int32) (ls : Array Slot), lv_has ls 5 [(0, .ref (ad 0)), (1, .int a1), (2, .int a2), (3, .int a3), (4, .int a4)] → ∀ (H : Heap) (locs : List Loc), Hp E (adr (wM E ad x)) (wM E ad (x.1, x.2.1, x.2.2.1, x.2.2.2.1, x.2.2.2.2.1, x.2.2.2.2.2.1, x.2.2.2.2.2.2.1, x.2.2.2.2.2.2.2.1, x.2.2.2.2.2.2.2.2.1, x.2.2.2.2.2.2.2.2.2.1, x.2.2.2.2.2.2.2.2.2.2.1, y0_11, x.2.2.2.2.2.2.2.2.2.2.2.2)) s.heap H locs → fM_select_17 n x.2.2.2.2.1 y0_11 a1 a2 a3 a4 = some t → W p l e rmM_select s m args below meth c H locs 0 0 (MQ below (qW E (some .int) (some (.int t.1)) (wM E ad x) (wM E ad (x.1, x.2.1, x.2.2.1, x.2.2.2.1, x.2.2.2.2.1, x.2.2.2.2.2.1, x.2.2.2.2.2.2.1, x.2.2.2.2.2.2.2.1, x.2.2.2.2.2.2.2.2.1, x.2.2.2.2.2.2.2.2.2.1, x.2.2.2.2.2.2.2.2.2.2.1, t.2, x.2.2.2.2.2.2.2.2.2.2.2.2))) args s 0 0 (adr (wM E ad x))) (F0 m 17 ls []) := by
    intro n
    induction n with
    | zero => intro y0_11 a1 a2 a3 a4 ls hl H locs hH hf; cases hf
    | succ n ih =>
      intro y0_11 a1 a2 a3 a4 ls hl H locs hH hf
      rw [fM_select_17] at hf
      refine lv_iload hx hb dX9_select_17 (lv_at hl 4 rfl) ?_
      refine lv_aload_n hx hb dX9_select_19 rfl (lv_at hl 0 rfl) ?_
      refine gX9_7 hC hH.1 0 rfl (v := .ref (ad 1)) rfl dX9_select_20 ?_
      refine lv_iconst (v := 0) hx hb dX9_select_23 (by decide) ?_
      obtain ⟨v3, hv3, hf⟩ := ob hf
      obtain ⟨hv3a, hv3b⟩ := ldA_ok hv3
      refine a_ild hC hH.1 1 rfl hv3a hv3b dX9_select_24 ?_
      refine lv_icmp_ge (tgt := 76) hx hb dX9_select_25 (by decide) (fun c4 => ?_) (fun c4 => ?_)
      · have hf := ite_t hf c4
        refine lv_bipush (v := (-15)) hx hb dX9_select_76 (by decide) ?_
        cases hf
        exact e_Wi hC hH hr hlocks rfl rfl dX9_select_78
      · have hf := ite_f hf c4
        refine lv_aload_n hx hb dX9_select_28 rfl (lv_at hl 0 rfl) ?_
        refine lv_iload_n hx hb dX9_select_29 rfl (lv_at hl 1 rfl) ?_
        refine lv_iload hx hb dX9_select_30 (lv_at hl 4 rfl) ?_
        obtain ⟨t5, ht5, hf⟩ := ob hf
        refine k_PVi hC LX9_130 ⟨Nat.le_of_ble_eq_true rfl, Nat.le_of_ble_eq_true rfl⟩ ⟨Nat.zero_le _, Nat.zero_le _⟩ (cM_bitAt l E ad (x.1, x.2.1, x.2.2.1, x.2.2.2.1, x.2.2.2.2.1, x.2.2.2.2.2.1, x.2.2.2.2.2.2.1, x.2.2.2.2.2.2.2.1, x.2.2.2.2.2.2.2.2.1, x.2.2.2.2.2.2.2.2.2.1, x.2.2.2.2.2.2.2.2.2.2.1, y0_11, x.2.2.2.2.2.2.2.2.2.2.2.2) a1 a4 t5 ht5) rfl rfl hH.1 rfl rfl hl.1 rfl (Nat.le_of_ble_eq_true rfl) rfl dX9_select_32 (fun hz32 => ?_)
        refine lv_iload_n hx hb dX9_select_35 rfl (lv_at hl 2 rfl) ?_
        refine lv_if_eq (tgt := 43) hx hb dX9_select_36 (by decide) (fun c6 => ?_) (fun c6 => ?_)
        · have hf := ite_t hf c6
          refine lv_iconst (v := 0) hx hb dX9_select_43 (by decide) ?_
          refine lv_icmp_ne (tgt := 70) hx hb dX9_select_44 (by decide) (fun c7 => ?_) (fun c7 => ?_)
          · have hf := ite_f hf c7
            refine lv_iinc (v := (a4 + (1 : Int32))) (lv' := [(4, .int (a4 + (1 : Int32))), (0, .ref (ad 0)), (1, .int a1), (2, .int a2), (3, .int a3)]) hx hb dX9_select_70 hl (k := 4) rfl rfl (by decide) rfl (fun ls hl => ?_)
            refine lv_goto (tgt := 17) hx hb dX9_select_73 (by decide) ?_
            exact ih y0_11 a1 a2 a3 (a4 + (1 : Int32)) ls (lv_sub hl [1, 2, 3, 4, 0] rfl) _ _ hH hf
          · have hf := ite_t hf c7
            refine lv_aload_n hx hb dX9_select_47 rfl (lv_at hl 0 rfl) ?_
            refine lv_iload_n hx hb dX9_select_48 rfl (lv_at hl 1 rfl) ?_
            refine lv_iload_n hx hb dX9_select_49 rfl (lv_at hl 2 rfl) ?_
            refine lv_if_eq (tgt := 57) hx hb dX9_select_50 (by decide) (fun c8 => ?_) (fun c8 => ?_)
            · have hf := ite_t hf c8
              refine lv_iconst (v := 0) hx hb dX9_select_57 (by decide) ?_
              refine lv_iload hx hb dX9_select_58 (lv_at hl 4 rfl) ?_
              obtain ⟨t9, ht9, hf⟩ := ob hf
              refine k_PVi hC LX9_135 ⟨Nat.le_of_ble_eq_true rfl, Nat.le_of_ble_eq_true rfl⟩ ⟨Nat.zero_le _, Nat.zero_le _⟩ (cM_counted l E ad (x.1, x.2.1, x.2.2.1, x.2.2.2.1, x.2.2.2.2.1, x.2.2.2.2.2.1, x.2.2.2.2.2.2.1, x.2.2.2.2.2.2.2.1, x.2.2.2.2.2.2.2.2.1, x.2.2.2.2.2.2.2.2.2.1, x.2.2.2.2.2.2.2.2.2.2.1, y0_11, x.2.2.2.2.2.2.2.2.2.2.2.2) a1 (0 : Int32) a4 t9 ht9) rfl rfl hH.1 rfl rfl hl.1 rfl (Nat.le_of_ble_eq_true rfl) rfl dX9_select_60 (fun hz60 => ?_)
              refine lv_iload_n hx hb dX9_select_63 rfl (lv_at hl 3 rfl) ?_
              refine lv_icmp_ne (tgt := 70) hx hb dX9_select_64 (by decide) (fun c10 => ?_) (fun c10 => ?_)
              · have hf := ite_f hf c10
                refine lv_iinc (v := (a4 + (1 : Int32))) (lv' := [(4, .int (a4 + (1 : Int32))), (0, .ref (ad 0)), (1, .int a1), (2, .int a2), (3, .int a3)]) hx hb dX9_select_70 hl (k := 4) rfl rfl (by decide) rfl (fun ls hl => ?_)
                refine lv_goto (tgt := 17) hx hb dX9_select_73 (by decide) ?_
                exact ih y0_11 a1 a2 a3 (a4 + (1 : Int32)) ls (lv_sub hl [1, 2, 3, 4, 0] rfl) _ _ hH hf
              · have hf := ite_t hf c10
                refine lv_iload hx hb dX9_select_67 (lv_at hl 4 rfl) ?_
                cases hf
                exact e_Wi hC hH hr hlocks rfl rfl dX9_select_69
            · have hf := ite_f hf c8
              refine lv_iconst (v := 1) hx hb dX9_select_53 (by decide) ?_
              refine lv_goto (tgt := 58) hx hb dX9_select_54 (by decide) ?_
              refine lv_iload hx hb dX9_select_58 (lv_at hl 4 rfl) ?_
              obtain ⟨t11, ht11, hf⟩ := ob hf
              refine k_PVi hC LX9_135 ⟨Nat.le_of_ble_eq_true rfl, Nat.le_of_ble_eq_true rfl⟩ ⟨Nat.zero_le _, Nat.zero_le _⟩ (cM_counted l E ad (x.1, x.2.1, x.2.2.1, x.2.2.2.1, x.2.2.2.2.1, x.2.2.2.2.2.1, x.2.2.2.2.2.2.1, x.2.2.2.2.2.2.2.1, x.2.2.2.2.2.2.2.2.1, x.2.2.2.2.2.2.2.2.2.1, x.2.2.2.2.2.2.2.2.2.2.1, y0_11, x.2.2.2.2.2.2.2.2.2.2.2.2) a1 (1 : Int32) a4 t11 ht11) rfl rfl hH.1 rfl rfl hl.1 rfl (Nat.le_of_ble_eq_true rfl) rfl dX9_select_60 (fun hz60 => ?_)
              refine lv_iload_n hx hb dX9_select_63 rfl (lv_at hl 3 rfl) ?_
              refine lv_icmp_ne (tgt := 70) hx hb dX9_select_64 (by decide) (fun c12 => ?_) (fun c12 => ?_)
              · have hf := ite_f hf c12
                refine lv_iinc (v := (a4 + (1 : Int32))) (lv' := [(4, .int (a4 + (1 : Int32))), (0, .ref (ad 0)), (1, .int a1), (2, .int a2), (3, .int a3)]) hx hb dX9_select_70 hl (k := 4) rfl rfl (by decide) rfl (fun ls hl => ?_)
                refine lv_goto (tgt := 17) hx hb dX9_select_73 (by decide) ?_
                exact ih y0_11 a1 a2 a3 (a4 + (1 : Int32)) ls (lv_sub hl [1, 2, 3, 4, 0] rfl) _ _ hH hf
              · have hf := ite_t hf c12
                refine lv_iload hx hb dX9_select_67 (lv_at hl 4 rfl) ?_
                cases hf
                exact e_Wi hC hH hr hlocks rfl rfl dX9_select_69
        · have hf := ite_f hf c6
          refine lv_iconst (v := 1) hx hb dX9_select_39 (by decide) ?_
          refine lv_goto (tgt := 44) hx hb dX9_select_40 (by decide) ?_
          refine lv_icmp_ne (tgt := 70) hx hb dX9_select_44 (by decide) (fun c13 => ?_) (fun c13 => ?_)
          · have hf := ite_f hf c13
            refine lv_iinc (v := (a4 + (1 : Int32))) (lv' := [(4, .int (a4 + (1 : Int32))), (0, .ref (ad 0)), (1, .int a1), (2, .int a2), (3, .int a3)]) hx hb dX9_select_70 hl (k := 4) rfl rfl (by decide) rfl (fun ls hl => ?_)
            refine lv_goto (tgt := 17) hx hb dX9_select_73 (by decide) ?_
            exact ih y0_11 a1 a2 a3 (a4 + (1 : Int32)) ls (lv_sub hl [1, 2, 3, 4, 0] rfl) _ _ hH hf
          · have hf := ite_t hf c13
            refine lv_aload_n hx hb dX9_select_47 rfl (lv_at hl 0 rfl) ?_
            refine lv_iload_n hx hb dX9_select_48 rfl (lv_at hl 1 rfl) ?_
            refine lv_iload_n hx hb dX9_select_49 rfl (lv_at hl 2 rfl) ?_
            refine lv_if_eq (tgt := 57) hx hb dX9_select_50 (by decide) (fun c14 => ?_) (fun c14 => ?_)
            · have hf := ite_t hf c14
              refine lv_iconst (v := 0) hx hb dX9_select_57 (by decide) ?_
              refine lv_iload hx hb dX9_select_58 (lv_at hl 4 rfl) ?_
              obtain ⟨t15, ht15, hf⟩ := ob hf
              refine k_PVi hC LX9_135 ⟨Nat.le_of_ble_eq_true rfl, Nat.le_of_ble_eq_true rfl⟩ ⟨Nat.zero_le _, Nat.zero_le _⟩ (cM_counted l E ad (x.1, x.2.1, x.2.2.1, x.2.2.2.1, x.2.2.2.2.1, x.2.2.2.2.2.1, x.2.2.2.2.2.2.1, x.2.2.2.2.2.2.2.1, x.2.2.2.2.2.2.2.2.1, x.2.2.2.2.2.2.2.2.2.1, x.2.2.2.2.2.2.2.2.2.2.1, y0_11, x.2.2.2.2.2.2.2.2.2.2.2.2) a1 (0 : Int32) a4 t15 ht15) rfl rfl hH.1 rfl rfl hl.1 rfl (Nat.le_of_ble_eq_true rfl) rfl dX9_select_60 (fun hz60 => ?_)
              refine lv_iload_n hx hb dX9_select_63 rfl (lv_at hl 3 rfl) ?_
              refine lv_icmp_ne (tgt := 70) hx hb dX9_select_64 (by decide) (fun c16 => ?_) (fun c16 => ?_)
              · have hf := ite_f hf c16
                refine lv_iinc (v := (a4 + (1 : Int32))) (lv' := [(4, .int (a4 + (1 : Int32))), (0, .ref (ad 0)), (1, .int a1), (2, .int a2), (3, .int a3)]) hx hb dX9_select_70 hl (k := 4) rfl rfl (by decide) rfl (fun ls hl => ?_)
                refine lv_goto (tgt := 17) hx hb dX9_select_73 (by decide) ?_
                exact ih y0_11 a1 a2 a3 (a4 + (1 : Int32)) ls (lv_sub hl [1, 2, 3, 4, 0] rfl) _ _ hH hf
              · have hf := ite_t hf c16
                refine lv_iload hx hb dX9_select_67 (lv_at hl 4 rfl) ?_
                cases hf
                exact e_Wi hC hH hr hlocks rfl rfl dX9_select_69
            · have hf := ite_f hf c14
              refine lv_iconst (v := 1) hx hb dX9_select_53 (by decide) ?_
              refine lv_goto (tgt := 58) hx hb dX9_select_54 (by decide) ?_
              refine lv_iload hx hb dX9_select_58 (lv_at hl 4 rfl) ?_
              obtain ⟨t17, ht17, hf⟩ := ob hf
              refine k_PVi hC LX9_135 ⟨Nat.le_of_ble_eq_true rfl, Nat.le_of_ble_eq_true rfl⟩ ⟨Nat.zero_le _, Nat.zero_le _⟩ (cM_counted l E ad (x.1, x.2.1, x.2.2.1, x.2.2.2.1, x.2.2.2.2.1, x.2.2.2.2.2.1, x.2.2.2.2.2.2.1, x.2.2.2.2.2.2.2.1, x.2.2.2.2.2.2.2.2.1, x.2.2.2.2.2.2.2.2.2.1, x.2.2.2.2.2.2.2.2.2.2.1, y0_11, x.2.2.2.2.2.2.2.2.2.2.2.2) a1 (1 : Int32) a4 t17 ht17) rfl rfl hH.1 rfl rfl hl.1 rfl (Nat.le_of_ble_eq_true rfl) rfl dX9_select_60 (fun hz60 => ?_)
              refine lv_iload_n hx hb dX9_select_63 rfl (lv_at hl 3 rfl) ?_
              refine lv_icmp_ne (tgt := 70) hx hb dX9_select_64 (by decide) (fun c18 => ?_) (fun c18 => ?_)
              · have hf := ite_f hf c18
                refine lv_iinc (v := (a4 + (1 : Int32))) (lv' := [(4, .int (a4 + (1 : Int32))), (0, .ref (ad 0)), (1, .int a1), (2, .int a2), (3, .int a3)]) hx hb dX9_select_70 hl (k := 4) rfl rfl (by decide) rfl (fun ls hl => ?_)
                refine lv_goto (tgt := 17) hx hb dX9_select_73 (by decide) ?_
                exact ih y0_11 a1 a2 a3 (a4 + (1 : Int32)) ls (lv_sub hl [1, 2, 3, 4, 0] rfl) _ _ hH hf
              · have hf := ite_t hf c18
                refine lv_iload hx hb dX9_select_67 (lv_at hl 4 rfl) ?_
                cases hf
                exact e_Wi hC hH hr hlocks rfl rfl dX9_select_69
  intro H locs hH
  rw [fM_select] at hf
  refine lv_iload_n hx hb dX9_select_0 rfl (lv_at hl 1 rfl) ?_
  refine k_PSi hC LX9_124 ⟨Nat.le_of_ble_eq_true rfl, Nat.le_of_ble_eq_true rfl⟩ ⟨Nat.zero_le _, Nat.zero_le _⟩ (cM_isRow l E a1 _ rfl) rfl rfl (vP_nil) hl.1 rfl (Nat.le_of_ble_eq_true rfl) rfl dX9_select_1 (fun hz1 => ?_)
  refine lv_if_ne (tgt := 10) hx hb dX9_select_4 (by decide) (fun c1 => ?_) (fun c1 => ?_)
  · have hf := ite_f hf c1
    refine lv_aload_n hx hb dX9_select_10 rfl (lv_at hl 0 rfl) ?_
    obtain ⟨t2, ht2, hf⟩ := ob hf
    refine k_WVsv hC LX9_127 ⟨Nat.le_of_ble_eq_true rfl, Nat.le_of_ble_eq_true rfl⟩ ⟨Nat.zero_le _, Nat.zero_le _⟩ (cM_findsRows l E ad x t2 ht2) rfl rfl hH rfl rfl rfl hl.1 rfl (Nat.le_of_ble_eq_true rfl) rfl dX9_select_11 (fun H locs hz11 hH => ?_)
    have hH : Hp E (adr (wM E ad x)) (wM E ad (x.1, x.2.1, x.2.2.1, x.2.2.2.1, x.2.2.2.2.1, x.2.2.2.2.2.1, x.2.2.2.2.2.2.1, x.2.2.2.2.2.2.2.1, x.2.2.2.2.2.2.2.2.1, x.2.2.2.2.2.2.2.2.2.1, x.2.2.2.2.2.2.2.2.2.2.1, t2, x.2.2.2.2.2.2.2.2.2.2.2.2)) s.heap H locs := hH
    refine lv_iconst (v := 0) hx hb dX9_select_14 (by decide) ?_
    refine lv_istore (lv' := [(4, .int (0 : Int32)), (0, .ref (ad 0)), (1, .int a1), (2, .int a2), (3, .int a3)]) hx hb dX9_select_15 hl (by decide) rfl (fun ls hl => ?_)
    exact L17 FU t2 a1 a2 a3 (0 : Int32) ls (lv_sub hl [1, 2, 3, 4, 0] rfl) _ _ hH hf
  · have hf := ite_t hf c1
    refine lv_bipush (v := (-11)) hx hb dX9_select_7 (by decide) ?_
    cases hf
    exact e_Wi hC hH hr hlocks rfl rfl dX9_select_9
abbrev rmM_standsIn : Room := { frames := 0, cells := 0, slots := 0, locals := 0 }
set_option maxHeartbeats 4000000 in
set_option maxRecDepth 100000 in
theorem cM_standsIn (l : Launch) (E : eE) (ad : Nat → Nat) (x : TM) (a1 : Int32) (a2 : Int32) (r : Int32) (hf : fM_standsIn x.2.2.2.2.2.2.2.2.2.2.2.1 a1 a2 = some r) : cP l E yX9_standsIn cX9_standsIn 4 (some .int) rmM_standsIn [.ref (ad 0), .int a1, .int a2] (wM E ad x) (some (.int r)) := by
  refine Met.ofW (cc := cX9_standsIn) (maxL := 4) (ret := (some .int)) (by decide) rfl ?_
  intro p e s m args below meth c s₁ B hml hv
  obtain ⟨hargs, hP, hK⟩ := hv
  have hx := B.exec
  have hb := B.bytes
  have hr := B.returns
  have hts := atoms_spec (ws := ws_ yX9_standsIn cX9_standsIn 4 (some .int)) B.pre
  have hta : ∀ w ∈ lw_all, w.before args s = true := fun w h => hts w (List.mem_cons_of_mem _ h)
  have hown : s.vm.findClass RX9 = some m.cls := findClass_of_methodNamed B.named
  have hlocks := B.notSynchronized
  have hC : Cx p s m args c cX9_standsIn 4 RX9 E := ⟨hx, hb, hml, hown, hta, hK⟩
  obtain ⟨ls, he, hl⟩ := entry_ (m := m) (n := 4) hargs (Nat.le_of_ble_eq_true rfl)
  rw [he]
  have hl : lv_has ls 4 [(0, .ref (ad 0)), (1, .int a1), (2, .int a2)] := hl
  show W p l e rmM_standsIn s m args below meth c s.heap [] 0 0 (MQ below (qP (some .int) (some (.int r))) args s 0 0 (fun _ => False)) (F0 m 0 ls [])
  have L2 : ∀ (n : Nat) (a1 : Int32) (a2 : Int32) (a3 : Int32) (ls : Array Slot), lv_has ls 4 [(0, .ref (ad 0)), (1, .int a1), (2, .int a2), (3, .int a3)] → fM_standsIn_2 n x.2.2.2.2.2.2.2.2.2.2.2.1 a1 a2 a3 = some r → W p l e rmM_standsIn s m args below meth c s.heap [] 0 0 (MQ below (qP (some .int) (some (.int r))) args s 0 0 (fun _ => False)) (F0 m 2 ls []) := by
    intro n
    induction n with
    | zero => intro a1 a2 a3 ls hl hf; cases hf
    | succ n ih =>
      intro a1 a2 a3 ls hl hf
      rw [fM_standsIn_2] at hf
      refine lv_aload_n hx hb dX9_standsIn_2 rfl (lv_at hl 0 rfl) ?_
      refine gX9_22 hC hP 0 rfl (v := .ref (ad 5)) rfl dX9_standsIn_3 ?_
      refine lv_bipush (v := 64) hx hb dX9_standsIn_6 (by decide) ?_
      refine lv_iload_n hx hb dX9_standsIn_8 rfl (lv_at hl 1 rfl) ?_
      refine lv_imul hx hb dX9_standsIn_9 ?_
      refine lv_iload_n hx hb dX9_standsIn_10 rfl (lv_at hl 3 rfl) ?_
      refine lv_iadd hx hb dX9_standsIn_11 ?_
      obtain ⟨v1, hv1, hf⟩ := ob hf
      obtain ⟨hv1a, hv1b⟩ := ldA_ok hv1
      refine a_ild hC hP 5 rfl hv1a hv1b dX9_standsIn_12 ?_
      refine lv_iload_n hx hb dX9_standsIn_13 rfl (lv_at hl 2 rfl) ?_
      refine lv_icmp_eq (tgt := 23) hx hb dX9_standsIn_14 (by decide) (fun c2 => ?_) (fun c2 => ?_)
      · have hf := ite_t hf c2
        refine lv_iload_n hx hb dX9_standsIn_23 rfl (lv_at hl 3 rfl) ?_
        have hf := Option.some.inj hf
        exact e_Pi hC hr hlocks hf dX9_standsIn_24
      · have hf := ite_f hf c2
        refine lv_iinc (v := (a3 + (1 : Int32))) (lv' := [(3, .int (a3 + (1 : Int32))), (0, .ref (ad 0)), (1, .int a1), (2, .int a2)]) hx hb dX9_standsIn_17 hl (k := 3) rfl rfl (by decide) rfl (fun ls hl => ?_)
        refine lv_goto (tgt := 2) hx hb dX9_standsIn_20 (by decide) ?_
        exact ih a1 a2 (a3 + (1 : Int32)) ls (lv_sub hl [1, 2, 3, 0] rfl) hf
  rw [fM_standsIn] at hf
  refine lv_iconst (v := 0) hx hb dX9_standsIn_0 (by decide) ?_
  refine lv_istore_n (lv' := [(3, .int (0 : Int32)), (0, .ref (ad 0)), (1, .int a1), (2, .int a2)]) hx hb dX9_standsIn_1 rfl hl (by decide) rfl (fun ls hl => ?_)
  exact L2 FU a1 a2 (0 : Int32) ls (lv_sub hl [1, 2, 3, 0] rfl) hf
abbrev rmM_placeIn : Room := { frames := 2, cells := 0, slots := 0, locals := 47 }
set_option maxHeartbeats 4000000 in
set_option maxRecDepth 100000 in
theorem cM_placeIn (l : Launch) (E : eE) (ad : Nat → Nat) (x : TM) (a1 : Int32) (a2 : Int32) (t : Int32 × (Nat → Int32)) (hf : fM_placeIn x.2.2.2.2.1 x.2.2.2.2.2.2.2.2.2.2.2.1 a1 a2 = some t) : cW l E yX9_placeIn cX9_placeIn 3 (some .int) rmM_placeIn [.ref (ad 0), .int a1, .int a2] (wM E ad x) (some (.int t.1)) (wM E ad (x.1, x.2.1, x.2.2.1, x.2.2.2.1, x.2.2.2.2.1, x.2.2.2.2.2.1, x.2.2.2.2.2.2.1, x.2.2.2.2.2.2.2.1, x.2.2.2.2.2.2.2.2.1, x.2.2.2.2.2.2.2.2.2.1, x.2.2.2.2.2.2.2.2.2.2.1, t.2, x.2.2.2.2.2.2.2.2.2.2.2.2)) := by
  refine Met.ofW (cc := cX9_placeIn) (maxL := 3) (ret := (some .int)) (by decide) rfl ?_
  intro p e s m args below meth c s₁ B hml hv
  obtain ⟨hargs, hP, hK, hD0⟩ := hv
  have hx := B.exec
  have hb := B.bytes
  have hr := B.returns
  have hts := atoms_spec (ws := ws_ yX9_placeIn cX9_placeIn 3 (some .int)) B.pre
  have hta : ∀ w ∈ lw_all, w.before args s = true := fun w h => hts w (List.mem_cons_of_mem _ h)
  have hown : s.vm.findClass RX9 = some m.cls := findClass_of_methodNamed B.named
  have hlocks := B.notSynchronized
  have hC : Cx p s m args c cX9_placeIn 3 RX9 E := ⟨hx, hb, hml, hown, hta, hK⟩
  have hH : Hp E (adr (wM E ad x)) (wM E ad x) s.heap s.heap [] := Hp.start hP hD0
  obtain ⟨ls, he, hl⟩ := entry_ (m := m) (n := 3) hargs (Nat.le_of_ble_eq_true rfl)
  rw [he]
  have hl : lv_has ls 3 [(0, .ref (ad 0)), (1, .int a1), (2, .int a2)] := hl
  show W p l e rmM_placeIn s m args below meth c s.heap [] 0 0 (MQ below (qW E (some .int) (some (.int t.1)) (wM E ad x) (wM E ad (x.1, x.2.1, x.2.2.1, x.2.2.2.1, x.2.2.2.2.1, x.2.2.2.2.2.1, x.2.2.2.2.2.2.1, x.2.2.2.2.2.2.2.1, x.2.2.2.2.2.2.2.2.1, x.2.2.2.2.2.2.2.2.2.1, x.2.2.2.2.2.2.2.2.2.2.1, t.2, x.2.2.2.2.2.2.2.2.2.2.2.2))) args s 0 0 (adr (wM E ad x))) (F0 m 0 ls [])
  suffices hmain : ∀ (H : Heap) (locs : List Loc), Hp E (adr (wM E ad x)) (wM E ad x) s.heap H locs → W p l e rmM_placeIn s m args below meth c H locs 0 0 (MQ below (qW E (some .int) (some (.int t.1)) (wM E ad x) (wM E ad (x.1, x.2.1, x.2.2.1, x.2.2.2.1, x.2.2.2.2.1, x.2.2.2.2.2.1, x.2.2.2.2.2.2.1, x.2.2.2.2.2.2.2.1, x.2.2.2.2.2.2.2.2.1, x.2.2.2.2.2.2.2.2.2.1, x.2.2.2.2.2.2.2.2.2.2.1, t.2, x.2.2.2.2.2.2.2.2.2.2.2.2))) args s 0 0 (adr (wM E ad x))) (F0 m 0 ls []) from hmain _ _ hH
  clear hH
  intro H locs hH
  rw [fM_placeIn] at hf
  refine lv_iload_n hx hb dX9_placeIn_0 rfl (lv_at hl 1 rfl) ?_
  refine k_PSi hC LX9_124 ⟨Nat.le_of_ble_eq_true rfl, Nat.le_of_ble_eq_true rfl⟩ ⟨Nat.zero_le _, Nat.zero_le _⟩ (cM_isRow l E a1 _ rfl) rfl rfl (vP_nil) hl.1 rfl (Nat.le_of_ble_eq_true rfl) rfl dX9_placeIn_1 (fun hz1 => ?_)
  refine lv_if_eq (tgt := 15) hx hb dX9_placeIn_4 (by decide) (fun c1 => ?_) (fun c1 => ?_)
  · have hf := ite_t hf c1
    refine lv_bipush (v := (-11)) hx hb dX9_placeIn_15 (by decide) ?_
    cases hf
    exact e_Wi hC hH hr hlocks rfl rfl dX9_placeIn_17
  · have hf := ite_f hf c1
    refine lv_aload_n hx hb dX9_placeIn_7 rfl (lv_at hl 0 rfl) ?_
    refine lv_iload_n hx hb dX9_placeIn_8 rfl (lv_at hl 2 rfl) ?_
    obtain ⟨t2, ht2, hf⟩ := ob hf
    refine k_PVi hC LX9_89 ⟨Nat.le_of_ble_eq_true rfl, Nat.le_of_ble_eq_true rfl⟩ ⟨Nat.zero_le _, Nat.zero_le _⟩ (cM_isLetter l E ad x a2 t2 ht2) rfl rfl hH.1 rfl rfl hl.1 rfl (Nat.le_of_ble_eq_true rfl) rfl dX9_placeIn_9 (fun hz9 => ?_)
    refine lv_if_ne (tgt := 18) hx hb dX9_placeIn_12 (by decide) (fun c3 => ?_) (fun c3 => ?_)
    · have hf := ite_f hf c3
      refine lv_aload_n hx hb dX9_placeIn_18 rfl (lv_at hl 0 rfl) ?_
      obtain ⟨t4, ht4, hf⟩ := ob hf
      refine k_WVsv hC LX9_127 ⟨Nat.le_of_ble_eq_true rfl, Nat.le_of_ble_eq_true rfl⟩ ⟨Nat.zero_le _, Nat.zero_le _⟩ (cM_findsRows l E ad x t4 ht4) rfl rfl hH rfl rfl rfl hl.1 rfl (Nat.le_of_ble_eq_true rfl) rfl dX9_placeIn_19 (fun H locs hz19 hH => ?_)
      have hH : Hp E (adr (wM E ad x)) (wM E ad (x.1, x.2.1, x.2.2.1, x.2.2.2.1, x.2.2.2.2.1, x.2.2.2.2.2.1, x.2.2.2.2.2.2.1, x.2.2.2.2.2.2.2.1, x.2.2.2.2.2.2.2.2.1, x.2.2.2.2.2.2.2.2.2.1, x.2.2.2.2.2.2.2.2.2.2.1, t4, x.2.2.2.2.2.2.2.2.2.2.2.2)) s.heap H locs := hH
      refine lv_aload_n hx hb dX9_placeIn_22 rfl (lv_at hl 0 rfl) ?_
      refine lv_iload_n hx hb dX9_placeIn_23 rfl (lv_at hl 1 rfl) ?_
      refine lv_iload_n hx hb dX9_placeIn_24 rfl (lv_at hl 2 rfl) ?_
      obtain ⟨t5, ht5, hf⟩ := ob hf
      refine k_PVi hC LX9_139 ⟨Nat.le_of_ble_eq_true rfl, Nat.le_of_ble_eq_true rfl⟩ ⟨Nat.zero_le _, Nat.zero_le _⟩ (cM_standsIn l E ad (x.1, x.2.1, x.2.2.1, x.2.2.2.1, x.2.2.2.2.1, x.2.2.2.2.2.1, x.2.2.2.2.2.2.1, x.2.2.2.2.2.2.2.1, x.2.2.2.2.2.2.2.2.1, x.2.2.2.2.2.2.2.2.2.1, x.2.2.2.2.2.2.2.2.2.2.1, t4, x.2.2.2.2.2.2.2.2.2.2.2.2) a1 a2 t5 ht5) rfl rfl hH.1 rfl rfl hl.1 rfl (Nat.le_of_ble_eq_true rfl) rfl dX9_placeIn_25 (fun hz25 => ?_)
      cases hf
      exact e_Wi hC hH hr hlocks rfl rfl dX9_placeIn_28
    · have hf := ite_t hf c3
      refine lv_bipush (v := (-11)) hx hb dX9_placeIn_15 (by decide) ?_
      cases hf
      exact e_Wi hC hH hr hlocks rfl rfl dX9_placeIn_17
abbrev rmM_weight : Room := { frames := 2, cells := 0, slots := 0, locals := 43 }
set_option maxHeartbeats 4000000 in
set_option maxRecDepth 100000 in
theorem cM_weight (l : Launch) (E : eE) (ad : Nat → Nat) (x : TM) (a1 : Int32) (r : Int32) (hf : fM_weight x.2.2.2.2.1 a1 = some r) : cP l E yX9_weight cX9_weight 2 (some .int) rmM_weight [.ref (ad 0), .int a1] (wM E ad x) (some (.int r)) := by
  refine Met.ofW (cc := cX9_weight) (maxL := 2) (ret := (some .int)) (by decide) rfl ?_
  intro p e s m args below meth c s₁ B hml hv
  obtain ⟨hargs, hP, hK⟩ := hv
  have hx := B.exec
  have hb := B.bytes
  have hr := B.returns
  have hts := atoms_spec (ws := ws_ yX9_weight cX9_weight 2 (some .int)) B.pre
  have hta : ∀ w ∈ lw_all, w.before args s = true := fun w h => hts w (List.mem_cons_of_mem _ h)
  have hown : s.vm.findClass RX9 = some m.cls := findClass_of_methodNamed B.named
  have hlocks := B.notSynchronized
  have hC : Cx p s m args c cX9_weight 2 RX9 E := ⟨hx, hb, hml, hown, hta, hK⟩
  obtain ⟨ls, he, hl⟩ := entry_ (m := m) (n := 2) hargs (Nat.le_of_ble_eq_true rfl)
  rw [he]
  have hl : lv_has ls 2 [(0, .ref (ad 0)), (1, .int a1)] := hl
  show W p l e rmM_weight s m args below meth c s.heap [] 0 0 (MQ below (qP (some .int) (some (.int r))) args s 0 0 (fun _ => False)) (F0 m 0 ls [])
  rw [fM_weight] at hf
  refine lv_aload_n hx hb dX9_weight_0 rfl (lv_at hl 0 rfl) ?_
  refine lv_iload_n hx hb dX9_weight_1 rfl (lv_at hl 1 rfl) ?_
  obtain ⟨t1, ht1, hf⟩ := ob hf
  refine k_PVi hC LX9_89 ⟨Nat.le_of_ble_eq_true rfl, Nat.le_of_ble_eq_true rfl⟩ ⟨Nat.zero_le _, Nat.zero_le _⟩ (cM_isLetter l E ad x a1 t1 ht1) rfl rfl hP rfl rfl hl.1 rfl (Nat.le_of_ble_eq_true rfl) rfl dX9_weight_2 (fun hz2 => ?_)
  refine lv_if_eq (tgt := 16) hx hb dX9_weight_5 (by decide) (fun c2 => ?_) (fun c2 => ?_)
  · have hf := ite_t hf c2
    refine lv_bipush (v := (-11)) hx hb dX9_weight_16 (by decide) ?_
    have hf := Option.some.inj hf
    exact e_Pi hC hr hlocks hf dX9_weight_18
  · have hf := ite_f hf c2
    refine lv_aload_n hx hb dX9_weight_8 rfl (lv_at hl 0 rfl) ?_
    refine lv_iload_n hx hb dX9_weight_9 rfl (lv_at hl 1 rfl) ?_
    obtain ⟨t3, ht3, hf⟩ := ob hf
    refine k_PVi hC LX9_86 ⟨Nat.le_of_ble_eq_true rfl, Nat.le_of_ble_eq_true rfl⟩ ⟨Nat.zero_le _, Nat.zero_le _⟩ (cM_is l E ad x a1 t3 ht3) rfl rfl hP rfl rfl hl.1 rfl (Nat.le_of_ble_eq_true rfl) rfl dX9_weight_10 (fun hz10 => ?_)
    refine lv_goto (tgt := 18) hx hb dX9_weight_13 (by decide) ?_
    have hf := Option.some.inj hf
    exact e_Pi hC hr hlocks hf dX9_weight_18
abbrev rmM_byBits : Room := { frames := 2, cells := 0, slots := 0, locals := 43 }
set_option maxHeartbeats 4000000 in
set_option maxRecDepth 100000 in
theorem cM_byBits (l : Launch) (E : eE) (ad : Nat → Nat) (x : TM) (a1 : Int32) (r : Int32) (hf : fM_byBits x.2.2.2.2.1 x.2.2.2.2.2.2.2.2.2.2.2.1 a1 = some r) : cP l E yX9_byBits cX9_byBits 4 (some .int) rmM_byBits [.ref (ad 0), .int a1] (wM E ad x) (some (.int r)) := by
  refine Met.ofW (cc := cX9_byBits) (maxL := 4) (ret := (some .int)) (by decide) rfl ?_
  intro p e s m args below meth c s₁ B hml hv
  obtain ⟨hargs, hP, hK⟩ := hv
  have hx := B.exec
  have hb := B.bytes
  have hr := B.returns
  have hts := atoms_spec (ws := ws_ yX9_byBits cX9_byBits 4 (some .int)) B.pre
  have hta : ∀ w ∈ lw_all, w.before args s = true := fun w h => hts w (List.mem_cons_of_mem _ h)
  have hown : s.vm.findClass RX9 = some m.cls := findClass_of_methodNamed B.named
  have hlocks := B.notSynchronized
  have hC : Cx p s m args c cX9_byBits 4 RX9 E := ⟨hx, hb, hml, hown, hta, hK⟩
  obtain ⟨ls, he, hl⟩ := entry_ (m := m) (n := 4) hargs (Nat.le_of_ble_eq_true rfl)
  rw [he]
  have hl : lv_has ls 4 [(0, .ref (ad 0)), (1, .int a1)] := hl
  show W p l e rmM_byBits s m args below meth c s.heap [] 0 0 (MQ below (qP (some .int) (some (.int r))) args s 0 0 (fun _ => False)) (F0 m 0 ls [])
  have L4 : ∀ (n : Nat) (a1 : Int32) (a2 : Int32) (a3 : Int32) (ls : Array Slot), lv_has ls 4 [(0, .ref (ad 0)), (1, .int a1), (2, .int a2), (3, .int a3)] → fM_byBits_4 n x.2.2.2.2.1 x.2.2.2.2.2.2.2.2.2.2.2.1 a1 a2 a3 = some r → W p l e rmM_byBits s m args below meth c s.heap [] 0 0 (MQ below (qP (some .int) (some (.int r))) args s 0 0 (fun _ => False)) (F0 m 4 ls []) := by
    intro n
    induction n with
    | zero => intro a1 a2 a3 ls hl hf; cases hf
    | succ n ih =>
      intro a1 a2 a3 ls hl hf
      rw [fM_byBits_4] at hf
      refine lv_iload_n hx hb dX9_byBits_4 rfl (lv_at hl 3 rfl) ?_
      refine lv_iconst (v := 5) hx hb dX9_byBits_5 (by decide) ?_
      refine lv_icmp_ge (tgt := 31) hx hb dX9_byBits_6 (by decide) (fun c1 => ?_) (fun c1 => ?_)
      · have hf := ite_t hf c1
        refine lv_iload_n hx hb dX9_byBits_31 rfl (lv_at hl 2 rfl) ?_
        have hf := Option.some.inj hf
        exact e_Pi hC hr hlocks hf dX9_byBits_32
      · have hf := ite_f hf c1
        refine lv_iconst (v := 2) hx hb dX9_byBits_9 (by decide) ?_
        refine lv_iload_n hx hb dX9_byBits_10 rfl (lv_at hl 2 rfl) ?_
        refine lv_imul hx hb dX9_byBits_11 ?_
        refine lv_aload_n hx hb dX9_byBits_12 rfl (lv_at hl 0 rfl) ?_
        refine lv_iload_n hx hb dX9_byBits_13 rfl (lv_at hl 3 rfl) ?_
        refine lv_aload_n hx hb dX9_byBits_14 rfl (lv_at hl 0 rfl) ?_
        refine lv_iload_n hx hb dX9_byBits_15 rfl (lv_at hl 3 rfl) ?_
        refine lv_iload_n hx hb dX9_byBits_16 rfl (lv_at hl 1 rfl) ?_
        obtain ⟨t2, ht2, hf⟩ := ob hf
        refine k_PVi hC LX9_139 ⟨Nat.le_of_ble_eq_true rfl, Nat.le_of_ble_eq_true rfl⟩ ⟨Nat.zero_le _, Nat.zero_le _⟩ (cM_standsIn l E ad x a3 a1 t2 ht2) rfl rfl hP rfl rfl hl.1 rfl (Nat.le_of_ble_eq_true rfl) rfl dX9_byBits_17 (fun hz17 => ?_)
        obtain ⟨t3, ht3, hf⟩ := ob hf
        refine k_PVi hC LX9_130 ⟨Nat.le_of_ble_eq_true rfl, Nat.le_of_ble_eq_true rfl⟩ ⟨Nat.zero_le _, Nat.zero_le _⟩ (cM_bitAt l E ad x a3 t2 t3 ht3) rfl rfl hP rfl rfl hl.1 rfl (Nat.le_of_ble_eq_true rfl) rfl dX9_byBits_20 (fun hz20 => ?_)
        refine lv_iadd hx hb dX9_byBits_23 ?_
        refine lv_istore_n (lv' := [(2, .int (((2 : Int32) * a2) + t3)), (0, .ref (ad 0)), (1, .int a1), (3, .int a3)]) hx hb dX9_byBits_24 rfl hl (by decide) rfl (fun ls hl => ?_)
        refine lv_iinc (v := (a3 + (1 : Int32))) (lv' := [(3, .int (a3 + (1 : Int32))), (2, .int (((2 : Int32) * a2) + t3)), (0, .ref (ad 0)), (1, .int a1)]) hx hb dX9_byBits_25 hl (k := 3) rfl rfl (by decide) rfl (fun ls hl => ?_)
        refine lv_goto (tgt := 4) hx hb dX9_byBits_28 (by decide) ?_
        exact ih a1 (((2 : Int32) * a2) + t3) (a3 + (1 : Int32)) ls (lv_sub hl [2, 3, 1, 0] rfl) hf
  rw [fM_byBits] at hf
  refine lv_iconst (v := 0) hx hb dX9_byBits_0 (by decide) ?_
  refine lv_istore_n (lv' := [(2, .int (0 : Int32)), (0, .ref (ad 0)), (1, .int a1)]) hx hb dX9_byBits_1 rfl hl (by decide) rfl (fun ls hl => ?_)
  refine lv_iconst (v := 0) hx hb dX9_byBits_2 (by decide) ?_
  refine lv_istore_n (lv' := [(3, .int (0 : Int32)), (2, .int (0 : Int32)), (0, .ref (ad 0)), (1, .int a1)]) hx hb dX9_byBits_3 rfl hl (by decide) rfl (fun ls hl => ?_)
  exact L4 FU a1 (0 : Int32) (0 : Int32) ls (lv_sub hl [2, 3, 1, 0] rfl) hf
abbrev rmM_weightAgain : Room := { frames := 3, cells := 0, slots := 0, locals := 66 }
set_option maxHeartbeats 4000000 in
set_option maxRecDepth 100000 in
theorem cM_weightAgain (l : Launch) (E : eE) (ad : Nat → Nat) (x : TM) (a1 : Int32) (t : Int32 × (Nat → Int32)) (hf : fM_weightAgain x.2.2.2.2.1 x.2.2.2.2.2.2.2.2.2.2.2.1 a1 = some t) : cW l E yX9_weightAgain cX9_weightAgain 2 (some .int) rmM_weightAgain [.ref (ad 0), .int a1] (wM E ad x) (some (.int t.1)) (wM E ad (x.1, x.2.1, x.2.2.1, x.2.2.2.1, x.2.2.2.2.1, x.2.2.2.2.2.1, x.2.2.2.2.2.2.1, x.2.2.2.2.2.2.2.1, x.2.2.2.2.2.2.2.2.1, x.2.2.2.2.2.2.2.2.2.1, x.2.2.2.2.2.2.2.2.2.2.1, t.2, x.2.2.2.2.2.2.2.2.2.2.2.2)) := by
  refine Met.ofW (cc := cX9_weightAgain) (maxL := 2) (ret := (some .int)) (by decide) rfl ?_
  intro p e s m args below meth c s₁ B hml hv
  obtain ⟨hargs, hP, hK, hD0⟩ := hv
  have hx := B.exec
  have hb := B.bytes
  have hr := B.returns
  have hts := atoms_spec (ws := ws_ yX9_weightAgain cX9_weightAgain 2 (some .int)) B.pre
  have hta : ∀ w ∈ lw_all, w.before args s = true := fun w h => hts w (List.mem_cons_of_mem _ h)
  have hown : s.vm.findClass RX9 = some m.cls := findClass_of_methodNamed B.named
  have hlocks := B.notSynchronized
  have hC : Cx p s m args c cX9_weightAgain 2 RX9 E := ⟨hx, hb, hml, hown, hta, hK⟩
  have hH : Hp E (adr (wM E ad x)) (wM E ad x) s.heap s.heap [] := Hp.start hP hD0
  obtain ⟨ls, he, hl⟩ := entry_ (m := m) (n := 2) hargs (Nat.le_of_ble_eq_true rfl)
  rw [he]
  have hl : lv_has ls 2 [(0, .ref (ad 0)), (1, .int a1)] := hl
  show W p l e rmM_weightAgain s m args below meth c s.heap [] 0 0 (MQ below (qW E (some .int) (some (.int t.1)) (wM E ad x) (wM E ad (x.1, x.2.1, x.2.2.1, x.2.2.2.1, x.2.2.2.2.1, x.2.2.2.2.2.1, x.2.2.2.2.2.2.1, x.2.2.2.2.2.2.2.1, x.2.2.2.2.2.2.2.2.1, x.2.2.2.2.2.2.2.2.2.1, x.2.2.2.2.2.2.2.2.2.2.1, t.2, x.2.2.2.2.2.2.2.2.2.2.2.2))) args s 0 0 (adr (wM E ad x))) (F0 m 0 ls [])
  suffices hmain : ∀ (H : Heap) (locs : List Loc), Hp E (adr (wM E ad x)) (wM E ad x) s.heap H locs → W p l e rmM_weightAgain s m args below meth c H locs 0 0 (MQ below (qW E (some .int) (some (.int t.1)) (wM E ad x) (wM E ad (x.1, x.2.1, x.2.2.1, x.2.2.2.1, x.2.2.2.2.1, x.2.2.2.2.2.1, x.2.2.2.2.2.2.1, x.2.2.2.2.2.2.2.1, x.2.2.2.2.2.2.2.2.1, x.2.2.2.2.2.2.2.2.2.1, x.2.2.2.2.2.2.2.2.2.2.1, t.2, x.2.2.2.2.2.2.2.2.2.2.2.2))) args s 0 0 (adr (wM E ad x))) (F0 m 0 ls []) from hmain _ _ hH
  clear hH
  intro H locs hH
  rw [fM_weightAgain] at hf
  refine lv_aload_n hx hb dX9_weightAgain_0 rfl (lv_at hl 0 rfl) ?_
  refine lv_iload_n hx hb dX9_weightAgain_1 rfl (lv_at hl 1 rfl) ?_
  obtain ⟨t1, ht1, hf⟩ := ob hf
  refine k_PVi hC LX9_89 ⟨Nat.le_of_ble_eq_true rfl, Nat.le_of_ble_eq_true rfl⟩ ⟨Nat.zero_le _, Nat.zero_le _⟩ (cM_isLetter l E ad x a1 t1 ht1) rfl rfl hH.1 rfl rfl hl.1 rfl (Nat.le_of_ble_eq_true rfl) rfl dX9_weightAgain_2 (fun hz2 => ?_)
  refine lv_if_ne (tgt := 11) hx hb dX9_weightAgain_5 (by decide) (fun c2 => ?_) (fun c2 => ?_)
  · have hf := ite_f hf c2
    refine lv_aload_n hx hb dX9_weightAgain_11 rfl (lv_at hl 0 rfl) ?_
    obtain ⟨t3, ht3, hf⟩ := ob hf
    refine k_WVsv hC LX9_127 ⟨Nat.le_of_ble_eq_true rfl, Nat.le_of_ble_eq_true rfl⟩ ⟨Nat.zero_le _, Nat.zero_le _⟩ (cM_findsRows l E ad x t3 ht3) rfl rfl hH rfl rfl rfl hl.1 rfl (Nat.le_of_ble_eq_true rfl) rfl dX9_weightAgain_12 (fun H locs hz12 hH => ?_)
    have hH : Hp E (adr (wM E ad x)) (wM E ad (x.1, x.2.1, x.2.2.1, x.2.2.2.1, x.2.2.2.2.1, x.2.2.2.2.2.1, x.2.2.2.2.2.2.1, x.2.2.2.2.2.2.2.1, x.2.2.2.2.2.2.2.2.1, x.2.2.2.2.2.2.2.2.2.1, x.2.2.2.2.2.2.2.2.2.2.1, t3, x.2.2.2.2.2.2.2.2.2.2.2.2)) s.heap H locs := hH
    refine lv_aload_n hx hb dX9_weightAgain_15 rfl (lv_at hl 0 rfl) ?_
    refine lv_iload_n hx hb dX9_weightAgain_16 rfl (lv_at hl 1 rfl) ?_
    obtain ⟨t4, ht4, hf⟩ := ob hf
    refine k_PVi hC LX9_142 ⟨Nat.le_of_ble_eq_true rfl, Nat.le_of_ble_eq_true rfl⟩ ⟨Nat.zero_le _, Nat.zero_le _⟩ (cM_byBits l E ad (x.1, x.2.1, x.2.2.1, x.2.2.2.1, x.2.2.2.2.1, x.2.2.2.2.2.1, x.2.2.2.2.2.2.1, x.2.2.2.2.2.2.2.1, x.2.2.2.2.2.2.2.2.1, x.2.2.2.2.2.2.2.2.2.1, x.2.2.2.2.2.2.2.2.2.2.1, t3, x.2.2.2.2.2.2.2.2.2.2.2.2) a1 t4 ht4) rfl rfl hH.1 rfl rfl hl.1 rfl (Nat.le_of_ble_eq_true rfl) rfl dX9_weightAgain_17 (fun hz17 => ?_)
    cases hf
    exact e_Wi hC hH hr hlocks rfl rfl dX9_weightAgain_20
  · have hf := ite_t hf c2
    refine lv_bipush (v := (-11)) hx hb dX9_weightAgain_8 (by decide) ?_
    cases hf
    exact e_Wi hC hH hr hlocks rfl rfl dX9_weightAgain_10
abbrev rmM_isPart : Room := { frames := 0, cells := 0, slots := 0, locals := 0 }
set_option maxHeartbeats 4000000 in
set_option maxRecDepth 100000 in
theorem cM_isPart (l : Launch) (E : eE) (ad : Nat → Nat) (x : TM) (a1 : Int32) (a2 : Int32) (r : Int32) (hf : fM_isPart x.2.2.2.2.1 a1 a2 = some r) : cP l E yX9_isPart cX9_isPart 3 (some .boolean) rmM_isPart [.ref (ad 0), .int a1, .int a2] (wM E ad x) (some (.int r)) := by
  refine Met.ofW (cc := cX9_isPart) (maxL := 3) (ret := (some .boolean)) (by decide) rfl ?_
  intro p e s m args below meth c s₁ B hml hv
  obtain ⟨hargs, hP, hK⟩ := hv
  have hx := B.exec
  have hb := B.bytes
  have hr := B.returns
  have hts := atoms_spec (ws := ws_ yX9_isPart cX9_isPart 3 (some .boolean)) B.pre
  have hta : ∀ w ∈ lw_all, w.before args s = true := fun w h => hts w (List.mem_cons_of_mem _ h)
  have hown : s.vm.findClass RX9 = some m.cls := findClass_of_methodNamed B.named
  have hlocks := B.notSynchronized
  have hC : Cx p s m args c cX9_isPart 3 RX9 E := ⟨hx, hb, hml, hown, hta, hK⟩
  obtain ⟨ls, he, hl⟩ := entry_ (m := m) (n := 3) hargs (Nat.le_of_ble_eq_true rfl)
  rw [he]
  have hl : lv_has ls 3 [(0, .ref (ad 0)), (1, .int a1), (2, .int a2)] := hl
  show W p l e rmM_isPart s m args below meth c s.heap [] 0 0 (MQ below (qP (some .boolean) (some (.int r))) args s 0 0 (fun _ => False)) (F0 m 0 ls [])
  rw [fM_isPart] at hf
  refine lv_iconst (v := 0) hx hb dX9_isPart_0 (by decide) ?_
  refine lv_iload_n hx hb dX9_isPart_1 rfl (lv_at hl 1 rfl) ?_
  refine lv_icmp_gt (tgt := 24) hx hb dX9_isPart_2 (by decide) (fun c1 => ?_) (fun c1 => ?_)
  · have hf := ite_t hf c1
    refine lv_iconst (v := 0) hx hb dX9_isPart_24 (by decide) ?_
    have hf := Option.some.inj hf
    exact e_Pz hC hr hlocks hf rfl dX9_isPart_25
  · have hf := ite_f hf c1
    refine lv_iload_n hx hb dX9_isPart_5 rfl (lv_at hl 1 rfl) ?_
    refine lv_iload_n hx hb dX9_isPart_6 rfl (lv_at hl 2 rfl) ?_
    refine lv_icmp_gt (tgt := 24) hx hb dX9_isPart_7 (by decide) (fun c2 => ?_) (fun c2 => ?_)
    · have hf := ite_t hf c2
      refine lv_iconst (v := 0) hx hb dX9_isPart_24 (by decide) ?_
      have hf := Option.some.inj hf
      exact e_Pz hC hr hlocks hf rfl dX9_isPart_25
    · have hf := ite_f hf c2
      refine lv_iload_n hx hb dX9_isPart_10 rfl (lv_at hl 2 rfl) ?_
      refine lv_aload_n hx hb dX9_isPart_11 rfl (lv_at hl 0 rfl) ?_
      refine gX9_7 hC hP 0 rfl (v := .ref (ad 1)) rfl dX9_isPart_12 ?_
      refine lv_iconst (v := 0) hx hb dX9_isPart_15 (by decide) ?_
      obtain ⟨v3, hv3, hf⟩ := ob hf
      obtain ⟨hv3a, hv3b⟩ := ldA_ok hv3
      refine a_ild hC hP 1 rfl hv3a hv3b dX9_isPart_16 ?_
      refine lv_icmp_gt (tgt := 24) hx hb dX9_isPart_17 (by decide) (fun c4 => ?_) (fun c4 => ?_)
      · have hf := ite_t hf c4
        refine lv_iconst (v := 0) hx hb dX9_isPart_24 (by decide) ?_
        have hf := Option.some.inj hf
        exact e_Pz hC hr hlocks hf rfl dX9_isPart_25
      · have hf := ite_f hf c4
        refine lv_iconst (v := 1) hx hb dX9_isPart_20 (by decide) ?_
        refine lv_goto (tgt := 25) hx hb dX9_isPart_21 (by decide) ?_
        have hf := Option.some.inj hf
        exact e_Pz hC hr hlocks hf rfl dX9_isPart_25
abbrev rmM_having : Room := { frames := 1, cells := 0, slots := 0, locals := 21 }
set_option maxHeartbeats 4000000 in
set_option maxRecDepth 100000 in
theorem cM_having (l : Launch) (E : eE) (ad : Nat → Nat) (x : TM) (a1 : Int32) (a2 : Int32) (a3 : Int32) (r : Int32) (hf : fM_having x.2.2.2.2.1 a1 a2 a3 = some r) : cP l E yX9_having cX9_having 6 (some .int) rmM_having [.ref (ad 0), .int a1, .int a2, .int a3] (wM E ad x) (some (.int r)) := by
  refine Met.ofW (cc := cX9_having) (maxL := 6) (ret := (some .int)) (by decide) rfl ?_
  intro p e s m args below meth c s₁ B hml hv
  obtain ⟨hargs, hP, hK⟩ := hv
  have hx := B.exec
  have hb := B.bytes
  have hr := B.returns
  have hts := atoms_spec (ws := ws_ yX9_having cX9_having 6 (some .int)) B.pre
  have hta : ∀ w ∈ lw_all, w.before args s = true := fun w h => hts w (List.mem_cons_of_mem _ h)
  have hown : s.vm.findClass RX9 = some m.cls := findClass_of_methodNamed B.named
  have hlocks := B.notSynchronized
  have hC : Cx p s m args c cX9_having 6 RX9 E := ⟨hx, hb, hml, hown, hta, hK⟩
  obtain ⟨ls, he, hl⟩ := entry_ (m := m) (n := 6) hargs (Nat.le_of_ble_eq_true rfl)
  rw [he]
  have hl : lv_has ls 6 [(0, .ref (ad 0)), (1, .int a1), (2, .int a2), (3, .int a3)] := hl
  show W p l e rmM_having s m args below meth c s.heap [] 0 0 (MQ below (qP (some .int) (some (.int r))) args s 0 0 (fun _ => False)) (F0 m 0 ls [])
  have L6 : ∀ (n : Nat) (a2 : Int32) (a3 : Int32) (a4 : Int32) (a5 : Int32) (ls : Array Slot), lv_has ls 6 [(0, .ref (ad 0)), (2, .int a2), (3, .int a3), (4, .int a4), (5, .int a5)] → fM_having_6 n x.2.2.2.2.1 a2 a3 a4 a5 = some r → W p l e rmM_having s m args below meth c s.heap [] 0 0 (MQ below (qP (some .int) (some (.int r))) args s 0 0 (fun _ => False)) (F0 m 6 ls []) := by
    intro n
    induction n with
    | zero => intro a2 a3 a4 a5 ls hl hf; cases hf
    | succ n ih =>
      intro a2 a3 a4 a5 ls hl hf
      rw [fM_having_6] at hf
      refine lv_iload hx hb dX9_having_6 (lv_at hl 4 rfl) ?_
      refine lv_iload_n hx hb dX9_having_8 rfl (lv_at hl 1 rfl) ?_
      refine lv_icmp_ge (tgt := 38) hx hb dX9_having_9 (by decide) (fun c1 => ?_) (fun c1 => ?_)
      · have hf := ite_t hf c1
        refine lv_iload hx hb dX9_having_38 (lv_at hl 3 rfl) ?_
        have hf := Option.some.inj hf
        exact e_Pi hC hr hlocks hf dX9_having_40
      · have hf := ite_f hf c1
        refine lv_iload hx hb dX9_having_12 (lv_at hl 3 rfl) ?_
        refine lv_aload_n hx hb dX9_having_14 rfl (lv_at hl 0 rfl) ?_
        refine lv_iload hx hb dX9_having_15 (lv_at hl 4 rfl) ?_
        obtain ⟨t2, ht2, hf⟩ := ob hf
        refine k_PVi hC LX9_86 ⟨Nat.le_of_ble_eq_true rfl, Nat.le_of_ble_eq_true rfl⟩ ⟨Nat.zero_le _, Nat.zero_le _⟩ (cM_is l E ad x a5 t2 ht2) rfl rfl hP rfl rfl hl.1 rfl (Nat.le_of_ble_eq_true rfl) rfl dX9_having_17 (fun hz17 => ?_)
        refine lv_iload_n hx hb dX9_having_20 rfl (lv_at hl 2 rfl) ?_
        refine lv_icmp_ne (tgt := 28) hx hb dX9_having_21 (by decide) (fun c3 => ?_) (fun c3 => ?_)
        · have hf := ite_f hf c3
          refine lv_iconst (v := 0) hx hb dX9_having_28 (by decide) ?_
          refine lv_iadd hx hb dX9_having_29 ?_
          refine lv_istore (lv' := [(4, .int (a4 + (0 : Int32))), (0, .ref (ad 0)), (2, .int a2), (3, .int a3), (5, .int a5)]) hx hb dX9_having_30 hl (by decide) rfl (fun ls hl => ?_)
          refine lv_iinc (v := (a5 + (1 : Int32))) (lv' := [(5, .int (a5 + (1 : Int32))), (4, .int (a4 + (0 : Int32))), (0, .ref (ad 0)), (2, .int a2), (3, .int a3)]) hx hb dX9_having_32 hl (k := 4) rfl rfl (by decide) rfl (fun ls hl => ?_)
          refine lv_goto (tgt := 6) hx hb dX9_having_35 (by decide) ?_
          exact ih a2 a3 (a4 + (0 : Int32)) (a5 + (1 : Int32)) ls (lv_sub hl [2, 3, 4, 1, 0] rfl) hf
        · have hf := ite_t hf c3
          refine lv_iconst (v := 1) hx hb dX9_having_24 (by decide) ?_
          refine lv_goto (tgt := 29) hx hb dX9_having_25 (by decide) ?_
          refine lv_iadd hx hb dX9_having_29 ?_
          refine lv_istore (lv' := [(4, .int (a4 + (1 : Int32))), (0, .ref (ad 0)), (2, .int a2), (3, .int a3), (5, .int a5)]) hx hb dX9_having_30 hl (by decide) rfl (fun ls hl => ?_)
          refine lv_iinc (v := (a5 + (1 : Int32))) (lv' := [(5, .int (a5 + (1 : Int32))), (4, .int (a4 + (1 : Int32))), (0, .ref (ad 0)), (2, .int a2), (3, .int a3)]) hx hb dX9_having_32 hl (k := 4) rfl rfl (by decide) rfl (fun ls hl => ?_)
          refine lv_goto (tgt := 6) hx hb dX9_having_35 (by decide) ?_
          exact ih a2 a3 (a4 + (1 : Int32)) (a5 + (1 : Int32)) ls (lv_sub hl [2, 3, 4, 1, 0] rfl) hf
  rw [fM_having] at hf
  refine lv_iconst (v := 0) hx hb dX9_having_0 (by decide) ?_
  refine lv_istore (lv' := [(4, .int (0 : Int32)), (0, .ref (ad 0)), (1, .int a1), (2, .int a2), (3, .int a3)]) hx hb dX9_having_1 hl (by decide) rfl (fun ls hl => ?_)
  refine lv_iload_n hx hb dX9_having_3 rfl (lv_at hl 2 rfl) ?_
  refine lv_istore (lv' := [(5, .int a1), (4, .int (0 : Int32)), (0, .ref (ad 0)), (1, .int a1), (2, .int a2), (3, .int a3)]) hx hb dX9_having_4 hl (by decide) rfl (fun ls hl => ?_)
  exact L6 FU a2 a3 (0 : Int32) a1 ls (lv_sub hl [2, 4, 5, 1, 0] rfl) hf
abbrev rmM_below : Room := { frames := 1, cells := 0, slots := 0, locals := 21 }
set_option maxHeartbeats 4000000 in
set_option maxRecDepth 100000 in
theorem cM_below (l : Launch) (E : eE) (ad : Nat → Nat) (x : TM) (a1 : Int32) (a2 : Int32) (a3 : Int32) (r : Int32) (hf : fM_below x.2.2.2.2.1 a1 a2 a3 = some r) : cP l E yX9_below cX9_below 6 (some .int) rmM_below [.ref (ad 0), .int a1, .int a2, .int a3] (wM E ad x) (some (.int r)) := by
  refine Met.ofW (cc := cX9_below) (maxL := 6) (ret := (some .int)) (by decide) rfl ?_
  intro p e s m args below meth c s₁ B hml hv
  obtain ⟨hargs, hP, hK⟩ := hv
  have hx := B.exec
  have hb := B.bytes
  have hr := B.returns
  have hts := atoms_spec (ws := ws_ yX9_below cX9_below 6 (some .int)) B.pre
  have hta : ∀ w ∈ lw_all, w.before args s = true := fun w h => hts w (List.mem_cons_of_mem _ h)
  have hown : s.vm.findClass RX9 = some m.cls := findClass_of_methodNamed B.named
  have hlocks := B.notSynchronized
  have hC : Cx p s m args c cX9_below 6 RX9 E := ⟨hx, hb, hml, hown, hta, hK⟩
  obtain ⟨ls, he, hl⟩ := entry_ (m := m) (n := 6) hargs (Nat.le_of_ble_eq_true rfl)
  rw [he]
  have hl : lv_has ls 6 [(0, .ref (ad 0)), (1, .int a1), (2, .int a2), (3, .int a3)] := hl
  show W p l e rmM_below s m args below meth c s.heap [] 0 0 (MQ below (qP (some .int) (some (.int r))) args s 0 0 (fun _ => False)) (F0 m 0 ls [])
  have L6 : ∀ (n : Nat) (a2 : Int32) (a3 : Int32) (a4 : Int32) (a5 : Int32) (ls : Array Slot), lv_has ls 6 [(0, .ref (ad 0)), (2, .int a2), (3, .int a3), (4, .int a4), (5, .int a5)] → fM_below_6 n x.2.2.2.2.1 a2 a3 a4 a5 = some r → W p l e rmM_below s m args below meth c s.heap [] 0 0 (MQ below (qP (some .int) (some (.int r))) args s 0 0 (fun _ => False)) (F0 m 6 ls []) := by
    intro n
    induction n with
    | zero => intro a2 a3 a4 a5 ls hl hf; cases hf
    | succ n ih =>
      intro a2 a3 a4 a5 ls hl hf
      rw [fM_below_6] at hf
      refine lv_iload hx hb dX9_below_6 (lv_at hl 4 rfl) ?_
      refine lv_iload_n hx hb dX9_below_8 rfl (lv_at hl 1 rfl) ?_
      refine lv_icmp_ge (tgt := 38) hx hb dX9_below_9 (by decide) (fun c1 => ?_) (fun c1 => ?_)
      · have hf := ite_t hf c1
        refine lv_iload hx hb dX9_below_38 (lv_at hl 3 rfl) ?_
        have hf := Option.some.inj hf
        exact e_Pi hC hr hlocks hf dX9_below_40
      · have hf := ite_f hf c1
        refine lv_iload hx hb dX9_below_12 (lv_at hl 3 rfl) ?_
        refine lv_aload_n hx hb dX9_below_14 rfl (lv_at hl 0 rfl) ?_
        refine lv_iload hx hb dX9_below_15 (lv_at hl 4 rfl) ?_
        obtain ⟨t2, ht2, hf⟩ := ob hf
        refine k_PVi hC LX9_86 ⟨Nat.le_of_ble_eq_true rfl, Nat.le_of_ble_eq_true rfl⟩ ⟨Nat.zero_le _, Nat.zero_le _⟩ (cM_is l E ad x a5 t2 ht2) rfl rfl hP rfl rfl hl.1 rfl (Nat.le_of_ble_eq_true rfl) rfl dX9_below_17 (fun hz17 => ?_)
        refine lv_iload_n hx hb dX9_below_20 rfl (lv_at hl 2 rfl) ?_
        refine lv_icmp_ge (tgt := 28) hx hb dX9_below_21 (by decide) (fun c3 => ?_) (fun c3 => ?_)
        · have hf := ite_t hf c3
          refine lv_iconst (v := 0) hx hb dX9_below_28 (by decide) ?_
          refine lv_iadd hx hb dX9_below_29 ?_
          refine lv_istore (lv' := [(4, .int (a4 + (0 : Int32))), (0, .ref (ad 0)), (2, .int a2), (3, .int a3), (5, .int a5)]) hx hb dX9_below_30 hl (by decide) rfl (fun ls hl => ?_)
          refine lv_iinc (v := (a5 + (1 : Int32))) (lv' := [(5, .int (a5 + (1 : Int32))), (4, .int (a4 + (0 : Int32))), (0, .ref (ad 0)), (2, .int a2), (3, .int a3)]) hx hb dX9_below_32 hl (k := 4) rfl rfl (by decide) rfl (fun ls hl => ?_)
          refine lv_goto (tgt := 6) hx hb dX9_below_35 (by decide) ?_
          exact ih a2 a3 (a4 + (0 : Int32)) (a5 + (1 : Int32)) ls (lv_sub hl [2, 3, 4, 1, 0] rfl) hf
        · have hf := ite_f hf c3
          refine lv_iconst (v := 1) hx hb dX9_below_24 (by decide) ?_
          refine lv_goto (tgt := 29) hx hb dX9_below_25 (by decide) ?_
          refine lv_iadd hx hb dX9_below_29 ?_
          refine lv_istore (lv' := [(4, .int (a4 + (1 : Int32))), (0, .ref (ad 0)), (2, .int a2), (3, .int a3), (5, .int a5)]) hx hb dX9_below_30 hl (by decide) rfl (fun ls hl => ?_)
          refine lv_iinc (v := (a5 + (1 : Int32))) (lv' := [(5, .int (a5 + (1 : Int32))), (4, .int (a4 + (1 : Int32))), (0, .ref (ad 0)), (2, .int a2), (3, .int a3)]) hx hb dX9_below_32 hl (k := 4) rfl rfl (by decide) rfl (fun ls hl => ?_)
          refine lv_goto (tgt := 6) hx hb dX9_below_35 (by decide) ?_
          exact ih a2 a3 (a4 + (1 : Int32)) (a5 + (1 : Int32)) ls (lv_sub hl [2, 3, 4, 1, 0] rfl) hf
  rw [fM_below] at hf
  refine lv_iconst (v := 0) hx hb dX9_below_0 (by decide) ?_
  refine lv_istore (lv' := [(4, .int (0 : Int32)), (0, .ref (ad 0)), (1, .int a1), (2, .int a2), (3, .int a3)]) hx hb dX9_below_1 hl (by decide) rfl (fun ls hl => ?_)
  refine lv_iload_n hx hb dX9_below_3 rfl (lv_at hl 2 rfl) ?_
  refine lv_istore (lv' := [(5, .int a1), (4, .int (0 : Int32)), (0, .ref (ad 0)), (1, .int a1), (2, .int a2), (3, .int a3)]) hx hb dX9_below_4 hl (by decide) rfl (fun ls hl => ?_)
  exact L6 FU a2 a3 (0 : Int32) a1 ls (lv_sub hl [2, 4, 5, 1, 0] rfl) hf
abbrev rmM_bySize : Room := { frames := 2, cells := 0, slots := 0, locals := 46 }
set_option maxHeartbeats 4000000 in
set_option maxRecDepth 100000 in
theorem cM_bySize (l : Launch) (E : eE) (ad : Nat → Nat) (x : TM) (a1 : Int32) (a2 : Int32) (a3 : Int32) (r : Int32) (hf : fM_bySize x.2.2.2.2.1 a1 a2 a3 = some r) : cP l E yX9_bySize cX9_bySize 5 (some .int) rmM_bySize [.ref (ad 0), .int a1, .int a2, .int a3] (wM E ad x) (some (.int r)) := by
  refine Met.ofW (cc := cX9_bySize) (maxL := 5) (ret := (some .int)) (by decide) rfl ?_
  intro p e s m args below meth c s₁ B hml hv
  obtain ⟨hargs, hP, hK⟩ := hv
  have hx := B.exec
  have hb := B.bytes
  have hr := B.returns
  have hts := atoms_spec (ws := ws_ yX9_bySize cX9_bySize 5 (some .int)) B.pre
  have hta : ∀ w ∈ lw_all, w.before args s = true := fun w h => hts w (List.mem_cons_of_mem _ h)
  have hown : s.vm.findClass RX9 = some m.cls := findClass_of_methodNamed B.named
  have hlocks := B.notSynchronized
  have hC : Cx p s m args c cX9_bySize 5 RX9 E := ⟨hx, hb, hml, hown, hta, hK⟩
  obtain ⟨ls, he, hl⟩ := entry_ (m := m) (n := 5) hargs (Nat.le_of_ble_eq_true rfl)
  rw [he]
  have hl : lv_has ls 5 [(0, .ref (ad 0)), (1, .int a1), (2, .int a2), (3, .int a3)] := hl
  show W p l e rmM_bySize s m args below meth c s.heap [] 0 0 (MQ below (qP (some .int) (some (.int r))) args s 0 0 (fun _ => False)) (F0 m 0 ls [])
  have L3 : ∀ (n : Nat) (a1 : Int32) (a2 : Int32) (a3 : Int32) (a4 : Int32) (ls : Array Slot), lv_has ls 5 [(0, .ref (ad 0)), (1, .int a1), (2, .int a2), (3, .int a3), (4, .int a4)] → fM_bySize_3 n x.2.2.2.2.1 a1 a2 a3 a4 = some r → W p l e rmM_bySize s m args below meth c s.heap [] 0 0 (MQ below (qP (some .int) (some (.int r))) args s 0 0 (fun _ => False)) (F0 m 3 ls []) := by
    intro n
    induction n with
    | zero => intro a1 a2 a3 a4 ls hl hf; cases hf
    | succ n ih =>
      intro a1 a2 a3 a4 ls hl hf
      rw [fM_bySize_3] at hf
      refine lv_aload_n hx hb dX9_bySize_3 rfl (lv_at hl 0 rfl) ?_
      refine lv_iload_n hx hb dX9_bySize_4 rfl (lv_at hl 1 rfl) ?_
      refine lv_iload_n hx hb dX9_bySize_5 rfl (lv_at hl 2 rfl) ?_
      refine lv_iload hx hb dX9_bySize_6 (lv_at hl 4 rfl) ?_
      refine lv_iconst (v := 1) hx hb dX9_bySize_8 (by decide) ?_
      refine lv_iadd hx hb dX9_bySize_9 ?_
      obtain ⟨t1, ht1, hf⟩ := ob hf
      refine k_PVi hC LX9_145 ⟨Nat.le_of_ble_eq_true rfl, Nat.le_of_ble_eq_true rfl⟩ ⟨Nat.zero_le _, Nat.zero_le _⟩ (cM_below l E ad x a1 a2 (a4 + (1 : Int32)) t1 ht1) rfl rfl hP rfl rfl hl.1 rfl (Nat.le_of_ble_eq_true rfl) rfl dX9_bySize_10 (fun hz10 => ?_)
      refine lv_iload_n hx hb dX9_bySize_13 rfl (lv_at hl 3 rfl) ?_
      refine lv_icmp_gt (tgt := 23) hx hb dX9_bySize_14 (by decide) (fun c2 => ?_) (fun c2 => ?_)
      · have hf := ite_t hf c2
        refine lv_iload hx hb dX9_bySize_23 (lv_at hl 4 rfl) ?_
        have hf := Option.some.inj hf
        exact e_Pi hC hr hlocks hf dX9_bySize_25
      · have hf := ite_f hf c2
        refine lv_iinc (v := (a4 + (1 : Int32))) (lv' := [(4, .int (a4 + (1 : Int32))), (0, .ref (ad 0)), (1, .int a1), (2, .int a2), (3, .int a3)]) hx hb dX9_bySize_17 hl (k := 4) rfl rfl (by decide) rfl (fun ls hl => ?_)
        refine lv_goto (tgt := 3) hx hb dX9_bySize_20 (by decide) ?_
        exact ih a1 a2 a3 (a4 + (1 : Int32)) ls (lv_sub hl [1, 2, 3, 4, 0] rfl) hf
  rw [fM_bySize] at hf
  refine lv_iconst (v := 0) hx hb dX9_bySize_0 (by decide) ?_
  refine lv_istore (lv' := [(4, .int (0 : Int32)), (0, .ref (ad 0)), (1, .int a1), (2, .int a2), (3, .int a3)]) hx hb dX9_bySize_1 hl (by decide) rfl (fun ls hl => ?_)
  exact L3 FU a1 a2 a3 (0 : Int32) ls (lv_sub hl [1, 2, 3, 4, 0] rfl) hf
abbrev rmM_isSized : Room := { frames := 1, cells := 0, slots := 0, locals := 22 }
set_option maxHeartbeats 4000000 in
set_option maxRecDepth 100000 in
theorem cM_isSized (l : Launch) (E : eE) (ad : Nat → Nat) (x : TM) (a1 : Int32) (a2 : Int32) (a3 : Int32) (r : Int32) (hf : fM_isSized x.2.2.2.2.1 a1 a2 a3 = some r) : cP l E yX9_isSized cX9_isSized 4 (some .boolean) rmM_isSized [.ref (ad 0), .int a1, .int a2, .int a3] (wM E ad x) (some (.int r)) := by
  refine Met.ofW (cc := cX9_isSized) (maxL := 4) (ret := (some .boolean)) (by decide) rfl ?_
  intro p e s m args below meth c s₁ B hml hv
  obtain ⟨hargs, hP, hK⟩ := hv
  have hx := B.exec
  have hb := B.bytes
  have hr := B.returns
  have hts := atoms_spec (ws := ws_ yX9_isSized cX9_isSized 4 (some .boolean)) B.pre
  have hta : ∀ w ∈ lw_all, w.before args s = true := fun w h => hts w (List.mem_cons_of_mem _ h)
  have hown : s.vm.findClass RX9 = some m.cls := findClass_of_methodNamed B.named
  have hlocks := B.notSynchronized
  have hC : Cx p s m args c cX9_isSized 4 RX9 E := ⟨hx, hb, hml, hown, hta, hK⟩
  obtain ⟨ls, he, hl⟩ := entry_ (m := m) (n := 4) hargs (Nat.le_of_ble_eq_true rfl)
  rw [he]
  have hl : lv_has ls 4 [(0, .ref (ad 0)), (1, .int a1), (2, .int a2), (3, .int a3)] := hl
  show W p l e rmM_isSized s m args below meth c s.heap [] 0 0 (MQ below (qP (some .boolean) (some (.int r))) args s 0 0 (fun _ => False)) (F0 m 0 ls [])
  rw [fM_isSized] at hf
  refine lv_aload_n hx hb dX9_isSized_0 rfl (lv_at hl 0 rfl) ?_
  refine lv_iload_n hx hb dX9_isSized_1 rfl (lv_at hl 1 rfl) ?_
  refine lv_iload_n hx hb dX9_isSized_2 rfl (lv_at hl 2 rfl) ?_
  obtain ⟨t1, ht1, hf⟩ := ob hf
  refine k_PVi hC LX9_148 ⟨Nat.le_of_ble_eq_true rfl, Nat.le_of_ble_eq_true rfl⟩ ⟨Nat.zero_le _, Nat.zero_le _⟩ (cM_isPart l E ad x a1 a2 t1 ht1) rfl rfl hP rfl rfl hl.1 rfl (Nat.le_of_ble_eq_true rfl) rfl dX9_isSized_3 (fun hz3 => ?_)
  refine lv_if_eq (tgt := 26) hx hb dX9_isSized_6 (by decide) (fun c2 => ?_) (fun c2 => ?_)
  · have hf := ite_t hf c2
    refine lv_iconst (v := 0) hx hb dX9_isSized_26 (by decide) ?_
    have hf := Option.some.inj hf
    exact e_Pz hC hr hlocks hf rfl dX9_isSized_27
  · have hf := ite_f hf c2
    refine lv_iload_n hx hb dX9_isSized_9 rfl (lv_at hl 3 rfl) ?_
    refine lv_iconst (v := 0) hx hb dX9_isSized_10 (by decide) ?_
    refine lv_iload_n hx hb dX9_isSized_11 rfl (lv_at hl 2 rfl) ?_
    refine lv_iload_n hx hb dX9_isSized_12 rfl (lv_at hl 1 rfl) ?_
    refine lv_isub hx hb dX9_isSized_13 ?_
    refine lv_iconst (v := 1) hx hb dX9_isSized_14 (by decide) ?_
    refine lv_isub hx hb dX9_isSized_15 ?_
    refine k_PSi hC LX9_60 ⟨Nat.le_of_ble_eq_true rfl, Nat.le_of_ble_eq_true rfl⟩ ⟨Nat.zero_le _, Nat.zero_le _⟩ (cM_isBetween l E a3 (0 : Int32) ((a2 - a1) - (1 : Int32)) _ rfl) rfl rfl (vP_nil) hl.1 rfl (Nat.le_of_ble_eq_true rfl) rfl dX9_isSized_16 (fun hz16 => ?_)
    refine lv_if_eq (tgt := 26) hx hb dX9_isSized_19 (by decide) (fun c3 => ?_) (fun c3 => ?_)
    · have hf := ite_t hf c3
      refine lv_iconst (v := 0) hx hb dX9_isSized_26 (by decide) ?_
      have hf := Option.some.inj hf
      exact e_Pz hC hr hlocks hf rfl dX9_isSized_27
    · have hf := ite_f hf c3
      refine lv_iconst (v := 1) hx hb dX9_isSized_22 (by decide) ?_
      refine lv_goto (tgt := 27) hx hb dX9_isSized_23 (by decide) ?_
      have hf := Option.some.inj hf
      exact e_Pz hC hr hlocks hf rfl dX9_isSized_27
abbrev rmM_quantile : Room := { frames := 3, cells := 0, slots := 0, locals := 70 }
set_option maxHeartbeats 4000000 in
set_option maxRecDepth 100000 in
theorem cM_quantile (l : Launch) (E : eE) (ad : Nat → Nat) (x : TM) (a1 : Int32) (a2 : Int32) (a3 : Int32) (r : Int32) (hf : fM_quantile x.2.2.2.2.1 a1 a2 a3 = some r) : cP l E yX9_quantile cX9_quantile 4 (some .int) rmM_quantile [.ref (ad 0), .int a1, .int a2, .int a3] (wM E ad x) (some (.int r)) := by
  refine Met.ofW (cc := cX9_quantile) (maxL := 4) (ret := (some .int)) (by decide) rfl ?_
  intro p e s m args below meth c s₁ B hml hv
  obtain ⟨hargs, hP, hK⟩ := hv
  have hx := B.exec
  have hb := B.bytes
  have hr := B.returns
  have hts := atoms_spec (ws := ws_ yX9_quantile cX9_quantile 4 (some .int)) B.pre
  have hta : ∀ w ∈ lw_all, w.before args s = true := fun w h => hts w (List.mem_cons_of_mem _ h)
  have hown : s.vm.findClass RX9 = some m.cls := findClass_of_methodNamed B.named
  have hlocks := B.notSynchronized
  have hC : Cx p s m args c cX9_quantile 4 RX9 E := ⟨hx, hb, hml, hown, hta, hK⟩
  obtain ⟨ls, he, hl⟩ := entry_ (m := m) (n := 4) hargs (Nat.le_of_ble_eq_true rfl)
  rw [he]
  have hl : lv_has ls 4 [(0, .ref (ad 0)), (1, .int a1), (2, .int a2), (3, .int a3)] := hl
  show W p l e rmM_quantile s m args below meth c s.heap [] 0 0 (MQ below (qP (some .int) (some (.int r))) args s 0 0 (fun _ => False)) (F0 m 0 ls [])
  rw [fM_quantile] at hf
  refine lv_aload_n hx hb dX9_quantile_0 rfl (lv_at hl 0 rfl) ?_
  refine lv_iload_n hx hb dX9_quantile_1 rfl (lv_at hl 1 rfl) ?_
  refine lv_iload_n hx hb dX9_quantile_2 rfl (lv_at hl 2 rfl) ?_
  refine lv_iload_n hx hb dX9_quantile_3 rfl (lv_at hl 3 rfl) ?_
  obtain ⟨t1, ht1, hf⟩ := ob hf
  refine k_PVi hC LX9_152 ⟨Nat.le_of_ble_eq_true rfl, Nat.le_of_ble_eq_true rfl⟩ ⟨Nat.zero_le _, Nat.zero_le _⟩ (cM_isSized l E ad x a1 a2 a3 t1 ht1) rfl rfl hP rfl rfl hl.1 rfl (Nat.le_of_ble_eq_true rfl) rfl dX9_quantile_4 (fun hz4 => ?_)
  refine lv_if_eq (tgt := 20) hx hb dX9_quantile_7 (by decide) (fun c2 => ?_) (fun c2 => ?_)
  · have hf := ite_t hf c2
    refine lv_bipush (v := (-11)) hx hb dX9_quantile_20 (by decide) ?_
    have hf := Option.some.inj hf
    exact e_Pi hC hr hlocks hf dX9_quantile_22
  · have hf := ite_f hf c2
    refine lv_aload_n hx hb dX9_quantile_10 rfl (lv_at hl 0 rfl) ?_
    refine lv_iload_n hx hb dX9_quantile_11 rfl (lv_at hl 1 rfl) ?_
    refine lv_iload_n hx hb dX9_quantile_12 rfl (lv_at hl 2 rfl) ?_
    refine lv_iload_n hx hb dX9_quantile_13 rfl (lv_at hl 3 rfl) ?_
    obtain ⟨t3, ht3, hf⟩ := ob hf
    refine k_PVi hC LX9_155 ⟨Nat.le_of_ble_eq_true rfl, Nat.le_of_ble_eq_true rfl⟩ ⟨Nat.zero_le _, Nat.zero_le _⟩ (cM_bySize l E ad x a1 a2 a3 t3 ht3) rfl rfl hP rfl rfl hl.1 rfl (Nat.le_of_ble_eq_true rfl) rfl dX9_quantile_14 (fun hz14 => ?_)
    refine lv_goto (tgt := 22) hx hb dX9_quantile_17 (by decide) ?_
    have hf := Option.some.inj hf
    exact e_Pi hC hr hlocks hf dX9_quantile_22
abbrev rmM_bySizeAgain : Room := { frames := 2, cells := 0, slots := 0, locals := 46 }
set_option maxHeartbeats 4000000 in
set_option maxRecDepth 100000 in
theorem cM_bySizeAgain (l : Launch) (E : eE) (ad : Nat → Nat) (x : TM) (a1 : Int32) (a2 : Int32) (a3 : Int32) (r : Int32) (hf : fM_bySizeAgain x.2.2.2.2.1 a1 a2 a3 = some r) : cP l E yX9_bySizeAgain cX9_bySizeAgain 5 (some .int) rmM_bySizeAgain [.ref (ad 0), .int a1, .int a2, .int a3] (wM E ad x) (some (.int r)) := by
  refine Met.ofW (cc := cX9_bySizeAgain) (maxL := 5) (ret := (some .int)) (by decide) rfl ?_
  intro p e s m args below meth c s₁ B hml hv
  obtain ⟨hargs, hP, hK⟩ := hv
  have hx := B.exec
  have hb := B.bytes
  have hr := B.returns
  have hts := atoms_spec (ws := ws_ yX9_bySizeAgain cX9_bySizeAgain 5 (some .int)) B.pre
  have hta : ∀ w ∈ lw_all, w.before args s = true := fun w h => hts w (List.mem_cons_of_mem _ h)
  have hown : s.vm.findClass RX9 = some m.cls := findClass_of_methodNamed B.named
  have hlocks := B.notSynchronized
  have hC : Cx p s m args c cX9_bySizeAgain 5 RX9 E := ⟨hx, hb, hml, hown, hta, hK⟩
  obtain ⟨ls, he, hl⟩ := entry_ (m := m) (n := 5) hargs (Nat.le_of_ble_eq_true rfl)
  rw [he]
  have hl : lv_has ls 5 [(0, .ref (ad 0)), (1, .int a1), (2, .int a2), (3, .int a3)] := hl
  show W p l e rmM_bySizeAgain s m args below meth c s.heap [] 0 0 (MQ below (qP (some .int) (some (.int r))) args s 0 0 (fun _ => False)) (F0 m 0 ls [])
  have L3 : ∀ (n : Nat) (a1 : Int32) (a2 : Int32) (a3 : Int32) (a4 : Int32) (ls : Array Slot), lv_has ls 5 [(0, .ref (ad 0)), (1, .int a1), (2, .int a2), (3, .int a3), (4, .int a4)] → fM_bySizeAgain_3 n x.2.2.2.2.1 a1 a2 a3 a4 = some r → W p l e rmM_bySizeAgain s m args below meth c s.heap [] 0 0 (MQ below (qP (some .int) (some (.int r))) args s 0 0 (fun _ => False)) (F0 m 3 ls []) := by
    intro n
    induction n with
    | zero => intro a1 a2 a3 a4 ls hl hf; cases hf
    | succ n ih =>
      intro a1 a2 a3 a4 ls hl hf
      rw [fM_bySizeAgain_3] at hf
      refine lv_iload hx hb dX9_bySizeAgain_3 (lv_at hl 4 rfl) ?_
      refine lv_iload_n hx hb dX9_bySizeAgain_5 rfl (lv_at hl 2 rfl) ?_
      refine lv_icmp_ge (tgt := 52) hx hb dX9_bySizeAgain_6 (by decide) (fun c1 => ?_) (fun c1 => ?_)
      · have hf := ite_t hf c1
        refine lv_bipush (v := (-11)) hx hb dX9_bySizeAgain_52 (by decide) ?_
        have hf := Option.some.inj hf
        exact e_Pi hC hr hlocks hf dX9_bySizeAgain_54
      · have hf := ite_f hf c1
        refine lv_aload_n hx hb dX9_bySizeAgain_9 rfl (lv_at hl 0 rfl) ?_
        refine lv_iload_n hx hb dX9_bySizeAgain_10 rfl (lv_at hl 1 rfl) ?_
        refine lv_iload_n hx hb dX9_bySizeAgain_11 rfl (lv_at hl 2 rfl) ?_
        refine lv_aload_n hx hb dX9_bySizeAgain_12 rfl (lv_at hl 0 rfl) ?_
        refine lv_iload hx hb dX9_bySizeAgain_13 (lv_at hl 4 rfl) ?_
        obtain ⟨t2, ht2, hf⟩ := ob hf
        refine k_PVi hC LX9_86 ⟨Nat.le_of_ble_eq_true rfl, Nat.le_of_ble_eq_true rfl⟩ ⟨Nat.zero_le _, Nat.zero_le _⟩ (cM_is l E ad x a4 t2 ht2) rfl rfl hP rfl rfl hl.1 rfl (Nat.le_of_ble_eq_true rfl) rfl dX9_bySizeAgain_15 (fun hz15 => ?_)
        obtain ⟨t3, ht3, hf⟩ := ob hf
        refine k_PVi hC LX9_145 ⟨Nat.le_of_ble_eq_true rfl, Nat.le_of_ble_eq_true rfl⟩ ⟨Nat.zero_le _, Nat.zero_le _⟩ (cM_below l E ad x a1 a2 t2 t3 ht3) rfl rfl hP rfl rfl hl.1 rfl (Nat.le_of_ble_eq_true rfl) rfl dX9_bySizeAgain_18 (fun hz18 => ?_)
        refine lv_aload_n hx hb dX9_bySizeAgain_21 rfl (lv_at hl 0 rfl) ?_
        refine lv_iload_n hx hb dX9_bySizeAgain_22 rfl (lv_at hl 1 rfl) ?_
        refine lv_iload hx hb dX9_bySizeAgain_23 (lv_at hl 4 rfl) ?_
        refine lv_aload_n hx hb dX9_bySizeAgain_25 rfl (lv_at hl 0 rfl) ?_
        refine lv_iload hx hb dX9_bySizeAgain_26 (lv_at hl 4 rfl) ?_
        obtain ⟨t4, ht4, hf⟩ := ob hf
        refine k_PVi hC LX9_86 ⟨Nat.le_of_ble_eq_true rfl, Nat.le_of_ble_eq_true rfl⟩ ⟨Nat.zero_le _, Nat.zero_le _⟩ (cM_is l E ad x a4 t4 ht4) rfl rfl hP rfl rfl hl.1 rfl (Nat.le_of_ble_eq_true rfl) rfl dX9_bySizeAgain_28 (fun hz28 => ?_)
        obtain ⟨t5, ht5, hf⟩ := ob hf
        refine k_PVi hC LX9_158 ⟨Nat.le_of_ble_eq_true rfl, Nat.le_of_ble_eq_true rfl⟩ ⟨Nat.zero_le _, Nat.zero_le _⟩ (cM_having l E ad x a1 a4 t4 t5 ht5) rfl rfl hP rfl rfl hl.1 rfl (Nat.le_of_ble_eq_true rfl) rfl dX9_bySizeAgain_31 (fun hz31 => ?_)
        refine lv_iadd hx hb dX9_bySizeAgain_34 ?_
        refine lv_iload_n hx hb dX9_bySizeAgain_35 rfl (lv_at hl 3 rfl) ?_
        refine lv_icmp_ne (tgt := 46) hx hb dX9_bySizeAgain_36 (by decide) (fun c6 => ?_) (fun c6 => ?_)
        · have hf := ite_f hf c6
          refine lv_iinc (v := (a4 + (1 : Int32))) (lv' := [(4, .int (a4 + (1 : Int32))), (0, .ref (ad 0)), (1, .int a1), (2, .int a2), (3, .int a3)]) hx hb dX9_bySizeAgain_46 hl (k := 4) rfl rfl (by decide) rfl (fun ls hl => ?_)
          refine lv_goto (tgt := 3) hx hb dX9_bySizeAgain_49 (by decide) ?_
          exact ih a1 a2 a3 (a4 + (1 : Int32)) ls (lv_sub hl [1, 2, 3, 4, 0] rfl) hf
        · have hf := ite_t hf c6
          refine lv_aload_n hx hb dX9_bySizeAgain_39 rfl (lv_at hl 0 rfl) ?_
          refine lv_iload hx hb dX9_bySizeAgain_40 (lv_at hl 4 rfl) ?_
          obtain ⟨t7, ht7, hf⟩ := ob hf
          refine k_PVi hC LX9_86 ⟨Nat.le_of_ble_eq_true rfl, Nat.le_of_ble_eq_true rfl⟩ ⟨Nat.zero_le _, Nat.zero_le _⟩ (cM_is l E ad x a4 t7 ht7) rfl rfl hP rfl rfl hl.1 rfl (Nat.le_of_ble_eq_true rfl) rfl dX9_bySizeAgain_42 (fun hz42 => ?_)
          have hf := Option.some.inj hf
          exact e_Pi hC hr hlocks hf dX9_bySizeAgain_45
  rw [fM_bySizeAgain] at hf
  refine lv_iload_n hx hb dX9_bySizeAgain_0 rfl (lv_at hl 1 rfl) ?_
  refine lv_istore (lv' := [(4, .int a1), (0, .ref (ad 0)), (1, .int a1), (2, .int a2), (3, .int a3)]) hx hb dX9_bySizeAgain_1 hl (by decide) rfl (fun ls hl => ?_)
  exact L3 FU a1 a2 a3 a1 ls (lv_sub hl [1, 2, 3, 4, 0] rfl) hf
abbrev rmM_quantileAgain : Room := { frames := 3, cells := 0, slots := 0, locals := 70 }
set_option maxHeartbeats 4000000 in
set_option maxRecDepth 100000 in
theorem cM_quantileAgain (l : Launch) (E : eE) (ad : Nat → Nat) (x : TM) (a1 : Int32) (a2 : Int32) (a3 : Int32) (r : Int32) (hf : fM_quantileAgain x.2.2.2.2.1 a1 a2 a3 = some r) : cP l E yX9_quantileAgain cX9_quantileAgain 4 (some .int) rmM_quantileAgain [.ref (ad 0), .int a1, .int a2, .int a3] (wM E ad x) (some (.int r)) := by
  refine Met.ofW (cc := cX9_quantileAgain) (maxL := 4) (ret := (some .int)) (by decide) rfl ?_
  intro p e s m args below meth c s₁ B hml hv
  obtain ⟨hargs, hP, hK⟩ := hv
  have hx := B.exec
  have hb := B.bytes
  have hr := B.returns
  have hts := atoms_spec (ws := ws_ yX9_quantileAgain cX9_quantileAgain 4 (some .int)) B.pre
  have hta : ∀ w ∈ lw_all, w.before args s = true := fun w h => hts w (List.mem_cons_of_mem _ h)
  have hown : s.vm.findClass RX9 = some m.cls := findClass_of_methodNamed B.named
  have hlocks := B.notSynchronized
  have hC : Cx p s m args c cX9_quantileAgain 4 RX9 E := ⟨hx, hb, hml, hown, hta, hK⟩
  obtain ⟨ls, he, hl⟩ := entry_ (m := m) (n := 4) hargs (Nat.le_of_ble_eq_true rfl)
  rw [he]
  have hl : lv_has ls 4 [(0, .ref (ad 0)), (1, .int a1), (2, .int a2), (3, .int a3)] := hl
  show W p l e rmM_quantileAgain s m args below meth c s.heap [] 0 0 (MQ below (qP (some .int) (some (.int r))) args s 0 0 (fun _ => False)) (F0 m 0 ls [])
  rw [fM_quantileAgain] at hf
  refine lv_aload_n hx hb dX9_quantileAgain_0 rfl (lv_at hl 0 rfl) ?_
  refine lv_iload_n hx hb dX9_quantileAgain_1 rfl (lv_at hl 1 rfl) ?_
  refine lv_iload_n hx hb dX9_quantileAgain_2 rfl (lv_at hl 2 rfl) ?_
  refine lv_iload_n hx hb dX9_quantileAgain_3 rfl (lv_at hl 3 rfl) ?_
  obtain ⟨t1, ht1, hf⟩ := ob hf
  refine k_PVi hC LX9_152 ⟨Nat.le_of_ble_eq_true rfl, Nat.le_of_ble_eq_true rfl⟩ ⟨Nat.zero_le _, Nat.zero_le _⟩ (cM_isSized l E ad x a1 a2 a3 t1 ht1) rfl rfl hP rfl rfl hl.1 rfl (Nat.le_of_ble_eq_true rfl) rfl dX9_quantileAgain_4 (fun hz4 => ?_)
  refine lv_if_eq (tgt := 20) hx hb dX9_quantileAgain_7 (by decide) (fun c2 => ?_) (fun c2 => ?_)
  · have hf := ite_t hf c2
    refine lv_bipush (v := (-11)) hx hb dX9_quantileAgain_20 (by decide) ?_
    have hf := Option.some.inj hf
    exact e_Pi hC hr hlocks hf dX9_quantileAgain_22
  · have hf := ite_f hf c2
    refine lv_aload_n hx hb dX9_quantileAgain_10 rfl (lv_at hl 0 rfl) ?_
    refine lv_iload_n hx hb dX9_quantileAgain_11 rfl (lv_at hl 1 rfl) ?_
    refine lv_iload_n hx hb dX9_quantileAgain_12 rfl (lv_at hl 2 rfl) ?_
    refine lv_iload_n hx hb dX9_quantileAgain_13 rfl (lv_at hl 3 rfl) ?_
    obtain ⟨t3, ht3, hf⟩ := ob hf
    refine k_PVi hC LX9_161 ⟨Nat.le_of_ble_eq_true rfl, Nat.le_of_ble_eq_true rfl⟩ ⟨Nat.zero_le _, Nat.zero_le _⟩ (cM_bySizeAgain l E ad x a1 a2 a3 t3 ht3) rfl rfl hP rfl rfl hl.1 rfl (Nat.le_of_ble_eq_true rfl) rfl dX9_quantileAgain_14 (fun hz14 => ?_)
    refine lv_goto (tgt := 22) hx hb dX9_quantileAgain_17 (by decide) ?_
    have hf := Option.some.inj hf
    exact e_Pi hC hr hlocks hf dX9_quantileAgain_22
abbrev rmM_count : Room := { frames := 2, cells := 0, slots := 0, locals := 46 }
set_option maxHeartbeats 4000000 in
set_option maxRecDepth 100000 in
theorem cM_count (l : Launch) (E : eE) (ad : Nat → Nat) (x : TM) (a1 : Int32) (a2 : Int32) (a3 : Int32) (r : Int32) (hf : fM_count x.2.2.2.2.1 a1 a2 a3 = some r) : cP l E yX9_count cX9_count 4 (some .int) rmM_count [.ref (ad 0), .int a1, .int a2, .int a3] (wM E ad x) (some (.int r)) := by
  refine Met.ofW (cc := cX9_count) (maxL := 4) (ret := (some .int)) (by decide) rfl ?_
  intro p e s m args below meth c s₁ B hml hv
  obtain ⟨hargs, hP, hK⟩ := hv
  have hx := B.exec
  have hb := B.bytes
  have hr := B.returns
  have hts := atoms_spec (ws := ws_ yX9_count cX9_count 4 (some .int)) B.pre
  have hta : ∀ w ∈ lw_all, w.before args s = true := fun w h => hts w (List.mem_cons_of_mem _ h)
  have hown : s.vm.findClass RX9 = some m.cls := findClass_of_methodNamed B.named
  have hlocks := B.notSynchronized
  have hC : Cx p s m args c cX9_count 4 RX9 E := ⟨hx, hb, hml, hown, hta, hK⟩
  obtain ⟨ls, he, hl⟩ := entry_ (m := m) (n := 4) hargs (Nat.le_of_ble_eq_true rfl)
  rw [he]
  have hl : lv_has ls 4 [(0, .ref (ad 0)), (1, .int a1), (2, .int a2), (3, .int a3)] := hl
  show W p l e rmM_count s m args below meth c s.heap [] 0 0 (MQ below (qP (some .int) (some (.int r))) args s 0 0 (fun _ => False)) (F0 m 0 ls [])
  rw [fM_count] at hf
  refine lv_aload_n hx hb dX9_count_0 rfl (lv_at hl 0 rfl) ?_
  refine lv_iload_n hx hb dX9_count_1 rfl (lv_at hl 1 rfl) ?_
  refine lv_iload_n hx hb dX9_count_2 rfl (lv_at hl 2 rfl) ?_
  obtain ⟨t1, ht1, hf⟩ := ob hf
  refine k_PVi hC LX9_148 ⟨Nat.le_of_ble_eq_true rfl, Nat.le_of_ble_eq_true rfl⟩ ⟨Nat.zero_le _, Nat.zero_le _⟩ (cM_isPart l E ad x a1 a2 t1 ht1) rfl rfl hP rfl rfl hl.1 rfl (Nat.le_of_ble_eq_true rfl) rfl dX9_count_3 (fun hz3 => ?_)
  refine lv_if_ne (tgt := 14) hx hb dX9_count_6 (by decide) (fun c2 => ?_) (fun c2 => ?_)
  · have hf := ite_f hf c2
    refine lv_iload_n hx hb dX9_count_14 rfl (lv_at hl 3 rfl) ?_
    refine k_PSi hC LX9_64 ⟨Nat.le_of_ble_eq_true rfl, Nat.le_of_ble_eq_true rfl⟩ ⟨Nat.zero_le _, Nat.zero_le _⟩ (cM_isWeight l E a3 _ rfl) rfl rfl (vP_nil) hl.1 rfl (Nat.le_of_ble_eq_true rfl) rfl dX9_count_15 (fun hz15 => ?_)
    refine lv_if_eq (tgt := 31) hx hb dX9_count_18 (by decide) (fun c3 => ?_) (fun c3 => ?_)
    · have hf := ite_t hf c3
      refine lv_bipush (v := (-12)) hx hb dX9_count_31 (by decide) ?_
      have hf := Option.some.inj hf
      exact e_Pi hC hr hlocks hf dX9_count_33
    · have hf := ite_f hf c3
      refine lv_aload_n hx hb dX9_count_21 rfl (lv_at hl 0 rfl) ?_
      refine lv_iload_n hx hb dX9_count_22 rfl (lv_at hl 1 rfl) ?_
      refine lv_iload_n hx hb dX9_count_23 rfl (lv_at hl 2 rfl) ?_
      refine lv_iload_n hx hb dX9_count_24 rfl (lv_at hl 3 rfl) ?_
      obtain ⟨t4, ht4, hf⟩ := ob hf
      refine k_PVi hC LX9_158 ⟨Nat.le_of_ble_eq_true rfl, Nat.le_of_ble_eq_true rfl⟩ ⟨Nat.zero_le _, Nat.zero_le _⟩ (cM_having l E ad x a1 a2 a3 t4 ht4) rfl rfl hP rfl rfl hl.1 rfl (Nat.le_of_ble_eq_true rfl) rfl dX9_count_25 (fun hz25 => ?_)
      refine lv_goto (tgt := 33) hx hb dX9_count_28 (by decide) ?_
      have hf := Option.some.inj hf
      exact e_Pi hC hr hlocks hf dX9_count_33
  · have hf := ite_t hf c2
    refine lv_bipush (v := (-11)) hx hb dX9_count_9 (by decide) ?_
    refine lv_goto (tgt := 33) hx hb dX9_count_11 (by decide) ?_
    have hf := Option.some.inj hf
    exact e_Pi hC hr hlocks hf dX9_count_33
abbrev rmM_lighter : Room := { frames := 2, cells := 0, slots := 0, locals := 46 }
set_option maxHeartbeats 4000000 in
set_option maxRecDepth 100000 in
theorem cM_lighter (l : Launch) (E : eE) (ad : Nat → Nat) (x : TM) (a1 : Int32) (a2 : Int32) (a3 : Int32) (r : Int32) (hf : fM_lighter x.2.2.2.2.1 a1 a2 a3 = some r) : cP l E yX9_lighter cX9_lighter 4 (some .int) rmM_lighter [.ref (ad 0), .int a1, .int a2, .int a3] (wM E ad x) (some (.int r)) := by
  refine Met.ofW (cc := cX9_lighter) (maxL := 4) (ret := (some .int)) (by decide) rfl ?_
  intro p e s m args below meth c s₁ B hml hv
  obtain ⟨hargs, hP, hK⟩ := hv
  have hx := B.exec
  have hb := B.bytes
  have hr := B.returns
  have hts := atoms_spec (ws := ws_ yX9_lighter cX9_lighter 4 (some .int)) B.pre
  have hta : ∀ w ∈ lw_all, w.before args s = true := fun w h => hts w (List.mem_cons_of_mem _ h)
  have hown : s.vm.findClass RX9 = some m.cls := findClass_of_methodNamed B.named
  have hlocks := B.notSynchronized
  have hC : Cx p s m args c cX9_lighter 4 RX9 E := ⟨hx, hb, hml, hown, hta, hK⟩
  obtain ⟨ls, he, hl⟩ := entry_ (m := m) (n := 4) hargs (Nat.le_of_ble_eq_true rfl)
  rw [he]
  have hl : lv_has ls 4 [(0, .ref (ad 0)), (1, .int a1), (2, .int a2), (3, .int a3)] := hl
  show W p l e rmM_lighter s m args below meth c s.heap [] 0 0 (MQ below (qP (some .int) (some (.int r))) args s 0 0 (fun _ => False)) (F0 m 0 ls [])
  rw [fM_lighter] at hf
  refine lv_aload_n hx hb dX9_lighter_0 rfl (lv_at hl 0 rfl) ?_
  refine lv_iload_n hx hb dX9_lighter_1 rfl (lv_at hl 1 rfl) ?_
  refine lv_iload_n hx hb dX9_lighter_2 rfl (lv_at hl 2 rfl) ?_
  obtain ⟨t1, ht1, hf⟩ := ob hf
  refine k_PVi hC LX9_148 ⟨Nat.le_of_ble_eq_true rfl, Nat.le_of_ble_eq_true rfl⟩ ⟨Nat.zero_le _, Nat.zero_le _⟩ (cM_isPart l E ad x a1 a2 t1 ht1) rfl rfl hP rfl rfl hl.1 rfl (Nat.le_of_ble_eq_true rfl) rfl dX9_lighter_3 (fun hz3 => ?_)
  refine lv_if_ne (tgt := 14) hx hb dX9_lighter_6 (by decide) (fun c2 => ?_) (fun c2 => ?_)
  · have hf := ite_f hf c2
    refine lv_iload_n hx hb dX9_lighter_14 rfl (lv_at hl 3 rfl) ?_
    refine k_PSi hC LX9_64 ⟨Nat.le_of_ble_eq_true rfl, Nat.le_of_ble_eq_true rfl⟩ ⟨Nat.zero_le _, Nat.zero_le _⟩ (cM_isWeight l E a3 _ rfl) rfl rfl (vP_nil) hl.1 rfl (Nat.le_of_ble_eq_true rfl) rfl dX9_lighter_15 (fun hz15 => ?_)
    refine lv_if_eq (tgt := 31) hx hb dX9_lighter_18 (by decide) (fun c3 => ?_) (fun c3 => ?_)
    · have hf := ite_t hf c3
      refine lv_bipush (v := (-12)) hx hb dX9_lighter_31 (by decide) ?_
      have hf := Option.some.inj hf
      exact e_Pi hC hr hlocks hf dX9_lighter_33
    · have hf := ite_f hf c3
      refine lv_aload_n hx hb dX9_lighter_21 rfl (lv_at hl 0 rfl) ?_
      refine lv_iload_n hx hb dX9_lighter_22 rfl (lv_at hl 1 rfl) ?_
      refine lv_iload_n hx hb dX9_lighter_23 rfl (lv_at hl 2 rfl) ?_
      refine lv_iload_n hx hb dX9_lighter_24 rfl (lv_at hl 3 rfl) ?_
      obtain ⟨t4, ht4, hf⟩ := ob hf
      refine k_PVi hC LX9_145 ⟨Nat.le_of_ble_eq_true rfl, Nat.le_of_ble_eq_true rfl⟩ ⟨Nat.zero_le _, Nat.zero_le _⟩ (cM_below l E ad x a1 a2 a3 t4 ht4) rfl rfl hP rfl rfl hl.1 rfl (Nat.le_of_ble_eq_true rfl) rfl dX9_lighter_25 (fun hz25 => ?_)
      refine lv_goto (tgt := 33) hx hb dX9_lighter_28 (by decide) ?_
      have hf := Option.some.inj hf
      exact e_Pi hC hr hlocks hf dX9_lighter_33
  · have hf := ite_t hf c2
    refine lv_bipush (v := (-11)) hx hb dX9_lighter_9 (by decide) ?_
    refine lv_goto (tgt := 33) hx hb dX9_lighter_11 (by decide) ?_
    have hf := Option.some.inj hf
    exact e_Pi hC hr hlocks hf dX9_lighter_33
abbrev rmM_atLeast : Room := { frames := 2, cells := 0, slots := 0, locals := 46 }
set_option maxHeartbeats 4000000 in
set_option maxRecDepth 100000 in
theorem cM_atLeast (l : Launch) (E : eE) (ad : Nat → Nat) (x : TM) (a1 : Int32) (a2 : Int32) (a3 : Int32) (r : Int32) (hf : fM_atLeast x.2.2.2.2.1 a1 a2 a3 = some r) : cP l E yX9_atLeast cX9_atLeast 5 (some .int) rmM_atLeast [.ref (ad 0), .int a1, .int a2, .int a3] (wM E ad x) (some (.int r)) := by
  refine Met.ofW (cc := cX9_atLeast) (maxL := 5) (ret := (some .int)) (by decide) rfl ?_
  intro p e s m args below meth c s₁ B hml hv
  obtain ⟨hargs, hP, hK⟩ := hv
  have hx := B.exec
  have hb := B.bytes
  have hr := B.returns
  have hts := atoms_spec (ws := ws_ yX9_atLeast cX9_atLeast 5 (some .int)) B.pre
  have hta : ∀ w ∈ lw_all, w.before args s = true := fun w h => hts w (List.mem_cons_of_mem _ h)
  have hown : s.vm.findClass RX9 = some m.cls := findClass_of_methodNamed B.named
  have hlocks := B.notSynchronized
  have hC : Cx p s m args c cX9_atLeast 5 RX9 E := ⟨hx, hb, hml, hown, hta, hK⟩
  obtain ⟨ls, he, hl⟩ := entry_ (m := m) (n := 5) hargs (Nat.le_of_ble_eq_true rfl)
  rw [he]
  have hl : lv_has ls 5 [(0, .ref (ad 0)), (1, .int a1), (2, .int a2), (3, .int a3)] := hl
  show W p l e rmM_atLeast s m args below meth c s.heap [] 0 0 (MQ below (qP (some .int) (some (.int r))) args s 0 0 (fun _ => False)) (F0 m 0 ls [])
  have L25 : ∀ (n : Nat) (a1 : Int32) (a2 : Int32) (a4 : Int32) (ls : Array Slot), lv_has ls 5 [(0, .ref (ad 0)), (1, .int a1), (2, .int a2), (4, .int a4)] → fM_atLeast_25 n x.2.2.2.2.1 a1 a2 a4 = some r → W p l e rmM_atLeast s m args below meth c s.heap [] 0 0 (MQ below (qP (some .int) (some (.int r))) args s 0 0 (fun _ => False)) (F0 m 25 ls []) := by
    intro n
    induction n with
    | zero => intro a1 a2 a4 ls hl hf; cases hf
    | succ n ih =>
      intro a1 a2 a4 ls hl hf
      rw [fM_atLeast_25] at hf
      refine lv_iload hx hb dX9_atLeast_25 (lv_at hl 3 rfl) ?_
      refine lv_bipush (v := 31) hx hb dX9_atLeast_27 (by decide) ?_
      refine lv_icmp_gt (tgt := 52) hx hb dX9_atLeast_29 (by decide) (fun c4 => ?_) (fun c4 => ?_)
      · have hf := ite_t hf c4
        refine lv_bipush (v := (-15)) hx hb dX9_atLeast_52 (by decide) ?_
        have hf := Option.some.inj hf
        exact e_Pi hC hr hlocks hf dX9_atLeast_54
      · have hf := ite_f hf c4
        refine lv_aload_n hx hb dX9_atLeast_32 rfl (lv_at hl 0 rfl) ?_
        refine lv_iload_n hx hb dX9_atLeast_33 rfl (lv_at hl 1 rfl) ?_
        refine lv_iload_n hx hb dX9_atLeast_34 rfl (lv_at hl 2 rfl) ?_
        refine lv_iload hx hb dX9_atLeast_35 (lv_at hl 3 rfl) ?_
        obtain ⟨t5, ht5, hf⟩ := ob hf
        refine k_PVi hC LX9_158 ⟨Nat.le_of_ble_eq_true rfl, Nat.le_of_ble_eq_true rfl⟩ ⟨Nat.zero_le _, Nat.zero_le _⟩ (cM_having l E ad x a1 a2 a4 t5 ht5) rfl rfl hP rfl rfl hl.1 rfl (Nat.le_of_ble_eq_true rfl) rfl dX9_atLeast_37 (fun hz37 => ?_)
        refine lv_if_le (tgt := 46) hx hb dX9_atLeast_40 (by decide) (fun c6 => ?_) (fun c6 => ?_)
        · have hf := ite_t hf c6
          refine lv_iinc (v := (a4 + (1 : Int32))) (lv' := [(4, .int (a4 + (1 : Int32))), (0, .ref (ad 0)), (1, .int a1), (2, .int a2)]) hx hb dX9_atLeast_46 hl (k := 3) rfl rfl (by decide) rfl (fun ls hl => ?_)
          refine lv_goto (tgt := 25) hx hb dX9_atLeast_49 (by decide) ?_
          exact ih a1 a2 (a4 + (1 : Int32)) ls (lv_sub hl [1, 2, 3, 0] rfl) hf
        · have hf := ite_f hf c6
          refine lv_iload hx hb dX9_atLeast_43 (lv_at hl 3 rfl) ?_
          have hf := Option.some.inj hf
          exact e_Pi hC hr hlocks hf dX9_atLeast_45
  rw [fM_atLeast] at hf
  refine lv_aload_n hx hb dX9_atLeast_0 rfl (lv_at hl 0 rfl) ?_
  refine lv_iload_n hx hb dX9_atLeast_1 rfl (lv_at hl 1 rfl) ?_
  refine lv_iload_n hx hb dX9_atLeast_2 rfl (lv_at hl 2 rfl) ?_
  obtain ⟨t1, ht1, hf⟩ := ob hf
  refine k_PVi hC LX9_148 ⟨Nat.le_of_ble_eq_true rfl, Nat.le_of_ble_eq_true rfl⟩ ⟨Nat.zero_le _, Nat.zero_le _⟩ (cM_isPart l E ad x a1 a2 t1 ht1) rfl rfl hP rfl rfl hl.1 rfl (Nat.le_of_ble_eq_true rfl) rfl dX9_atLeast_3 (fun hz3 => ?_)
  refine lv_if_ne (tgt := 12) hx hb dX9_atLeast_6 (by decide) (fun c2 => ?_) (fun c2 => ?_)
  · have hf := ite_f hf c2
    refine lv_iload_n hx hb dX9_atLeast_12 rfl (lv_at hl 3 rfl) ?_
    refine k_PSi hC LX9_64 ⟨Nat.le_of_ble_eq_true rfl, Nat.le_of_ble_eq_true rfl⟩ ⟨Nat.zero_le _, Nat.zero_le _⟩ (cM_isWeight l E a3 _ rfl) rfl rfl (vP_nil) hl.1 rfl (Nat.le_of_ble_eq_true rfl) rfl dX9_atLeast_13 (fun hz13 => ?_)
    refine lv_if_ne (tgt := 22) hx hb dX9_atLeast_16 (by decide) (fun c3 => ?_) (fun c3 => ?_)
    · have hf := ite_f hf c3
      refine lv_iload_n hx hb dX9_atLeast_22 rfl (lv_at hl 3 rfl) ?_
      refine lv_istore (lv' := [(4, .int a3), (0, .ref (ad 0)), (1, .int a1), (2, .int a2), (3, .int a3)]) hx hb dX9_atLeast_23 hl (by decide) rfl (fun ls hl => ?_)
      exact L25 FU a1 a2 a3 ls (lv_sub hl [1, 2, 3, 0] rfl) hf
    · have hf := ite_t hf c3
      refine lv_bipush (v := (-12)) hx hb dX9_atLeast_19 (by decide) ?_
      have hf := Option.some.inj hf
      exact e_Pi hC hr hlocks hf dX9_atLeast_21
  · have hf := ite_t hf c2
    refine lv_bipush (v := (-11)) hx hb dX9_atLeast_9 (by decide) ?_
    have hf := Option.some.inj hf
    exact e_Pi hC hr hlocks hf dX9_atLeast_11
abbrev rmM_find : Room := { frames := 2, cells := 0, slots := 0, locals := 46 }
set_option maxHeartbeats 4000000 in
set_option maxRecDepth 100000 in
theorem cM_find (l : Launch) (E : eE) (ad : Nat → Nat) (x : TM) (a1 : Int32) (a2 : Int32) (r : Int32) (hf : fM_find x.2.2.2.2.1 a1 a2 = some r) : cP l E yX9_find cX9_find 4 (some .int) rmM_find [.ref (ad 0), .int a1, .int a2] (wM E ad x) (some (.int r)) := by
  refine Met.ofW (cc := cX9_find) (maxL := 4) (ret := (some .int)) (by decide) rfl ?_
  intro p e s m args below meth c s₁ B hml hv
  obtain ⟨hargs, hP, hK⟩ := hv
  have hx := B.exec
  have hb := B.bytes
  have hr := B.returns
  have hts := atoms_spec (ws := ws_ yX9_find cX9_find 4 (some .int)) B.pre
  have hta : ∀ w ∈ lw_all, w.before args s = true := fun w h => hts w (List.mem_cons_of_mem _ h)
  have hown : s.vm.findClass RX9 = some m.cls := findClass_of_methodNamed B.named
  have hlocks := B.notSynchronized
  have hC : Cx p s m args c cX9_find 4 RX9 E := ⟨hx, hb, hml, hown, hta, hK⟩
  obtain ⟨ls, he, hl⟩ := entry_ (m := m) (n := 4) hargs (Nat.le_of_ble_eq_true rfl)
  rw [he]
  have hl : lv_has ls 4 [(0, .ref (ad 0)), (1, .int a1), (2, .int a2)] := hl
  show W p l e rmM_find s m args below meth c s.heap [] 0 0 (MQ below (qP (some .int) (some (.int r))) args s 0 0 (fun _ => False)) (F0 m 0 ls [])
  have L12 : ∀ (n : Nat) (a1 : Int32) (a2 : Int32) (a3 : Int32) (ls : Array Slot), lv_has ls 4 [(0, .ref (ad 0)), (1, .int a1), (2, .int a2), (3, .int a3)] → fM_find_12 n x.2.2.2.2.1 a1 a2 a3 = some r → W p l e rmM_find s m args below meth c s.heap [] 0 0 (MQ below (qP (some .int) (some (.int r))) args s 0 0 (fun _ => False)) (F0 m 12 ls []) := by
    intro n
    induction n with
    | zero => intro a1 a2 a3 ls hl hf; cases hf
    | succ n ih =>
      intro a1 a2 a3 ls hl hf
      rw [fM_find_12] at hf
      refine lv_iload_n hx hb dX9_find_12 rfl (lv_at hl 3 rfl) ?_
      refine lv_aload_n hx hb dX9_find_13 rfl (lv_at hl 0 rfl) ?_
      refine gX9_7 hC hP 0 rfl (v := .ref (ad 1)) rfl dX9_find_14 ?_
      refine lv_iconst (v := 0) hx hb dX9_find_17 (by decide) ?_
      obtain ⟨v2, hv2, hf⟩ := ob hf
      obtain ⟨hv2a, hv2b⟩ := ldA_ok hv2
      refine a_ild hC hP 1 rfl hv2a hv2b dX9_find_18 ?_
      refine lv_icmp_ge (tgt := 50) hx hb dX9_find_19 (by decide) (fun c3 => ?_) (fun c3 => ?_)
      · have hf := ite_t hf c3
        refine lv_bipush (v := (-15)) hx hb dX9_find_50 (by decide) ?_
        have hf := Option.some.inj hf
        exact e_Pi hC hr hlocks hf dX9_find_52
      · have hf := ite_f hf c3
        refine lv_aload_n hx hb dX9_find_22 rfl (lv_at hl 0 rfl) ?_
        refine lv_iload_n hx hb dX9_find_23 rfl (lv_at hl 3 rfl) ?_
        obtain ⟨t4, ht4, hf⟩ := ob hf
        refine k_PVi hC LX9_86 ⟨Nat.le_of_ble_eq_true rfl, Nat.le_of_ble_eq_true rfl⟩ ⟨Nat.zero_le _, Nat.zero_le _⟩ (cM_is l E ad x a3 t4 ht4) rfl rfl hP rfl rfl hl.1 rfl (Nat.le_of_ble_eq_true rfl) rfl dX9_find_24 (fun hz24 => ?_)
        refine lv_iload_n hx hb dX9_find_27 rfl (lv_at hl 1 rfl) ?_
        refine lv_icmp_ne (tgt := 44) hx hb dX9_find_28 (by decide) (fun c5 => ?_) (fun c5 => ?_)
        · have hf := ite_f hf c5
          refine lv_iinc (v := (a3 + (1 : Int32))) (lv' := [(3, .int (a3 + (1 : Int32))), (0, .ref (ad 0)), (1, .int a1), (2, .int a2)]) hx hb dX9_find_44 hl (k := 3) rfl rfl (by decide) rfl (fun ls hl => ?_)
          refine lv_goto (tgt := 12) hx hb dX9_find_47 (by decide) ?_
          exact ih a1 a2 (a3 + (1 : Int32)) ls (lv_sub hl [1, 2, 3, 0] rfl) hf
        · have hf := ite_t hf c5
          refine lv_aload_n hx hb dX9_find_31 rfl (lv_at hl 0 rfl) ?_
          refine lv_iconst (v := 0) hx hb dX9_find_32 (by decide) ?_
          refine lv_iload_n hx hb dX9_find_33 rfl (lv_at hl 3 rfl) ?_
          refine lv_iload_n hx hb dX9_find_34 rfl (lv_at hl 1 rfl) ?_
          obtain ⟨t6, ht6, hf⟩ := ob hf
          refine k_PVi hC LX9_158 ⟨Nat.le_of_ble_eq_true rfl, Nat.le_of_ble_eq_true rfl⟩ ⟨Nat.zero_le _, Nat.zero_le _⟩ (cM_having l E ad x (0 : Int32) a3 a1 t6 ht6) rfl rfl hP rfl rfl hl.1 rfl (Nat.le_of_ble_eq_true rfl) rfl dX9_find_35 (fun hz35 => ?_)
          refine lv_iload_n hx hb dX9_find_38 rfl (lv_at hl 2 rfl) ?_
          refine lv_icmp_ne (tgt := 44) hx hb dX9_find_39 (by decide) (fun c7 => ?_) (fun c7 => ?_)
          · have hf := ite_f hf c7
            refine lv_iinc (v := (a3 + (1 : Int32))) (lv' := [(3, .int (a3 + (1 : Int32))), (0, .ref (ad 0)), (1, .int a1), (2, .int a2)]) hx hb dX9_find_44 hl (k := 3) rfl rfl (by decide) rfl (fun ls hl => ?_)
            refine lv_goto (tgt := 12) hx hb dX9_find_47 (by decide) ?_
            exact ih a1 a2 (a3 + (1 : Int32)) ls (lv_sub hl [1, 2, 3, 0] rfl) hf
          · have hf := ite_t hf c7
            refine lv_iload_n hx hb dX9_find_42 rfl (lv_at hl 3 rfl) ?_
            have hf := Option.some.inj hf
            exact e_Pi hC hr hlocks hf dX9_find_43
  rw [fM_find] at hf
  refine lv_iload_n hx hb dX9_find_0 rfl (lv_at hl 1 rfl) ?_
  refine k_PSi hC LX9_64 ⟨Nat.le_of_ble_eq_true rfl, Nat.le_of_ble_eq_true rfl⟩ ⟨Nat.zero_le _, Nat.zero_le _⟩ (cM_isWeight l E a1 _ rfl) rfl rfl (vP_nil) hl.1 rfl (Nat.le_of_ble_eq_true rfl) rfl dX9_find_1 (fun hz1 => ?_)
  refine lv_if_ne (tgt := 10) hx hb dX9_find_4 (by decide) (fun c1 => ?_) (fun c1 => ?_)
  · have hf := ite_f hf c1
    refine lv_iconst (v := 0) hx hb dX9_find_10 (by decide) ?_
    refine lv_istore_n (lv' := [(3, .int (0 : Int32)), (0, .ref (ad 0)), (1, .int a1), (2, .int a2)]) hx hb dX9_find_11 rfl hl (by decide) rfl (fun ls hl => ?_)
    exact L12 FU a1 a2 (0 : Int32) ls (lv_sub hl [1, 2, 3, 0] rfl) hf
  · have hf := ite_t hf c1
    refine lv_bipush (v := (-12)) hx hb dX9_find_7 (by decide) ?_
    have hf := Option.some.inj hf
    exact e_Pi hC hr hlocks hf dX9_find_9
abbrev rmM_common : Room := { frames := 2, cells := 0, slots := 0, locals := 46 }
set_option maxHeartbeats 4000000 in
set_option maxRecDepth 100000 in
theorem cM_common (l : Launch) (E : eE) (ad : Nat → Nat) (x : TM) (a1 : Int32) (a2 : Int32) (a3 : Int32) (r : Int32) (hf : fM_common x.2.2.2.2.1 a1 a2 a3 = some r) : cP l E yX9_common cX9_common 9 (some .int) rmM_common [.ref (ad 0), .int a1, .int a2, .int a3] (wM E ad x) (some (.int r)) := by
  refine Met.ofW (cc := cX9_common) (maxL := 9) (ret := (some .int)) (by decide) rfl ?_
  intro p e s m args below meth c s₁ B hml hv
  obtain ⟨hargs, hP, hK⟩ := hv
  have hx := B.exec
  have hb := B.bytes
  have hr := B.returns
  have hts := atoms_spec (ws := ws_ yX9_common cX9_common 9 (some .int)) B.pre
  have hta : ∀ w ∈ lw_all, w.before args s = true := fun w h => hts w (List.mem_cons_of_mem _ h)
  have hown : s.vm.findClass RX9 = some m.cls := findClass_of_methodNamed B.named
  have hlocks := B.notSynchronized
  have hC : Cx p s m args c cX9_common 9 RX9 E := ⟨hx, hb, hml, hown, hta, hK⟩
  obtain ⟨ls, he, hl⟩ := entry_ (m := m) (n := 9) hargs (Nat.le_of_ble_eq_true rfl)
  rw [he]
  have hl : lv_has ls 9 [(0, .ref (ad 0)), (1, .int a1), (2, .int a2), (3, .int a3)] := hl
  show W p l e rmM_common s m args below meth c s.heap [] 0 0 (MQ below (qP (some .int) (some (.int r))) args s 0 0 (fun _ => False)) (F0 m 0 ls [])
  have L46 : ∀ (n : Nat) (a1 : Int32) (a2 : Int32) (a3 : Int32) (a4 : Int32) (a5 : Int32) (a6 : Int32) (a7 : Int32) (ls : Array Slot), lv_has ls 9 [(0, .ref (ad 0)), (1, .int a1), (2, .int a2), (3, .int a3), (4, .int a4), (5, .int a5), (6, .int a6), (7, .int a7)] → ∀ (o : Int32), fM_common_46 n x.2.2.2.2.1 a1 a2 a3 a4 a5 a6 a7 = some o → (∀ (ls : Array Slot), lv_has ls 9 [(0, .ref (ad 0)), (1, .int a1), (2, .int a2), (3, .int a3), (4, .int a4), (6, .int o)] → W p l e rmM_common s m args below meth c s.heap [] 0 0 (MQ below (qP (some .int) (some (.int r))) args s 0 0 (fun _ => False)) (F0 m 100 ls [])) → W p l e rmM_common s m args below meth c s.heap [] 0 0 (MQ below (qP (some .int) (some (.int r))) args s 0 0 (fun _ => False)) (F0 m 46 ls []) := by
    intro n
    induction n with
    | zero => intro a1 a2 a3 a4 a5 a6 a7 ls hl o hf hk; cases hf
    | succ n ih =>
      intro a1 a2 a3 a4 a5 a6 a7 ls hl o hf hk
      rw [fM_common_46] at hf
      refine lv_iload hx hb dX9_common_46 (lv_at hl 7 rfl) ?_
      refine lv_bipush (v := 31) hx hb dX9_common_48 (by decide) ?_
      refine lv_icmp_gt (tgt := 100) hx hb dX9_common_50 (by decide) (fun c6 => ?_) (fun c6 => ?_)
      · have hf := ite_t hf c6
        cases hf
        exact hk ls (lv_sub hl [0, 1, 2, 3, 4, 6] rfl)
      · have hf := ite_f hf c6
        refine lv_aload_n hx hb dX9_common_53 rfl (lv_at hl 0 rfl) ?_
        refine lv_iload_n hx hb dX9_common_54 rfl (lv_at hl 1 rfl) ?_
        refine lv_iload_n hx hb dX9_common_55 rfl (lv_at hl 2 rfl) ?_
        refine lv_iload hx hb dX9_common_56 (lv_at hl 7 rfl) ?_
        obtain ⟨t7, ht7, hf⟩ := ob hf
        refine k_PVi hC LX9_158 ⟨Nat.le_of_ble_eq_true rfl, Nat.le_of_ble_eq_true rfl⟩ ⟨Nat.zero_le _, Nat.zero_le _⟩ (cM_having l E ad x a1 a2 a7 t7 ht7) rfl rfl hP rfl rfl hl.1 rfl (Nat.le_of_ble_eq_true rfl) rfl dX9_common_58 (fun hz58 => ?_)
        refine lv_istore (lv' := [(8, .int t7), (0, .ref (ad 0)), (1, .int a1), (2, .int a2), (3, .int a3), (4, .int a4), (5, .int a5), (6, .int a6), (7, .int a7)]) hx hb dX9_common_61 hl (by decide) rfl (fun ls hl => ?_)
        refine lv_iload hx hb dX9_common_63 (lv_at hl 7 rfl) ?_
        refine lv_iload hx hb dX9_common_65 (lv_at hl 0 rfl) ?_
        refine lv_iload hx hb dX9_common_67 (lv_at hl 6 rfl) ?_
        refine lv_icmp_gt (tgt := 86) hx hb dX9_common_69 (by decide) (fun c8 => ?_) (fun c8 => ?_)
        · have hf := ite_t hf c8
          refine lv_iconst (v := 1) hx hb dX9_common_86 (by decide) ?_
          refine lv_goto (tgt := 91) hx hb dX9_common_87 (by decide) ?_
          refine lv_iadd hx hb dX9_common_91 ?_
          refine lv_istore (lv' := [(6, .int (a6 + (1 : Int32))), (8, .int t7), (0, .ref (ad 0)), (1, .int a1), (2, .int a2), (3, .int a3), (4, .int a4), (5, .int a5), (7, .int a7)]) hx hb dX9_common_92 hl (by decide) rfl (fun ls hl => ?_)
          refine lv_iinc (v := (a7 + (1 : Int32))) (lv' := [(7, .int (a7 + (1 : Int32))), (6, .int (a6 + (1 : Int32))), (8, .int t7), (0, .ref (ad 0)), (1, .int a1), (2, .int a2), (3, .int a3), (4, .int a4), (5, .int a5)]) hx hb dX9_common_94 hl (k := 8) rfl rfl (by decide) rfl (fun ls hl => ?_)
          refine lv_goto (tgt := 46) hx hb dX9_common_97 (by decide) ?_
          exact ih a1 a2 a3 a4 a5 (a6 + (1 : Int32)) (a7 + (1 : Int32)) ls (lv_sub hl [3, 4, 5, 6, 7, 8, 1, 0] rfl) _ hf hk
        · have hf := ite_f hf c8
          refine lv_iload hx hb dX9_common_72 (lv_at hl 0 rfl) ?_
          refine lv_iload hx hb dX9_common_74 (lv_at hl 6 rfl) ?_
          refine lv_icmp_ne (tgt := 90) hx hb dX9_common_76 (by decide) (fun c9 => ?_) (fun c9 => ?_)
          · have hf := ite_f hf c9
            refine lv_iconst (v := 0) hx hb dX9_common_90 (by decide) ?_
            refine lv_iadd hx hb dX9_common_91 ?_
            refine lv_istore (lv' := [(6, .int (a6 + (0 : Int32))), (8, .int t7), (0, .ref (ad 0)), (1, .int a1), (2, .int a2), (3, .int a3), (4, .int a4), (5, .int a5), (7, .int a7)]) hx hb dX9_common_92 hl (by decide) rfl (fun ls hl => ?_)
            refine lv_iinc (v := (a7 + (1 : Int32))) (lv' := [(7, .int (a7 + (1 : Int32))), (6, .int (a6 + (0 : Int32))), (8, .int t7), (0, .ref (ad 0)), (1, .int a1), (2, .int a2), (3, .int a3), (4, .int a4), (5, .int a5)]) hx hb dX9_common_94 hl (k := 8) rfl rfl (by decide) rfl (fun ls hl => ?_)
            refine lv_goto (tgt := 46) hx hb dX9_common_97 (by decide) ?_
            exact ih a1 a2 a3 a4 a5 (a6 + (0 : Int32)) (a7 + (1 : Int32)) ls (lv_sub hl [3, 4, 5, 6, 7, 8, 1, 0] rfl) _ hf hk
          · have hf := ite_t hf c9
            refine lv_iload hx hb dX9_common_79 (lv_at hl 8 rfl) ?_
            refine lv_iload hx hb dX9_common_81 (lv_at hl 5 rfl) ?_
            refine lv_icmp_ge (tgt := 90) hx hb dX9_common_83 (by decide) (fun c10 => ?_) (fun c10 => ?_)
            · have hf := ite_t hf c10
              refine lv_iconst (v := 0) hx hb dX9_common_90 (by decide) ?_
              refine lv_iadd hx hb dX9_common_91 ?_
              refine lv_istore (lv' := [(6, .int (a6 + (0 : Int32))), (8, .int t7), (0, .ref (ad 0)), (1, .int a1), (2, .int a2), (3, .int a3), (4, .int a4), (5, .int a5), (7, .int a7)]) hx hb dX9_common_92 hl (by decide) rfl (fun ls hl => ?_)
              refine lv_iinc (v := (a7 + (1 : Int32))) (lv' := [(7, .int (a7 + (1 : Int32))), (6, .int (a6 + (0 : Int32))), (8, .int t7), (0, .ref (ad 0)), (1, .int a1), (2, .int a2), (3, .int a3), (4, .int a4), (5, .int a5)]) hx hb dX9_common_94 hl (k := 8) rfl rfl (by decide) rfl (fun ls hl => ?_)
              refine lv_goto (tgt := 46) hx hb dX9_common_97 (by decide) ?_
              exact ih a1 a2 a3 a4 a5 (a6 + (0 : Int32)) (a7 + (1 : Int32)) ls (lv_sub hl [3, 4, 5, 6, 7, 8, 1, 0] rfl) _ hf hk
            · have hf := ite_f hf c10
              refine lv_iconst (v := 1) hx hb dX9_common_86 (by decide) ?_
              refine lv_goto (tgt := 91) hx hb dX9_common_87 (by decide) ?_
              refine lv_iadd hx hb dX9_common_91 ?_
              refine lv_istore (lv' := [(6, .int (a6 + (1 : Int32))), (8, .int t7), (0, .ref (ad 0)), (1, .int a1), (2, .int a2), (3, .int a3), (4, .int a4), (5, .int a5), (7, .int a7)]) hx hb dX9_common_92 hl (by decide) rfl (fun ls hl => ?_)
              refine lv_iinc (v := (a7 + (1 : Int32))) (lv' := [(7, .int (a7 + (1 : Int32))), (6, .int (a6 + (1 : Int32))), (8, .int t7), (0, .ref (ad 0)), (1, .int a1), (2, .int a2), (3, .int a3), (4, .int a4), (5, .int a5)]) hx hb dX9_common_94 hl (k := 8) rfl rfl (by decide) rfl (fun ls hl => ?_)
              refine lv_goto (tgt := 46) hx hb dX9_common_97 (by decide) ?_
              exact ih a1 a2 a3 a4 a5 (a6 + (1 : Int32)) (a7 + (1 : Int32)) ls (lv_sub hl [3, 4, 5, 6, 7, 8, 1, 0] rfl) _ hf hk
  have L15 : ∀ (n : Nat) (a1 : Int32) (a2 : Int32) (a3 : Int32) (a4 : Int32) (ls : Array Slot), lv_has ls 9 [(0, .ref (ad 0)), (1, .int a1), (2, .int a2), (3, .int a3), (4, .int a4)] → fM_common_15 n x.2.2.2.2.1 a1 a2 a3 a4 = some r → W p l e rmM_common s m args below meth c s.heap [] 0 0 (MQ below (qP (some .int) (some (.int r))) args s 0 0 (fun _ => False)) (F0 m 15 ls []) := by
    intro n
    induction n with
    | zero => intro a1 a2 a3 a4 ls hl hf; cases hf
    | succ n ih =>
      intro a1 a2 a3 a4 ls hl hf
      rw [fM_common_15] at hf
      refine lv_iload hx hb dX9_common_15 (lv_at hl 4 rfl) ?_
      refine lv_bipush (v := 31) hx hb dX9_common_17 (by decide) ?_
      refine lv_icmp_gt (tgt := 115) hx hb dX9_common_19 (by decide) (fun c3 => ?_) (fun c3 => ?_)
      · have hf := ite_t hf c3
        refine lv_bipush (v := (-11)) hx hb dX9_common_115 (by decide) ?_
        have hf := Option.some.inj hf
        exact e_Pi hC hr hlocks hf dX9_common_117
      · have hf := ite_f hf c3
        refine lv_aload_n hx hb dX9_common_22 rfl (lv_at hl 0 rfl) ?_
        refine lv_iload_n hx hb dX9_common_23 rfl (lv_at hl 1 rfl) ?_
        refine lv_iload_n hx hb dX9_common_24 rfl (lv_at hl 2 rfl) ?_
        refine lv_iload hx hb dX9_common_25 (lv_at hl 4 rfl) ?_
        obtain ⟨t4, ht4, hf⟩ := ob hf
        refine k_PVi hC LX9_158 ⟨Nat.le_of_ble_eq_true rfl, Nat.le_of_ble_eq_true rfl⟩ ⟨Nat.zero_le _, Nat.zero_le _⟩ (cM_having l E ad x a1 a2 a4 t4 ht4) rfl rfl hP rfl rfl hl.1 rfl (Nat.le_of_ble_eq_true rfl) rfl dX9_common_27 (fun hz27 => ?_)
        refine lv_istore (lv' := [(5, .int t4), (0, .ref (ad 0)), (1, .int a1), (2, .int a2), (3, .int a3), (4, .int a4)]) hx hb dX9_common_30 hl (by decide) rfl (fun ls hl => ?_)
        refine lv_iload hx hb dX9_common_32 (lv_at hl 0 rfl) ?_
        refine lv_if_ne (tgt := 40) hx hb dX9_common_34 (by decide) (fun c5 => ?_) (fun c5 => ?_)
        · have hf := ite_f hf c5
          refine lv_iconst (v := 0) hx hb dX9_common_40 (by decide) ?_
          refine lv_istore (lv' := [(6, .int (0 : Int32)), (5, .int t4), (0, .ref (ad 0)), (1, .int a1), (2, .int a2), (3, .int a3), (4, .int a4)]) hx hb dX9_common_41 hl (by decide) rfl (fun ls hl => ?_)
          refine lv_iconst (v := 0) hx hb dX9_common_43 (by decide) ?_
          refine lv_istore (lv' := [(7, .int (0 : Int32)), (6, .int (0 : Int32)), (5, .int t4), (0, .ref (ad 0)), (1, .int a1), (2, .int a2), (3, .int a3), (4, .int a4)]) hx hb dX9_common_44 hl (by decide) rfl (fun ls hl => ?_)
          obtain ⟨o11, ho11, hf⟩ := ob hf
          refine L46 FU a1 a2 a3 a4 t4 (0 : Int32) (0 : Int32) ls (lv_sub hl [3, 4, 5, 6, 7, 2, 1, 0] rfl) o11 ho11 (fun ls hl => ?_)
          refine lv_iload hx hb dX9_common_100 (lv_at hl 5 rfl) ?_
          refine lv_iload_n hx hb dX9_common_102 rfl (lv_at hl 3 rfl) ?_
          refine lv_icmp_ne (tgt := 109) hx hb dX9_common_103 (by decide) (fun c12 => ?_) (fun c12 => ?_)
          · have hf := ite_f hf c12
            refine lv_iinc (v := (a4 + (1 : Int32))) (lv' := [(4, .int (a4 + (1 : Int32))), (0, .ref (ad 0)), (1, .int a1), (2, .int a2), (3, .int a3), (6, .int o11)]) hx hb dX9_common_109 hl (k := 4) rfl rfl (by decide) rfl (fun ls hl => ?_)
            refine lv_goto (tgt := 15) hx hb dX9_common_112 (by decide) ?_
            exact ih a1 a2 a3 (a4 + (1 : Int32)) ls (lv_sub hl [1, 2, 3, 4, 0] rfl) hf
          · have hf := ite_t hf c12
            refine lv_iload hx hb dX9_common_106 (lv_at hl 4 rfl) ?_
            have hf := Option.some.inj hf
            exact e_Pi hC hr hlocks hf dX9_common_108
        · have hf := ite_t hf c5
          refine lv_goto (tgt := 109) hx hb dX9_common_37 (by decide) ?_
          refine lv_iinc (v := (a4 + (1 : Int32))) (lv' := [(4, .int (a4 + (1 : Int32))), (5, .int t4), (0, .ref (ad 0)), (1, .int a1), (2, .int a2), (3, .int a3)]) hx hb dX9_common_109 hl (k := 5) rfl rfl (by decide) rfl (fun ls hl => ?_)
          refine lv_goto (tgt := 15) hx hb dX9_common_112 (by decide) ?_
          exact ih a1 a2 a3 (a4 + (1 : Int32)) ls (lv_sub hl [2, 3, 4, 5, 0] rfl) hf
  rw [fM_common] at hf
  refine lv_aload_n hx hb dX9_common_0 rfl (lv_at hl 0 rfl) ?_
  refine lv_iload_n hx hb dX9_common_1 rfl (lv_at hl 1 rfl) ?_
  refine lv_iload_n hx hb dX9_common_2 rfl (lv_at hl 2 rfl) ?_
  obtain ⟨t1, ht1, hf⟩ := ob hf
  refine k_PVi hC LX9_148 ⟨Nat.le_of_ble_eq_true rfl, Nat.le_of_ble_eq_true rfl⟩ ⟨Nat.zero_le _, Nat.zero_le _⟩ (cM_isPart l E ad x a1 a2 t1 ht1) rfl rfl hP rfl rfl hl.1 rfl (Nat.le_of_ble_eq_true rfl) rfl dX9_common_3 (fun hz3 => ?_)
  refine lv_if_ne (tgt := 12) hx hb dX9_common_6 (by decide) (fun c2 => ?_) (fun c2 => ?_)
  · have hf := ite_f hf c2
    refine lv_iconst (v := 0) hx hb dX9_common_12 (by decide) ?_
    refine lv_istore (lv' := [(4, .int (0 : Int32)), (0, .ref (ad 0)), (1, .int a1), (2, .int a2), (3, .int a3)]) hx hb dX9_common_13 hl (by decide) rfl (fun ls hl => ?_)
    exact L15 FU a1 a2 a3 (0 : Int32) ls (lv_sub hl [1, 2, 3, 4, 0] rfl) hf
  · have hf := ite_t hf c2
    refine lv_bipush (v := (-11)) hx hb dX9_common_9 (by decide) ?_
    have hf := Option.some.inj hf
    exact e_Pi hC hr hlocks hf dX9_common_11
abbrev rmM_unlike : Room := { frames := 2, cells := 0, slots := 0, locals := 46 }
set_option maxHeartbeats 4000000 in
set_option maxRecDepth 100000 in
theorem cM_unlike (l : Launch) (E : eE) (ad : Nat → Nat) (x : TM) (a1 : Int32) (a2 : Int32) (r : Int32) (hf : fM_unlike x.2.2.2.2.1 a1 a2 = some r) : cP l E yX9_unlike cX9_unlike 5 (some .int) rmM_unlike [.ref (ad 0), .int a1, .int a2] (wM E ad x) (some (.int r)) := by
  refine Met.ofW (cc := cX9_unlike) (maxL := 5) (ret := (some .int)) (by decide) rfl ?_
  intro p e s m args below meth c s₁ B hml hv
  obtain ⟨hargs, hP, hK⟩ := hv
  have hx := B.exec
  have hb := B.bytes
  have hr := B.returns
  have hts := atoms_spec (ws := ws_ yX9_unlike cX9_unlike 5 (some .int)) B.pre
  have hta : ∀ w ∈ lw_all, w.before args s = true := fun w h => hts w (List.mem_cons_of_mem _ h)
  have hown : s.vm.findClass RX9 = some m.cls := findClass_of_methodNamed B.named
  have hlocks := B.notSynchronized
  have hC : Cx p s m args c cX9_unlike 5 RX9 E := ⟨hx, hb, hml, hown, hta, hK⟩
  obtain ⟨ls, he, hl⟩ := entry_ (m := m) (n := 5) hargs (Nat.le_of_ble_eq_true rfl)
  rw [he]
  have hl : lv_has ls 5 [(0, .ref (ad 0)), (1, .int a1), (2, .int a2)] := hl
  show W p l e rmM_unlike s m args below meth c s.heap [] 0 0 (MQ below (qP (some .int) (some (.int r))) args s 0 0 (fun _ => False)) (F0 m 0 ls [])
  have L5 : ∀ (n : Nat) (a1 : Int32) (a2 : Int32) (a3 : Int32) (a4 : Int32) (ls : Array Slot), lv_has ls 5 [(0, .ref (ad 0)), (1, .int a1), (2, .int a2), (3, .int a3), (4, .int a4)] → fM_unlike_5 n x.2.2.2.2.1 a1 a2 a3 a4 = some r → W p l e rmM_unlike s m args below meth c s.heap [] 0 0 (MQ below (qP (some .int) (some (.int r))) args s 0 0 (fun _ => False)) (F0 m 5 ls []) := by
    intro n
    induction n with
    | zero => intro a1 a2 a3 a4 ls hl hf; cases hf
    | succ n ih =>
      intro a1 a2 a3 a4 ls hl hf
      rw [fM_unlike_5] at hf
      refine lv_iload hx hb dX9_unlike_5 (lv_at hl 4 rfl) ?_
      refine lv_bipush (v := 31) hx hb dX9_unlike_7 (by decide) ?_
      refine lv_icmp_gt (tgt := 37) hx hb dX9_unlike_9 (by decide) (fun c1 => ?_) (fun c1 => ?_)
      · have hf := ite_t hf c1
        refine lv_iload_n hx hb dX9_unlike_37 rfl (lv_at hl 3 rfl) ?_
        have hf := Option.some.inj hf
        exact e_Pi hC hr hlocks hf dX9_unlike_38
      · have hf := ite_f hf c1
        refine lv_iload_n hx hb dX9_unlike_12 rfl (lv_at hl 3 rfl) ?_
        refine lv_aload_n hx hb dX9_unlike_13 rfl (lv_at hl 0 rfl) ?_
        refine lv_iload_n hx hb dX9_unlike_14 rfl (lv_at hl 1 rfl) ?_
        refine lv_iload_n hx hb dX9_unlike_15 rfl (lv_at hl 2 rfl) ?_
        refine lv_iload hx hb dX9_unlike_16 (lv_at hl 4 rfl) ?_
        obtain ⟨t2, ht2, hf⟩ := ob hf
        refine k_PVi hC LX9_158 ⟨Nat.le_of_ble_eq_true rfl, Nat.le_of_ble_eq_true rfl⟩ ⟨Nat.zero_le _, Nat.zero_le _⟩ (cM_having l E ad x a1 a2 a4 t2 ht2) rfl rfl hP rfl rfl hl.1 rfl (Nat.le_of_ble_eq_true rfl) rfl dX9_unlike_18 (fun hz18 => ?_)
        refine lv_if_le (tgt := 28) hx hb dX9_unlike_21 (by decide) (fun c3 => ?_) (fun c3 => ?_)
        · have hf := ite_t hf c3
          refine lv_iconst (v := 0) hx hb dX9_unlike_28 (by decide) ?_
          refine lv_iadd hx hb dX9_unlike_29 ?_
          refine lv_istore_n (lv' := [(3, .int (a3 + (0 : Int32))), (0, .ref (ad 0)), (1, .int a1), (2, .int a2), (4, .int a4)]) hx hb dX9_unlike_30 rfl hl (by decide) rfl (fun ls hl => ?_)
          refine lv_iinc (v := (a4 + (1 : Int32))) (lv' := [(4, .int (a4 + (1 : Int32))), (3, .int (a3 + (0 : Int32))), (0, .ref (ad 0)), (1, .int a1), (2, .int a2)]) hx hb dX9_unlike_31 hl (k := 4) rfl rfl (by decide) rfl (fun ls hl => ?_)
          refine lv_goto (tgt := 5) hx hb dX9_unlike_34 (by decide) ?_
          exact ih a1 a2 (a3 + (0 : Int32)) (a4 + (1 : Int32)) ls (lv_sub hl [2, 3, 4, 1, 0] rfl) hf
        · have hf := ite_f hf c3
          refine lv_iconst (v := 1) hx hb dX9_unlike_24 (by decide) ?_
          refine lv_goto (tgt := 29) hx hb dX9_unlike_25 (by decide) ?_
          refine lv_iadd hx hb dX9_unlike_29 ?_
          refine lv_istore_n (lv' := [(3, .int (a3 + (1 : Int32))), (0, .ref (ad 0)), (1, .int a1), (2, .int a2), (4, .int a4)]) hx hb dX9_unlike_30 rfl hl (by decide) rfl (fun ls hl => ?_)
          refine lv_iinc (v := (a4 + (1 : Int32))) (lv' := [(4, .int (a4 + (1 : Int32))), (3, .int (a3 + (1 : Int32))), (0, .ref (ad 0)), (1, .int a1), (2, .int a2)]) hx hb dX9_unlike_31 hl (k := 4) rfl rfl (by decide) rfl (fun ls hl => ?_)
          refine lv_goto (tgt := 5) hx hb dX9_unlike_34 (by decide) ?_
          exact ih a1 a2 (a3 + (1 : Int32)) (a4 + (1 : Int32)) ls (lv_sub hl [2, 3, 4, 1, 0] rfl) hf
  rw [fM_unlike] at hf
  refine lv_iconst (v := 0) hx hb dX9_unlike_0 (by decide) ?_
  refine lv_istore_n (lv' := [(3, .int (0 : Int32)), (0, .ref (ad 0)), (1, .int a1), (2, .int a2)]) hx hb dX9_unlike_1 rfl hl (by decide) rfl (fun ls hl => ?_)
  refine lv_iconst (v := 0) hx hb dX9_unlike_2 (by decide) ?_
  refine lv_istore (lv' := [(4, .int (0 : Int32)), (3, .int (0 : Int32)), (0, .ref (ad 0)), (1, .int a1), (2, .int a2)]) hx hb dX9_unlike_3 hl (by decide) rfl (fun ls hl => ?_)
  exact L5 FU a1 a2 (0 : Int32) (0 : Int32) ls (lv_sub hl [2, 3, 4, 1, 0] rfl) hf
abbrev rmM_sum : Room := { frames := 1, cells := 0, slots := 0, locals := 21 }
set_option maxHeartbeats 4000000 in
set_option maxRecDepth 100000 in
theorem cM_sum (l : Launch) (E : eE) (ad : Nat → Nat) (x : TM) (a1 : Int32) (a2 : Int32) (r : Int32) (hf : fM_sum x.2.2.2.2.1 a1 a2 = some r) : cP l E yX9_sum cX9_sum 5 (some .int) rmM_sum [.ref (ad 0), .int a1, .int a2] (wM E ad x) (some (.int r)) := by
  refine Met.ofW (cc := cX9_sum) (maxL := 5) (ret := (some .int)) (by decide) rfl ?_
  intro p e s m args below meth c s₁ B hml hv
  obtain ⟨hargs, hP, hK⟩ := hv
  have hx := B.exec
  have hb := B.bytes
  have hr := B.returns
  have hts := atoms_spec (ws := ws_ yX9_sum cX9_sum 5 (some .int)) B.pre
  have hta : ∀ w ∈ lw_all, w.before args s = true := fun w h => hts w (List.mem_cons_of_mem _ h)
  have hown : s.vm.findClass RX9 = some m.cls := findClass_of_methodNamed B.named
  have hlocks := B.notSynchronized
  have hC : Cx p s m args c cX9_sum 5 RX9 E := ⟨hx, hb, hml, hown, hta, hK⟩
  obtain ⟨ls, he, hl⟩ := entry_ (m := m) (n := 5) hargs (Nat.le_of_ble_eq_true rfl)
  rw [he]
  have hl : lv_has ls 5 [(0, .ref (ad 0)), (1, .int a1), (2, .int a2)] := hl
  show W p l e rmM_sum s m args below meth c s.heap [] 0 0 (MQ below (qP (some .int) (some (.int r))) args s 0 0 (fun _ => False)) (F0 m 0 ls [])
  have L5 : ∀ (n : Nat) (a2 : Int32) (a3 : Int32) (a4 : Int32) (ls : Array Slot), lv_has ls 5 [(0, .ref (ad 0)), (2, .int a2), (3, .int a3), (4, .int a4)] → fM_sum_5 n x.2.2.2.2.1 a2 a3 a4 = some r → W p l e rmM_sum s m args below meth c s.heap [] 0 0 (MQ below (qP (some .int) (some (.int r))) args s 0 0 (fun _ => False)) (F0 m 5 ls []) := by
    intro n
    induction n with
    | zero => intro a2 a3 a4 ls hl hf; cases hf
    | succ n ih =>
      intro a2 a3 a4 ls hl hf
      rw [fM_sum_5] at hf
      refine lv_iload hx hb dX9_sum_5 (lv_at hl 3 rfl) ?_
      refine lv_iload_n hx hb dX9_sum_7 rfl (lv_at hl 1 rfl) ?_
      refine lv_icmp_ge (tgt := 26) hx hb dX9_sum_8 (by decide) (fun c1 => ?_) (fun c1 => ?_)
      · have hf := ite_t hf c1
        refine lv_iload_n hx hb dX9_sum_26 rfl (lv_at hl 2 rfl) ?_
        have hf := Option.some.inj hf
        exact e_Pi hC hr hlocks hf dX9_sum_27
      · have hf := ite_f hf c1
        refine lv_iload_n hx hb dX9_sum_11 rfl (lv_at hl 2 rfl) ?_
        refine lv_aload_n hx hb dX9_sum_12 rfl (lv_at hl 0 rfl) ?_
        refine lv_iload hx hb dX9_sum_13 (lv_at hl 3 rfl) ?_
        obtain ⟨t2, ht2, hf⟩ := ob hf
        refine k_PVi hC LX9_86 ⟨Nat.le_of_ble_eq_true rfl, Nat.le_of_ble_eq_true rfl⟩ ⟨Nat.zero_le _, Nat.zero_le _⟩ (cM_is l E ad x a4 t2 ht2) rfl rfl hP rfl rfl hl.1 rfl (Nat.le_of_ble_eq_true rfl) rfl dX9_sum_15 (fun hz15 => ?_)
        refine lv_iadd hx hb dX9_sum_18 ?_
        refine lv_istore_n (lv' := [(3, .int (a3 + t2)), (0, .ref (ad 0)), (2, .int a2), (4, .int a4)]) hx hb dX9_sum_19 rfl hl (by decide) rfl (fun ls hl => ?_)
        refine lv_iinc (v := (a4 + (1 : Int32))) (lv' := [(4, .int (a4 + (1 : Int32))), (3, .int (a3 + t2)), (0, .ref (ad 0)), (2, .int a2)]) hx hb dX9_sum_20 hl (k := 3) rfl rfl (by decide) rfl (fun ls hl => ?_)
        refine lv_goto (tgt := 5) hx hb dX9_sum_23 (by decide) ?_
        exact ih a2 (a3 + t2) (a4 + (1 : Int32)) ls (lv_sub hl [2, 3, 1, 0] rfl) hf
  rw [fM_sum] at hf
  refine lv_iconst (v := 0) hx hb dX9_sum_0 (by decide) ?_
  refine lv_istore_n (lv' := [(3, .int (0 : Int32)), (0, .ref (ad 0)), (1, .int a1), (2, .int a2)]) hx hb dX9_sum_1 rfl hl (by decide) rfl (fun ls hl => ?_)
  refine lv_iload_n hx hb dX9_sum_2 rfl (lv_at hl 2 rfl) ?_
  refine lv_istore (lv' := [(4, .int a1), (3, .int (0 : Int32)), (0, .ref (ad 0)), (1, .int a1), (2, .int a2)]) hx hb dX9_sum_3 hl (by decide) rfl (fun ls hl => ?_)
  exact L5 FU a2 (0 : Int32) a1 ls (lv_sub hl [2, 4, 1, 0] rfl) hf
abbrev rmM_median : Room := { frames := 3, cells := 0, slots := 0, locals := 70 }
set_option maxHeartbeats 4000000 in
set_option maxRecDepth 100000 in
theorem cM_median (l : Launch) (E : eE) (ad : Nat → Nat) (x : TM) (a1 : Int32) (a2 : Int32) (r : Int32) (hf : fM_median x.2.2.2.2.1 a1 a2 = some r) : cP l E yX9_median cX9_median 4 (some .int) rmM_median [.ref (ad 0), .int a1, .int a2] (wM E ad x) (some (.int r)) := by
  refine Met.ofW (cc := cX9_median) (maxL := 4) (ret := (some .int)) (by decide) rfl ?_
  intro p e s m args below meth c s₁ B hml hv
  obtain ⟨hargs, hP, hK⟩ := hv
  have hx := B.exec
  have hb := B.bytes
  have hr := B.returns
  have hts := atoms_spec (ws := ws_ yX9_median cX9_median 4 (some .int)) B.pre
  have hta : ∀ w ∈ lw_all, w.before args s = true := fun w h => hts w (List.mem_cons_of_mem _ h)
  have hown : s.vm.findClass RX9 = some m.cls := findClass_of_methodNamed B.named
  have hlocks := B.notSynchronized
  have hC : Cx p s m args c cX9_median 4 RX9 E := ⟨hx, hb, hml, hown, hta, hK⟩
  obtain ⟨ls, he, hl⟩ := entry_ (m := m) (n := 4) hargs (Nat.le_of_ble_eq_true rfl)
  rw [he]
  have hl : lv_has ls 4 [(0, .ref (ad 0)), (1, .int a1), (2, .int a2)] := hl
  show W p l e rmM_median s m args below meth c s.heap [] 0 0 (MQ below (qP (some .int) (some (.int r))) args s 0 0 (fun _ => False)) (F0 m 0 ls [])
  rw [fM_median] at hf
  refine lv_iload_n hx hb dX9_median_0 rfl (lv_at hl 2 rfl) ?_
  refine lv_iload_n hx hb dX9_median_1 rfl (lv_at hl 1 rfl) ?_
  refine lv_isub hx hb dX9_median_2 ?_
  refine lv_istore_n (lv' := [(3, .int (a2 - a1)), (0, .ref (ad 0)), (1, .int a1), (2, .int a2)]) hx hb dX9_median_3 rfl hl (by decide) rfl (fun ls hl => ?_)
  refine lv_aload_n hx hb dX9_median_4 rfl (lv_at hl 1 rfl) ?_
  refine lv_iload_n hx hb dX9_median_5 rfl (lv_at hl 2 rfl) ?_
  refine lv_iload_n hx hb dX9_median_6 rfl (lv_at hl 3 rfl) ?_
  refine lv_iload_n hx hb dX9_median_7 rfl (lv_at hl 0 rfl) ?_
  refine lv_iconst (v := 2) hx hb dX9_median_8 (by decide) ?_
  refine lv_irem hx hb dX9_median_9 (by decide) ?_
  refine lv_if_ne (tgt := 21) hx hb dX9_median_10 (by decide) (fun c1 => ?_) (fun c1 => ?_)
  · have hf := ite_f hf c1
    refine lv_iload_n hx hb dX9_median_21 rfl (lv_at hl 0 rfl) ?_
    refine lv_iconst (v := 2) hx hb dX9_median_22 (by decide) ?_
    refine lv_idiv hx hb dX9_median_23 (by decide) ?_
    obtain ⟨t2, ht2, hf⟩ := ob hf
    refine k_PVi hC LX9_155 ⟨Nat.le_of_ble_eq_true rfl, Nat.le_of_ble_eq_true rfl⟩ ⟨Nat.zero_le _, Nat.zero_le _⟩ (cM_bySize l E ad x a1 a2 ((a2 - a1) / (2 : Int32)) t2 ht2) rfl rfl hP rfl rfl hl.1 rfl (Nat.le_of_ble_eq_true rfl) rfl dX9_median_24 (fun hz24 => ?_)
    have hf := Option.some.inj hf
    exact e_Pi hC hr hlocks hf dX9_median_27
  · have hf := ite_t hf c1
    refine lv_iload_n hx hb dX9_median_13 rfl (lv_at hl 0 rfl) ?_
    refine lv_iconst (v := 2) hx hb dX9_median_14 (by decide) ?_
    refine lv_idiv hx hb dX9_median_15 (by decide) ?_
    refine lv_iconst (v := 1) hx hb dX9_median_16 (by decide) ?_
    refine lv_isub hx hb dX9_median_17 ?_
    refine lv_goto (tgt := 24) hx hb dX9_median_18 (by decide) ?_
    obtain ⟨t3, ht3, hf⟩ := ob hf
    refine k_PVi hC LX9_155 ⟨Nat.le_of_ble_eq_true rfl, Nat.le_of_ble_eq_true rfl⟩ ⟨Nat.zero_le _, Nat.zero_le _⟩ (cM_bySize l E ad x a1 a2 (((a2 - a1) / (2 : Int32)) - (1 : Int32)) t3 ht3) rfl rfl hP rfl rfl hl.1 rfl (Nat.le_of_ble_eq_true rfl) rfl dX9_median_24 (fun hz24 => ?_)
    have hf := Option.some.inj hf
    exact e_Pi hC hr hlocks hf dX9_median_27
abbrev rmM_bagOf : Room := { frames := 4, cells := 0, slots := 0, locals := 93 }
set_option maxHeartbeats 4000000 in
set_option maxRecDepth 100000 in
theorem cM_bagOf (l : Launch) (E : eE) (ad : Nat → Nat) (x : TM) (a1 : Int32) (a2 : Int32) (r : Int32) (hf : fM_bagOf x.2.2.2.2.1 a1 a2 = some r) : cP l E yX9_bagOf cX9_bagOf 5 (some .int) rmM_bagOf [.ref (ad 0), .int a1, .int a2] (wM E ad x) (some (.int r)) := by
  refine Met.ofW (cc := cX9_bagOf) (maxL := 5) (ret := (some .int)) (by decide) rfl ?_
  intro p e s m args below meth c s₁ B hml hv
  obtain ⟨hargs, hP, hK⟩ := hv
  have hx := B.exec
  have hb := B.bytes
  have hr := B.returns
  have hts := atoms_spec (ws := ws_ yX9_bagOf cX9_bagOf 5 (some .int)) B.pre
  have hta : ∀ w ∈ lw_all, w.before args s = true := fun w h => hts w (List.mem_cons_of_mem _ h)
  have hown : s.vm.findClass RX9 = some m.cls := findClass_of_methodNamed B.named
  have hlocks := B.notSynchronized
  have hC : Cx p s m args c cX9_bagOf 5 RX9 E := ⟨hx, hb, hml, hown, hta, hK⟩
  obtain ⟨ls, he, hl⟩ := entry_ (m := m) (n := 5) hargs (Nat.le_of_ble_eq_true rfl)
  rw [he]
  have hl : lv_has ls 5 [(0, .ref (ad 0)), (1, .int a1), (2, .int a2)] := hl
  show W p l e rmM_bagOf s m args below meth c s.heap [] 0 0 (MQ below (qP (some .int) (some (.int r))) args s 0 0 (fun _ => False)) (F0 m 0 ls [])
  rw [fM_bagOf] at hf
  refine lv_iload_n hx hb dX9_bagOf_0 rfl (lv_at hl 1 rfl) ?_
  refine lv_iconst (v := 0) hx hb dX9_bagOf_1 (by decide) ?_
  refine lv_aload_n hx hb dX9_bagOf_2 rfl (lv_at hl 0 rfl) ?_
  obtain ⟨t1, ht1, hf⟩ := ob hf
  refine k_PVi hC LX9_164 ⟨Nat.le_of_ble_eq_true rfl, Nat.le_of_ble_eq_true rfl⟩ ⟨Nat.zero_le _, Nat.zero_le _⟩ (cM_bags l E ad x t1 ht1) rfl rfl hP rfl rfl hl.1 rfl (Nat.le_of_ble_eq_true rfl) rfl dX9_bagOf_3 (fun hz3 => ?_)
  refine lv_iconst (v := 1) hx hb dX9_bagOf_6 (by decide) ?_
  refine lv_isub hx hb dX9_bagOf_7 ?_
  refine k_PSi hC LX9_60 ⟨Nat.le_of_ble_eq_true rfl, Nat.le_of_ble_eq_true rfl⟩ ⟨Nat.zero_le _, Nat.zero_le _⟩ (cM_isBetween l E a1 (0 : Int32) (t1 - (1 : Int32)) _ rfl) rfl rfl (vP_nil) hl.1 rfl (Nat.le_of_ble_eq_true rfl) rfl dX9_bagOf_8 (fun hz8 => ?_)
  refine lv_if_ne (tgt := 17) hx hb dX9_bagOf_11 (by decide) (fun c2 => ?_) (fun c2 => ?_)
  · have hf := ite_f hf c2
    refine lv_aload_n hx hb dX9_bagOf_17 rfl (lv_at hl 0 rfl) ?_
    refine lv_iload_n hx hb dX9_bagOf_18 rfl (lv_at hl 1 rfl) ?_
    obtain ⟨t3, ht3, hf⟩ := ob hf
    refine k_PVi hC LX9_167 ⟨Nat.le_of_ble_eq_true rfl, Nat.le_of_ble_eq_true rfl⟩ ⟨Nat.zero_le _, Nat.zero_le _⟩ (cM_beginOf l E ad x a1 t3 ht3) rfl rfl hP rfl rfl hl.1 rfl (Nat.le_of_ble_eq_true rfl) rfl dX9_bagOf_19 (fun hz19 => ?_)
    refine lv_istore_n (lv' := [(3, .int t3), (0, .ref (ad 0)), (1, .int a1), (2, .int a2)]) hx hb dX9_bagOf_22 rfl hl (by decide) rfl (fun ls hl => ?_)
    refine lv_aload_n hx hb dX9_bagOf_23 rfl (lv_at hl 1 rfl) ?_
    refine lv_iload_n hx hb dX9_bagOf_24 rfl (lv_at hl 2 rfl) ?_
    refine lv_iconst (v := 1) hx hb dX9_bagOf_25 (by decide) ?_
    refine lv_iadd hx hb dX9_bagOf_26 ?_
    obtain ⟨t4, ht4, hf⟩ := ob hf
    refine k_PVi hC LX9_167 ⟨Nat.le_of_ble_eq_true rfl, Nat.le_of_ble_eq_true rfl⟩ ⟨Nat.zero_le _, Nat.zero_le _⟩ (cM_beginOf l E ad x (a1 + (1 : Int32)) t4 ht4) rfl rfl hP rfl rfl hl.1 rfl (Nat.le_of_ble_eq_true rfl) rfl dX9_bagOf_27 (fun hz27 => ?_)
    refine lv_istore (lv' := [(4, .int t4), (3, .int t3), (0, .ref (ad 0)), (1, .int a1), (2, .int a2)]) hx hb dX9_bagOf_30 hl (by decide) rfl (fun ls hl => ?_)
    refine lv_iload_n hx hb dX9_bagOf_32 rfl (lv_at hl 4 rfl) ?_
    by_cases c33_0 : a2 = (0 : Int32)
    · have hf := ite_t hf c33_0
      have e9 : (a2).toInt = 0 := by rw [c33_0]; decide
      refine lv_tableIn (tgt := 72) hx hb dX9_bagOf_33 (by omega) (by omega) (by rw [e9]; rfl) (by decide) ?_
      refine lv_iload_n hx hb dX9_bagOf_72 rfl (lv_at hl 1 rfl) ?_
      have hf := Option.some.inj hf
      exact e_Pi hC hr hlocks hf dX9_bagOf_73
    · have hf := ite_f hf c33_0
      by_cases c33_1 : a2 = (1 : Int32)
      · have hf := ite_t hf c33_1
        have e9 : (a2).toInt = 1 := by rw [c33_1]; decide
        refine lv_tableIn (tgt := 74) hx hb dX9_bagOf_33 (by omega) (by omega) (by rw [e9]; rfl) (by decide) ?_
        refine lv_iload hx hb dX9_bagOf_74 (lv_at hl 0 rfl) ?_
        refine lv_iload_n hx hb dX9_bagOf_76 rfl (lv_at hl 1 rfl) ?_
        refine lv_isub hx hb dX9_bagOf_77 ?_
        have hf := Option.some.inj hf
        exact e_Pi hC hr hlocks hf dX9_bagOf_78
      · have hf := ite_f hf c33_1
        by_cases c33_2 : a2 = (2 : Int32)
        · have hf := ite_t hf c33_2
          have e9 : (a2).toInt = 2 := by rw [c33_2]; decide
          refine lv_tableIn (tgt := 79) hx hb dX9_bagOf_33 (by omega) (by omega) (by rw [e9]; rfl) (by decide) ?_
          refine lv_aload_n hx hb dX9_bagOf_79 rfl (lv_at hl 2 rfl) ?_
          refine lv_iload_n hx hb dX9_bagOf_80 rfl (lv_at hl 1 rfl) ?_
          refine lv_iload hx hb dX9_bagOf_81 (lv_at hl 0 rfl) ?_
          obtain ⟨t5, ht5, hf⟩ := ob hf
          refine k_PVi hC LX9_170 ⟨Nat.le_of_ble_eq_true rfl, Nat.le_of_ble_eq_true rfl⟩ ⟨Nat.zero_le _, Nat.zero_le _⟩ (cM_sum l E ad x t3 t4 t5 ht5) rfl rfl hP rfl rfl hl.1 rfl (Nat.le_of_ble_eq_true rfl) rfl dX9_bagOf_83 (fun hz83 => ?_)
          have hf := Option.some.inj hf
          exact e_Pi hC hr hlocks hf dX9_bagOf_86
        · have hf := ite_f hf c33_2
          by_cases c33_3 : a2 = (3 : Int32)
          · have hf := ite_t hf c33_3
            have e9 : (a2).toInt = 3 := by rw [c33_3]; decide
            refine lv_tableIn (tgt := 87) hx hb dX9_bagOf_33 (by omega) (by omega) (by rw [e9]; rfl) (by decide) ?_
            refine lv_aload_n hx hb dX9_bagOf_87 rfl (lv_at hl 2 rfl) ?_
            refine lv_iload_n hx hb dX9_bagOf_88 rfl (lv_at hl 1 rfl) ?_
            refine lv_iload hx hb dX9_bagOf_89 (lv_at hl 0 rfl) ?_
            obtain ⟨t6, ht6, hf⟩ := ob hf
            refine k_PVi hC LX9_173 ⟨Nat.le_of_ble_eq_true rfl, Nat.le_of_ble_eq_true rfl⟩ ⟨Nat.zero_le _, Nat.zero_le _⟩ (cM_median l E ad x t3 t4 t6 ht6) rfl rfl hP rfl rfl hl.1 rfl (Nat.le_of_ble_eq_true rfl) rfl dX9_bagOf_91 (fun hz91 => ?_)
            have hf := Option.some.inj hf
            exact e_Pi hC hr hlocks hf dX9_bagOf_94
          · have hf := ite_f hf c33_3
            by_cases c33_4 : a2 = (4 : Int32)
            · have hf := ite_t hf c33_4
              have e9 : (a2).toInt = 4 := by rw [c33_4]; decide
              refine lv_tableIn (tgt := 95) hx hb dX9_bagOf_33 (by omega) (by omega) (by rw [e9]; rfl) (by decide) ?_
              refine lv_aload_n hx hb dX9_bagOf_95 rfl (lv_at hl 2 rfl) ?_
              refine lv_iload_n hx hb dX9_bagOf_96 rfl (lv_at hl 1 rfl) ?_
              refine lv_iload hx hb dX9_bagOf_97 (lv_at hl 0 rfl) ?_
              refine lv_iload hx hb dX9_bagOf_99 (lv_at hl 0 rfl) ?_
              refine lv_iload_n hx hb dX9_bagOf_101 rfl (lv_at hl 1 rfl) ?_
              refine lv_isub hx hb dX9_bagOf_102 ?_
              refine lv_iconst (v := 1) hx hb dX9_bagOf_103 (by decide) ?_
              refine lv_isub hx hb dX9_bagOf_104 ?_
              obtain ⟨t7, ht7, hf⟩ := ob hf
              refine k_PVi hC LX9_155 ⟨Nat.le_of_ble_eq_true rfl, Nat.le_of_ble_eq_true rfl⟩ ⟨Nat.zero_le _, Nat.zero_le _⟩ (cM_bySize l E ad x t3 t4 ((t4 - t3) - (1 : Int32)) t7 ht7) rfl rfl hP rfl rfl hl.1 rfl (Nat.le_of_ble_eq_true rfl) rfl dX9_bagOf_105 (fun hz105 => ?_)
              have hf := Option.some.inj hf
              exact e_Pi hC hr hlocks hf dX9_bagOf_108
            · have hf := ite_f hf c33_4
              by_cases c33_5 : a2 = (5 : Int32)
              · have hf := ite_t hf c33_5
                have e9 : (a2).toInt = 5 := by rw [c33_5]; decide
                refine lv_tableIn (tgt := 109) hx hb dX9_bagOf_33 (by omega) (by omega) (by rw [e9]; rfl) (by decide) ?_
                refine lv_aload_n hx hb dX9_bagOf_109 rfl (lv_at hl 2 rfl) ?_
                refine lv_iload_n hx hb dX9_bagOf_110 rfl (lv_at hl 1 rfl) ?_
                refine lv_iload hx hb dX9_bagOf_111 (lv_at hl 0 rfl) ?_
                obtain ⟨t8, ht8, hf⟩ := ob hf
                refine k_PVi hC LX9_176 ⟨Nat.le_of_ble_eq_true rfl, Nat.le_of_ble_eq_true rfl⟩ ⟨Nat.zero_le _, Nat.zero_le _⟩ (cM_unlike l E ad x t3 t4 t8 ht8) rfl rfl hP rfl rfl hl.1 rfl (Nat.le_of_ble_eq_true rfl) rfl dX9_bagOf_113 (fun hz113 => ?_)
                have hf := Option.some.inj hf
                exact e_Pi hC hr hlocks hf dX9_bagOf_116
              · have hf := ite_f hf c33_5
                refine lv_tableOut (tgt := 117) hx hb dX9_bagOf_33 (by have n0 := lv_neT c33_0 (a := 0) (by decide); have n1 := lv_neT c33_1 (a := 1) (by decide); have n2 := lv_neT c33_2 (a := 2) (by decide); have n3 := lv_neT c33_3 (a := 3) (by decide); have n4 := lv_neT c33_4 (a := 4) (by decide); have n5 := lv_neT c33_5 (a := 5) (by decide); omega) (by decide) ?_
                refine lv_bipush (v := (-12)) hx hb dX9_bagOf_117 (by decide) ?_
                have hf := Option.some.inj hf
                exact e_Pi hC hr hlocks hf dX9_bagOf_119
  · have hf := ite_t hf c2
    refine lv_bipush (v := (-11)) hx hb dX9_bagOf_14 (by decide) ?_
    have hf := Option.some.inj hf
    exact e_Pi hC hr hlocks hf dX9_bagOf_16
abbrev rmM_bagAt : Room := { frames := 3, cells := 0, slots := 0, locals := 65 }
set_option maxHeartbeats 4000000 in
set_option maxRecDepth 100000 in
theorem cM_bagAt (l : Launch) (E : eE) (ad : Nat → Nat) (x : TM) (a1 : Int32) (r : Int32) (hf : fM_bagAt x.2.2.2.2.1 a1 = some r) : cP l E yX9_bagAt cX9_bagAt 2 (some .int) rmM_bagAt [.ref (ad 0), .int a1] (wM E ad x) (some (.int r)) := by
  refine Met.ofW (cc := cX9_bagAt) (maxL := 2) (ret := (some .int)) (by decide) rfl ?_
  intro p e s m args below meth c s₁ B hml hv
  obtain ⟨hargs, hP, hK⟩ := hv
  have hx := B.exec
  have hb := B.bytes
  have hr := B.returns
  have hts := atoms_spec (ws := ws_ yX9_bagAt cX9_bagAt 2 (some .int)) B.pre
  have hta : ∀ w ∈ lw_all, w.before args s = true := fun w h => hts w (List.mem_cons_of_mem _ h)
  have hown : s.vm.findClass RX9 = some m.cls := findClass_of_methodNamed B.named
  have hlocks := B.notSynchronized
  have hC : Cx p s m args c cX9_bagAt 2 RX9 E := ⟨hx, hb, hml, hown, hta, hK⟩
  obtain ⟨ls, he, hl⟩ := entry_ (m := m) (n := 2) hargs (Nat.le_of_ble_eq_true rfl)
  rw [he]
  have hl : lv_has ls 2 [(0, .ref (ad 0)), (1, .int a1)] := hl
  show W p l e rmM_bagAt s m args below meth c s.heap [] 0 0 (MQ below (qP (some .int) (some (.int r))) args s 0 0 (fun _ => False)) (F0 m 0 ls [])
  rw [fM_bagAt] at hf
  refine lv_aload_n hx hb dX9_bagAt_0 rfl (lv_at hl 0 rfl) ?_
  refine lv_iload_n hx hb dX9_bagAt_1 rfl (lv_at hl 1 rfl) ?_
  obtain ⟨t1, ht1, hf⟩ := ob hf
  refine k_PVi hC LX9_89 ⟨Nat.le_of_ble_eq_true rfl, Nat.le_of_ble_eq_true rfl⟩ ⟨Nat.zero_le _, Nat.zero_le _⟩ (cM_isLetter l E ad x a1 t1 ht1) rfl rfl hP rfl rfl hl.1 rfl (Nat.le_of_ble_eq_true rfl) rfl dX9_bagAt_2 (fun hz2 => ?_)
  refine lv_if_eq (tgt := 18) hx hb dX9_bagAt_5 (by decide) (fun c2 => ?_) (fun c2 => ?_)
  · have hf := ite_t hf c2
    refine lv_bipush (v := (-11)) hx hb dX9_bagAt_18 (by decide) ?_
    have hf := Option.some.inj hf
    exact e_Pi hC hr hlocks hf dX9_bagAt_20
  · have hf := ite_f hf c2
    refine lv_aload_n hx hb dX9_bagAt_8 rfl (lv_at hl 0 rfl) ?_
    refine lv_iload_n hx hb dX9_bagAt_9 rfl (lv_at hl 1 rfl) ?_
    obtain ⟨t3, ht3, hf⟩ := ob hf
    refine k_PVi hC LX9_118 ⟨Nat.le_of_ble_eq_true rfl, Nat.le_of_ble_eq_true rfl⟩ ⟨Nat.zero_le _, Nat.zero_le _⟩ (cM_bagsUpTo l E ad x a1 t3 ht3) rfl rfl hP rfl rfl hl.1 rfl (Nat.le_of_ble_eq_true rfl) rfl dX9_bagAt_10 (fun hz10 => ?_)
    refine lv_iconst (v := 1) hx hb dX9_bagAt_13 (by decide) ?_
    refine lv_isub hx hb dX9_bagAt_14 ?_
    refine lv_goto (tgt := 20) hx hb dX9_bagAt_15 (by decide) ?_
    have hf := Option.some.inj hf
    exact e_Pi hC hr hlocks hf dX9_bagAt_20
abbrev rmM_sumOf : Room := { frames := 4, cells := 0, slots := 0, locals := 87 }
set_option maxHeartbeats 4000000 in
set_option maxRecDepth 100000 in
theorem cM_sumOf (l : Launch) (E : eE) (ad : Nat → Nat) (x : TM) (a1 : Int32) (r : Int32) (hf : fM_sumOf x.2.2.2.2.1 a1 = some r) : cP l E yX9_sumOf cX9_sumOf 2 (some .int) rmM_sumOf [.ref (ad 0), .int a1] (wM E ad x) (some (.int r)) := by
  refine Met.ofW (cc := cX9_sumOf) (maxL := 2) (ret := (some .int)) (by decide) rfl ?_
  intro p e s m args below meth c s₁ B hml hv
  obtain ⟨hargs, hP, hK⟩ := hv
  have hx := B.exec
  have hb := B.bytes
  have hr := B.returns
  have hts := atoms_spec (ws := ws_ yX9_sumOf cX9_sumOf 2 (some .int)) B.pre
  have hta : ∀ w ∈ lw_all, w.before args s = true := fun w h => hts w (List.mem_cons_of_mem _ h)
  have hown : s.vm.findClass RX9 = some m.cls := findClass_of_methodNamed B.named
  have hlocks := B.notSynchronized
  have hC : Cx p s m args c cX9_sumOf 2 RX9 E := ⟨hx, hb, hml, hown, hta, hK⟩
  obtain ⟨ls, he, hl⟩ := entry_ (m := m) (n := 2) hargs (Nat.le_of_ble_eq_true rfl)
  rw [he]
  have hl : lv_has ls 2 [(0, .ref (ad 0)), (1, .int a1)] := hl
  show W p l e rmM_sumOf s m args below meth c s.heap [] 0 0 (MQ below (qP (some .int) (some (.int r))) args s 0 0 (fun _ => False)) (F0 m 0 ls [])
  rw [fM_sumOf] at hf
  refine lv_aload_n hx hb dX9_sumOf_0 rfl (lv_at hl 0 rfl) ?_
  refine lv_aload_n hx hb dX9_sumOf_1 rfl (lv_at hl 0 rfl) ?_
  refine lv_iload_n hx hb dX9_sumOf_2 rfl (lv_at hl 1 rfl) ?_
  obtain ⟨t1, ht1, hf⟩ := ob hf
  refine k_PVi hC LX9_167 ⟨Nat.le_of_ble_eq_true rfl, Nat.le_of_ble_eq_true rfl⟩ ⟨Nat.zero_le _, Nat.zero_le _⟩ (cM_beginOf l E ad x a1 t1 ht1) rfl rfl hP rfl rfl hl.1 rfl (Nat.le_of_ble_eq_true rfl) rfl dX9_sumOf_3 (fun hz3 => ?_)
  refine lv_aload_n hx hb dX9_sumOf_6 rfl (lv_at hl 0 rfl) ?_
  refine lv_iload_n hx hb dX9_sumOf_7 rfl (lv_at hl 1 rfl) ?_
  refine lv_iconst (v := 1) hx hb dX9_sumOf_8 (by decide) ?_
  refine lv_iadd hx hb dX9_sumOf_9 ?_
  obtain ⟨t2, ht2, hf⟩ := ob hf
  refine k_PVi hC LX9_167 ⟨Nat.le_of_ble_eq_true rfl, Nat.le_of_ble_eq_true rfl⟩ ⟨Nat.zero_le _, Nat.zero_le _⟩ (cM_beginOf l E ad x (a1 + (1 : Int32)) t2 ht2) rfl rfl hP rfl rfl hl.1 rfl (Nat.le_of_ble_eq_true rfl) rfl dX9_sumOf_10 (fun hz10 => ?_)
  obtain ⟨t3, ht3, hf⟩ := ob hf
  refine k_PVi hC LX9_170 ⟨Nat.le_of_ble_eq_true rfl, Nat.le_of_ble_eq_true rfl⟩ ⟨Nat.zero_le _, Nat.zero_le _⟩ (cM_sum l E ad x t1 t2 t3 ht3) rfl rfl hP rfl rfl hl.1 rfl (Nat.le_of_ble_eq_true rfl) rfl dX9_sumOf_13 (fun hz13 => ?_)
  have hf := Option.some.inj hf
  exact e_Pi hC hr hlocks hf dX9_sumOf_16
abbrev rmM_sizeOf : Room := { frames := 4, cells := 0, slots := 0, locals := 87 }
set_option maxHeartbeats 4000000 in
set_option maxRecDepth 100000 in
theorem cM_sizeOf (l : Launch) (E : eE) (ad : Nat → Nat) (x : TM) (a1 : Int32) (r : Int32) (hf : fM_sizeOf x.2.2.2.2.1 a1 = some r) : cP l E yX9_sizeOf cX9_sizeOf 2 (some .int) rmM_sizeOf [.ref (ad 0), .int a1] (wM E ad x) (some (.int r)) := by
  refine Met.ofW (cc := cX9_sizeOf) (maxL := 2) (ret := (some .int)) (by decide) rfl ?_
  intro p e s m args below meth c s₁ B hml hv
  obtain ⟨hargs, hP, hK⟩ := hv
  have hx := B.exec
  have hb := B.bytes
  have hr := B.returns
  have hts := atoms_spec (ws := ws_ yX9_sizeOf cX9_sizeOf 2 (some .int)) B.pre
  have hta : ∀ w ∈ lw_all, w.before args s = true := fun w h => hts w (List.mem_cons_of_mem _ h)
  have hown : s.vm.findClass RX9 = some m.cls := findClass_of_methodNamed B.named
  have hlocks := B.notSynchronized
  have hC : Cx p s m args c cX9_sizeOf 2 RX9 E := ⟨hx, hb, hml, hown, hta, hK⟩
  obtain ⟨ls, he, hl⟩ := entry_ (m := m) (n := 2) hargs (Nat.le_of_ble_eq_true rfl)
  rw [he]
  have hl : lv_has ls 2 [(0, .ref (ad 0)), (1, .int a1)] := hl
  show W p l e rmM_sizeOf s m args below meth c s.heap [] 0 0 (MQ below (qP (some .int) (some (.int r))) args s 0 0 (fun _ => False)) (F0 m 0 ls [])
  rw [fM_sizeOf] at hf
  refine lv_aload_n hx hb dX9_sizeOf_0 rfl (lv_at hl 0 rfl) ?_
  refine lv_iload_n hx hb dX9_sizeOf_1 rfl (lv_at hl 1 rfl) ?_
  refine lv_iconst (v := 1) hx hb dX9_sizeOf_2 (by decide) ?_
  refine lv_iadd hx hb dX9_sizeOf_3 ?_
  obtain ⟨t1, ht1, hf⟩ := ob hf
  refine k_PVi hC LX9_167 ⟨Nat.le_of_ble_eq_true rfl, Nat.le_of_ble_eq_true rfl⟩ ⟨Nat.zero_le _, Nat.zero_le _⟩ (cM_beginOf l E ad x (a1 + (1 : Int32)) t1 ht1) rfl rfl hP rfl rfl hl.1 rfl (Nat.le_of_ble_eq_true rfl) rfl dX9_sizeOf_4 (fun hz4 => ?_)
  refine lv_aload_n hx hb dX9_sizeOf_7 rfl (lv_at hl 0 rfl) ?_
  refine lv_iload_n hx hb dX9_sizeOf_8 rfl (lv_at hl 1 rfl) ?_
  obtain ⟨t2, ht2, hf⟩ := ob hf
  refine k_PVi hC LX9_167 ⟨Nat.le_of_ble_eq_true rfl, Nat.le_of_ble_eq_true rfl⟩ ⟨Nat.zero_le _, Nat.zero_le _⟩ (cM_beginOf l E ad x a1 t2 ht2) rfl rfl hP rfl rfl hl.1 rfl (Nat.le_of_ble_eq_true rfl) rfl dX9_sizeOf_9 (fun hz9 => ?_)
  refine lv_isub hx hb dX9_sizeOf_12 ?_
  have hf := Option.some.inj hf
  exact e_Pi hC hr hlocks hf dX9_sizeOf_13
