abbrev rmM_isNot : Room := { frames := 0, cells := 0, slots := 0, locals := 0 }
set_option maxHeartbeats 4000000 in
set_option maxRecDepth 100000 in
theorem cM_isNot (l : Launch) (E : eE) (ad : Nat → Nat) (x : TM) (a1 : Int32) (a2 : Int32) (t : Int32 × Int32 × Int32) (hf : fM_isNot x.2.2.1 x.2.2.2.1 a1 a2 = some t) : cW l E yX9_isNot cX9_isNot 3 (some .int) rmM_isNot [.ref (ad 0), .int a1, .int a2] (wM E ad x) (some (.int t.1)) (wM E ad (x.1, x.2.1, t.2.1, t.2.2, x.2.2.2.2)) := by
  refine Met.ofW (cc := cX9_isNot) (maxL := 3) (ret := (some .int)) (by decide) rfl ?_
  intro p e s m args below meth c s₁ B hml hv
  obtain ⟨hargs, hP, hK, hD0⟩ := hv
  have hx := B.exec
  have hb := B.bytes
  have hr := B.returns
  have hts := atoms_spec (ws := ws_ yX9_isNot cX9_isNot 3 (some .int)) B.pre
  have hta : ∀ w ∈ lw_all, w.before args s = true := fun w h => hts w (List.mem_cons_of_mem _ h)
  have hown : s.vm.findClass RX9 = some m.cls := findClass_of_methodNamed B.named
  have hlocks := B.notSynchronized
  have hC : Cx p s m args c cX9_isNot 3 RX9 E := ⟨hx, hb, hml, hown, hta, hK⟩
  have hH : Hp E (adr (wM E ad x)) (wM E ad x) s.heap s.heap [] := Hp.start hP hD0
  obtain ⟨ls, he, hl⟩ := entry_ (m := m) (n := 3) hargs (Nat.le_of_ble_eq_true rfl)
  rw [he]
  have hl : lv_has ls 3 [(0, .ref (ad 0)), (1, .int a1), (2, .int a2)] := hl
  show W p l e rmM_isNot s m args below meth c s.heap [] 0 0 (MQ below (qW E (some .int) (some (.int t.1)) (wM E ad x) (wM E ad (x.1, x.2.1, t.2.1, t.2.2, x.2.2.2.2))) args s 0 0 (adr (wM E ad x))) (F0 m 0 ls [])
  suffices hmain : ∀ (H : Heap) (locs : List Loc), Hp E (adr (wM E ad x)) (wM E ad x) s.heap H locs → W p l e rmM_isNot s m args below meth c H locs 0 0 (MQ below (qW E (some .int) (some (.int t.1)) (wM E ad x) (wM E ad (x.1, x.2.1, t.2.1, t.2.2, x.2.2.2.2))) args s 0 0 (adr (wM E ad x))) (F0 m 0 ls []) from hmain _ _ hH
  clear hH
  intro H locs hH
  rw [fM_isNot] at hf
  refine lv_aload_n hx hb dX9_isNot_0 rfl (lv_at hl 0 rfl) ?_
  refine lv_iload_n hx hb dX9_isNot_1 rfl (lv_at hl 1 rfl) ?_
  refine pX9_35 hC hH 0 rfl (v := .int a1) rfl rfl (Nat.le_of_ble_eq_true rfl) (W1 := wM E ad (x.1, x.2.1, a1, x.2.2.2)) rfl dX9_isNot_2 (fun H locs hH => ?_)
  refine lv_aload_n hx hb dX9_isNot_5 rfl (lv_at hl 0 rfl) ?_
  refine lv_iload_n hx hb dX9_isNot_6 rfl (lv_at hl 2 rfl) ?_
  refine pX9_39 hC hH 0 rfl (v := .int a2) rfl rfl (Nat.le_of_ble_eq_true rfl) (W1 := wM E ad (x.1, x.2.1, a1, a2, x.2.2.2.2)) rfl dX9_isNot_7 (fun H locs hH => ?_)
  refine lv_bipush (v := (-14)) hx hb dX9_isNot_10 (by decide) ?_
  cases hf
  exact e_Wi hC hH hr hlocks rfl rfl dX9_isNot_12
abbrev rmM_refuses : Room := { frames := 0, cells := 0, slots := 0, locals := 0 }
set_option maxHeartbeats 4000000 in
set_option maxRecDepth 100000 in
theorem cM_refuses (l : Launch) (E : eE) (ad : Nat → Nat) (x : TM) (a1 : Int32) (t : Int32 × Int32 × Int32) (hf : fM_refuses x.1 x.2.1 x.2.2.1 x.2.2.2.1 a1 = some t) : cW l E yX9_refuses cX9_refuses 2 (some .int) rmM_refuses [.ref (ad 0), .int a1] (wM E ad x) (some (.int t.1)) (wM E ad (t.2.1, t.2.2, x.2.2)) := by
  refine Met.ofW (cc := cX9_refuses) (maxL := 2) (ret := (some .int)) (by decide) rfl ?_
  intro p e s m args below meth c s₁ B hml hv
  obtain ⟨hargs, hP, hK, hD0⟩ := hv
  have hx := B.exec
  have hb := B.bytes
  have hr := B.returns
  have hts := atoms_spec (ws := ws_ yX9_refuses cX9_refuses 2 (some .int)) B.pre
  have hta : ∀ w ∈ lw_all, w.before args s = true := fun w h => hts w (List.mem_cons_of_mem _ h)
  have hown : s.vm.findClass RX9 = some m.cls := findClass_of_methodNamed B.named
  have hlocks := B.notSynchronized
  have hC : Cx p s m args c cX9_refuses 2 RX9 E := ⟨hx, hb, hml, hown, hta, hK⟩
  have hH : Hp E (adr (wM E ad x)) (wM E ad x) s.heap s.heap [] := Hp.start hP hD0
  obtain ⟨ls, he, hl⟩ := entry_ (m := m) (n := 2) hargs (Nat.le_of_ble_eq_true rfl)
  rw [he]
  have hl : lv_has ls 2 [(0, .ref (ad 0)), (1, .int a1)] := hl
  show W p l e rmM_refuses s m args below meth c s.heap [] 0 0 (MQ below (qW E (some .int) (some (.int t.1)) (wM E ad x) (wM E ad (t.2.1, t.2.2, x.2.2))) args s 0 0 (adr (wM E ad x))) (F0 m 0 ls [])
  suffices hmain : ∀ (H : Heap) (locs : List Loc), Hp E (adr (wM E ad x)) (wM E ad x) s.heap H locs → W p l e rmM_refuses s m args below meth c H locs 0 0 (MQ below (qW E (some .int) (some (.int t.1)) (wM E ad x) (wM E ad (t.2.1, t.2.2, x.2.2))) args s 0 0 (adr (wM E ad x))) (F0 m 0 ls []) from hmain _ _ hH
  clear hH
  intro H locs hH
  rw [fM_refuses] at hf
  refine lv_iload_n hx hb dX9_refuses_0 rfl (lv_at hl 1 rfl) ?_
  refine lv_bipush (v := (-14)) hx hb dX9_refuses_1 (by decide) ?_
  refine lv_icmp_eq (tgt := 8) hx hb dX9_refuses_3 (by decide) (fun c1 => ?_) (fun c1 => ?_)
  · have hf := ite_t hf c1
    refine lv_aload_n hx hb dX9_refuses_8 rfl (lv_at hl 0 rfl) ?_
    refine lv_aload_n hx hb dX9_refuses_9 rfl (lv_at hl 0 rfl) ?_
    refine gX9_35 hC hH.1 0 rfl (v := .int x.2.2.1) rfl dX9_refuses_10 ?_
    refine pX9_42 hC hH 0 rfl (v := .int x.2.2.1) rfl rfl (Nat.le_of_ble_eq_true rfl) (W1 := wM E ad (x.2.2.1, x.2)) rfl dX9_refuses_13 (fun H locs hH => ?_)
    refine lv_aload_n hx hb dX9_refuses_16 rfl (lv_at hl 0 rfl) ?_
    refine lv_aload_n hx hb dX9_refuses_17 rfl (lv_at hl 0 rfl) ?_
    refine gX9_39 hC hH.1 0 rfl (v := .int x.2.2.2.1) rfl dX9_refuses_18 ?_
    refine pX9_45 hC hH 0 rfl (v := .int x.2.2.2.1) rfl rfl (Nat.le_of_ble_eq_true rfl) (W1 := wM E ad (x.2.2.1, x.2.2.2.1, x.2.2)) rfl dX9_refuses_21 (fun H locs hH => ?_)
    refine lv_iload_n hx hb dX9_refuses_24 rfl (lv_at hl 1 rfl) ?_
    cases hf
    exact e_Wi hC hH hr hlocks rfl rfl dX9_refuses_25
  · have hf := ite_f hf c1
    refine lv_iload_n hx hb dX9_refuses_6 rfl (lv_at hl 1 rfl) ?_
    cases hf
    exact e_Wi hC hH hr hlocks rfl rfl dX9_refuses_7
abbrev rmM_reason : Room := { frames := 0, cells := 0, slots := 0, locals := 0 }
set_option maxHeartbeats 4000000 in
set_option maxRecDepth 100000 in
theorem cM_reason (l : Launch) (E : eE) (ad : Nat → Nat) (x : TM) (a1 : Int32) (r : Int32) (hf : fM_reason x.1 x.2.1 a1 = r) : cP l E yX9_reason cX9_reason 2 (some .int) rmM_reason [.ref (ad 0), .int a1] (wM E ad x) (some (.int r)) := by
  refine Met.ofW (cc := cX9_reason) (maxL := 2) (ret := (some .int)) (by decide) rfl ?_
  intro p e s m args below meth c s₁ B hml hv
  obtain ⟨hargs, hP, hK⟩ := hv
  have hx := B.exec
  have hb := B.bytes
  have hr := B.returns
  have hts := atoms_spec (ws := ws_ yX9_reason cX9_reason 2 (some .int)) B.pre
  have hta : ∀ w ∈ lw_all, w.before args s = true := fun w h => hts w (List.mem_cons_of_mem _ h)
  have hown : s.vm.findClass RX9 = some m.cls := findClass_of_methodNamed B.named
  have hlocks := B.notSynchronized
  have hC : Cx p s m args c cX9_reason 2 RX9 E := ⟨hx, hb, hml, hown, hta, hK⟩
  obtain ⟨ls, he, hl⟩ := entry_ (m := m) (n := 2) hargs (Nat.le_of_ble_eq_true rfl)
  rw [he]
  have hl : lv_has ls 2 [(0, .ref (ad 0)), (1, .int a1)] := hl
  show W p l e rmM_reason s m args below meth c s.heap [] 0 0 (MQ below (qP (some .int) (some (.int r))) args s 0 0 (fun _ => False)) (F0 m 0 ls [])
  rw [fM_reason] at hf
  refine lv_aload_n hx hb dX9_reason_0 rfl (lv_at hl 0 rfl) ?_
  refine gX9_42 hC hP 0 rfl (v := .int x.1) rfl dX9_reason_1 ?_
  refine lv_if_ne (tgt := 10) hx hb dX9_reason_4 (by decide) (fun c1 => ?_) (fun c1 => ?_)
  · have hf := ite_f hf c1
    refine lv_iload_n hx hb dX9_reason_10 rfl (lv_at hl 1 rfl) ?_
    refine lv_if_eq (tgt := 21) hx hb dX9_reason_11 (by decide) (fun c2 => ?_) (fun c2 => ?_)
    · have hf := ite_t hf c2
      refine lv_aload_n hx hb dX9_reason_21 rfl (lv_at hl 0 rfl) ?_
      refine gX9_42 hC hP 0 rfl (v := .int x.1) rfl dX9_reason_22 ?_
      exact e_Pi hC hr hlocks hf dX9_reason_25
    · have hf := ite_f hf c2
      refine lv_aload_n hx hb dX9_reason_14 rfl (lv_at hl 0 rfl) ?_
      refine gX9_45 hC hP 0 rfl (v := .int x.2.1) rfl dX9_reason_15 ?_
      refine lv_goto (tgt := 25) hx hb dX9_reason_18 (by decide) ?_
      exact e_Pi hC hr hlocks hf dX9_reason_25
  · have hf := ite_t hf c1
    refine lv_bipush (v := (-15)) hx hb dX9_reason_7 (by decide) ?_
    exact e_Pi hC hr hlocks hf dX9_reason_9
abbrev rmM_thinks : Room := { frames := 0, cells := 0, slots := 0, locals := 0 }
set_option maxHeartbeats 4000000 in
set_option maxRecDepth 100000 in
theorem cM_thinks (l : Launch) (E : eE) (ad : Nat → Nat) (x : TM) (t : (Nat → Int32)) (hf : fM_thinks x.2.2.2.2.1 x.2.2.2.2.2.2.2.1 = some t) : cW l E yX9_thinks cX9_thinks 2 none rmM_thinks [.ref (ad 0)] (wM E ad x) none (wM E ad (x.1, x.2.1, x.2.2.1, x.2.2.2.1, x.2.2.2.2.1, x.2.2.2.2.2.1, x.2.2.2.2.2.2.1, t, x.2.2.2.2.2.2.2.2)) := by
  refine Met.ofW (cc := cX9_thinks) (maxL := 2) (ret := none) (by decide) rfl ?_
  intro p e s m args below meth c s₁ B hml hv
  obtain ⟨hargs, hP, hK, hD0⟩ := hv
  have hx := B.exec
  have hb := B.bytes
  have hr := B.returns
  have hts := atoms_spec (ws := ws_ yX9_thinks cX9_thinks 2 none) B.pre
  have hta : ∀ w ∈ lw_all, w.before args s = true := fun w h => hts w (List.mem_cons_of_mem _ h)
  have hown : s.vm.findClass RX9 = some m.cls := findClass_of_methodNamed B.named
  have hlocks := B.notSynchronized
  have hC : Cx p s m args c cX9_thinks 2 RX9 E := ⟨hx, hb, hml, hown, hta, hK⟩
  have hH : Hp E (adr (wM E ad x)) (wM E ad x) s.heap s.heap [] := Hp.start hP hD0
  obtain ⟨ls, he, hl⟩ := entry_ (m := m) (n := 2) hargs (Nat.le_of_ble_eq_true rfl)
  rw [he]
  have hl : lv_has ls 2 [(0, .ref (ad 0))] := hl
  show W p l e rmM_thinks s m args below meth c s.heap [] 0 0 (MQ below (qW E none none (wM E ad x) (wM E ad (x.1, x.2.1, x.2.2.1, x.2.2.2.1, x.2.2.2.2.1, x.2.2.2.2.2.1, x.2.2.2.2.2.2.1, t, x.2.2.2.2.2.2.2.2))) args s 0 0 (adr (wM E ad x))) (F0 m 0 ls [])
  suffices hmain : ∀ (H : Heap) (locs : List Loc), Hp E (adr (wM E ad x)) (wM E ad x) s.heap H locs → W p l e rmM_thinks s m args below meth c H locs 0 0 (MQ below (qW E none none (wM E ad x) (wM E ad (x.1, x.2.1, x.2.2.1, x.2.2.2.1, x.2.2.2.2.1, x.2.2.2.2.2.1, x.2.2.2.2.2.2.1, t, x.2.2.2.2.2.2.2.2))) args s 0 0 (adr (wM E ad x))) (F0 m 0 ls []) from hmain _ _ hH
  clear hH
  have L2 : ∀ (n : Nat) (y0_7 : (Nat → Int32)) (a1 : Int32) (ls : Array Slot), lv_has ls 2 [(0, .ref (ad 0)), (1, .int a1)] → ∀ (H : Heap) (locs : List Loc), Hp E (adr (wM E ad x)) (wM E ad (x.1, x.2.1, x.2.2.1, x.2.2.2.1, x.2.2.2.2.1, x.2.2.2.2.2.1, x.2.2.2.2.2.2.1, y0_7, x.2.2.2.2.2.2.2.2)) s.heap H locs → fM_thinks_2 n x.2.2.2.2.1 y0_7 a1 = some t → W p l e rmM_thinks s m args below meth c H locs 0 0 (MQ below (qW E none none (wM E ad x) (wM E ad (x.1, x.2.1, x.2.2.1, x.2.2.2.1, x.2.2.2.2.1, x.2.2.2.2.2.1, x.2.2.2.2.2.2.1, t, x.2.2.2.2.2.2.2.2))) args s 0 0 (adr (wM E ad x))) (F0 m 2 ls []) := by
    intro n
    induction n with
    | zero => intro y0_7 a1 ls hl H locs hH hf; cases hf
    | succ n ih =>
      intro y0_7 a1 ls hl H locs hH hf
      rw [fM_thinks_2] at hf
      refine lv_iload_n hx hb dX9_thinks_2 rfl (lv_at hl 1 rfl) ?_
      refine lv_sipush (v := 132) hx hb dX9_thinks_3 (by decide) ?_
      refine lv_icmp_ge (tgt := 27) hx hb dX9_thinks_6 (by decide) (fun c1 => ?_) (fun c1 => ?_)
      · have hf := ite_t hf c1
        cases hf
        exact e_Wv hC hH hr hlocks rfl dX9_thinks_27
      · have hf := ite_f hf c1
        refine lv_aload_n hx hb dX9_thinks_9 rfl (lv_at hl 0 rfl) ?_
        refine gX9_19 hC hH.1 0 rfl (v := .ref (ad 4)) rfl dX9_thinks_10 ?_
        refine lv_iload_n hx hb dX9_thinks_13 rfl (lv_at hl 1 rfl) ?_
        refine lv_aload_n hx hb dX9_thinks_14 rfl (lv_at hl 0 rfl) ?_
        refine gX9_7 hC hH.1 0 rfl (v := .ref (ad 1)) rfl dX9_thinks_15 ?_
        refine lv_iload_n hx hb dX9_thinks_18 rfl (lv_at hl 1 rfl) ?_
        obtain ⟨v2, hv2, hf⟩ := ob hf
        obtain ⟨hv2a, hv2b⟩ := ldA_ok hv2
        refine a_ild hC hH.1 1 rfl hv2a hv2b dX9_thinks_19 ?_
        obtain ⟨g3, hg3, hf⟩ := ob hf
        obtain ⟨hg3a, hg3b⟩ := stA_ok hg3
        refine a_ist hC hH 4 rfl hg3a hg3b (W1 := wM E ad (x.1, x.2.1, x.2.2.1, x.2.2.2.1, x.2.2.2.2.1, x.2.2.2.2.2.1, x.2.2.2.2.2.2.1, g3, x.2.2.2.2.2.2.2.2)) rfl dX9_thinks_20 (fun H locs hH => ?_)
        refine lv_iinc (v := (a1 + (1 : Int32))) (lv' := [(1, .int (a1 + (1 : Int32))), (0, .ref (ad 0))]) hx hb dX9_thinks_21 hl (k := 1) rfl rfl (by decide) rfl (fun ls hl => ?_)
        refine lv_goto (tgt := 2) hx hb dX9_thinks_24 (by decide) ?_
        exact ih g3 (a1 + (1 : Int32)) ls (lv_sub hl [1, 0] rfl) _ _ hH hf
  intro H locs hH
  rw [fM_thinks] at hf
  refine lv_iconst (v := 0) hx hb dX9_thinks_0 (by decide) ?_
  refine lv_istore_n (lv' := [(1, .int (0 : Int32)), (0, .ref (ad 0))]) hx hb dX9_thinks_1 rfl hl (by decide) rfl (fun ls hl => ?_)
  exact L2 FU x.2.2.2.2.2.2.2.1 (0 : Int32) ls (lv_sub hl [1, 0] rfl) _ _ hH hf
abbrev rmM_forgets : Room := { frames := 0, cells := 0, slots := 0, locals := 0 }
set_option maxHeartbeats 4000000 in
set_option maxRecDepth 100000 in
theorem cM_forgets (l : Launch) (E : eE) (ad : Nat → Nat) (x : TM) (t : (Nat → Int32)) (hf : fM_forgets x.2.2.2.2.1 x.2.2.2.2.2.2.2.1 = some t) : cW l E yX9_forgets cX9_forgets 2 none rmM_forgets [.ref (ad 0)] (wM E ad x) none (wM E ad (x.1, x.2.1, x.2.2.1, x.2.2.2.1, t, x.2.2.2.2.2)) := by
  refine Met.ofW (cc := cX9_forgets) (maxL := 2) (ret := none) (by decide) rfl ?_
  intro p e s m args below meth c s₁ B hml hv
  obtain ⟨hargs, hP, hK, hD0⟩ := hv
  have hx := B.exec
  have hb := B.bytes
  have hr := B.returns
  have hts := atoms_spec (ws := ws_ yX9_forgets cX9_forgets 2 none) B.pre
  have hta : ∀ w ∈ lw_all, w.before args s = true := fun w h => hts w (List.mem_cons_of_mem _ h)
  have hown : s.vm.findClass RX9 = some m.cls := findClass_of_methodNamed B.named
  have hlocks := B.notSynchronized
  have hC : Cx p s m args c cX9_forgets 2 RX9 E := ⟨hx, hb, hml, hown, hta, hK⟩
  have hH : Hp E (adr (wM E ad x)) (wM E ad x) s.heap s.heap [] := Hp.start hP hD0
  obtain ⟨ls, he, hl⟩ := entry_ (m := m) (n := 2) hargs (Nat.le_of_ble_eq_true rfl)
  rw [he]
  have hl : lv_has ls 2 [(0, .ref (ad 0))] := hl
  show W p l e rmM_forgets s m args below meth c s.heap [] 0 0 (MQ below (qW E none none (wM E ad x) (wM E ad (x.1, x.2.1, x.2.2.1, x.2.2.2.1, t, x.2.2.2.2.2))) args s 0 0 (adr (wM E ad x))) (F0 m 0 ls [])
  suffices hmain : ∀ (H : Heap) (locs : List Loc), Hp E (adr (wM E ad x)) (wM E ad x) s.heap H locs → W p l e rmM_forgets s m args below meth c H locs 0 0 (MQ below (qW E none none (wM E ad x) (wM E ad (x.1, x.2.1, x.2.2.1, x.2.2.2.1, t, x.2.2.2.2.2))) args s 0 0 (adr (wM E ad x))) (F0 m 0 ls []) from hmain _ _ hH
  clear hH
  have L2 : ∀ (n : Nat) (y0_4 : (Nat → Int32)) (a1 : Int32) (ls : Array Slot), lv_has ls 2 [(0, .ref (ad 0)), (1, .int a1)] → ∀ (H : Heap) (locs : List Loc), Hp E (adr (wM E ad x)) (wM E ad (x.1, x.2.1, x.2.2.1, x.2.2.2.1, y0_4, x.2.2.2.2.2)) s.heap H locs → fM_forgets_2 n y0_4 x.2.2.2.2.2.2.2.1 a1 = some t → W p l e rmM_forgets s m args below meth c H locs 0 0 (MQ below (qW E none none (wM E ad x) (wM E ad (x.1, x.2.1, x.2.2.1, x.2.2.2.1, t, x.2.2.2.2.2))) args s 0 0 (adr (wM E ad x))) (F0 m 2 ls []) := by
    intro n
    induction n with
    | zero => intro y0_4 a1 ls hl H locs hH hf; cases hf
    | succ n ih =>
      intro y0_4 a1 ls hl H locs hH hf
      rw [fM_forgets_2] at hf
      refine lv_iload_n hx hb dX9_forgets_2 rfl (lv_at hl 1 rfl) ?_
      refine lv_sipush (v := 132) hx hb dX9_forgets_3 (by decide) ?_
      refine lv_icmp_ge (tgt := 27) hx hb dX9_forgets_6 (by decide) (fun c1 => ?_) (fun c1 => ?_)
      · have hf := ite_t hf c1
        cases hf
        exact e_Wv hC hH hr hlocks rfl dX9_forgets_27
      · have hf := ite_f hf c1
        refine lv_aload_n hx hb dX9_forgets_9 rfl (lv_at hl 0 rfl) ?_
        refine gX9_7 hC hH.1 0 rfl (v := .ref (ad 1)) rfl dX9_forgets_10 ?_
        refine lv_iload_n hx hb dX9_forgets_13 rfl (lv_at hl 1 rfl) ?_
        refine lv_aload_n hx hb dX9_forgets_14 rfl (lv_at hl 0 rfl) ?_
        refine gX9_19 hC hH.1 0 rfl (v := .ref (ad 4)) rfl dX9_forgets_15 ?_
        refine lv_iload_n hx hb dX9_forgets_18 rfl (lv_at hl 1 rfl) ?_
        obtain ⟨v2, hv2, hf⟩ := ob hf
        obtain ⟨hv2a, hv2b⟩ := ldA_ok hv2
        refine a_ild hC hH.1 4 rfl hv2a hv2b dX9_forgets_19 ?_
        obtain ⟨g3, hg3, hf⟩ := ob hf
        obtain ⟨hg3a, hg3b⟩ := stA_ok hg3
        refine a_ist hC hH 1 rfl hg3a hg3b (W1 := wM E ad (x.1, x.2.1, x.2.2.1, x.2.2.2.1, g3, x.2.2.2.2.2)) rfl dX9_forgets_20 (fun H locs hH => ?_)
        refine lv_iinc (v := (a1 + (1 : Int32))) (lv' := [(1, .int (a1 + (1 : Int32))), (0, .ref (ad 0))]) hx hb dX9_forgets_21 hl (k := 1) rfl rfl (by decide) rfl (fun ls hl => ?_)
        refine lv_goto (tgt := 2) hx hb dX9_forgets_24 (by decide) ?_
        exact ih g3 (a1 + (1 : Int32)) ls (lv_sub hl [1, 0] rfl) _ _ hH hf
  intro H locs hH
  rw [fM_forgets] at hf
  refine lv_iconst (v := 0) hx hb dX9_forgets_0 (by decide) ?_
  refine lv_istore_n (lv' := [(1, .int (0 : Int32)), (0, .ref (ad 0))]) hx hb dX9_forgets_1 rfl hl (by decide) rfl (fun ls hl => ?_)
  exact L2 FU x.2.2.2.2.1 (0 : Int32) ls (lv_sub hl [1, 0] rfl) _ _ hH hf
abbrev rmM_keepsMind : Room := { frames := 0, cells := 0, slots := 0, locals := 0 }
set_option maxHeartbeats 4000000 in
set_option maxRecDepth 100000 in
theorem cM_keepsMind (l : Launch) (E : eE) (ad : Nat → Nat) (x : TM) (t : (Nat → Int32) × Int32 × Int32) (hf : fM_keepsMind x.2.2.2.2.2.1 x.2.2.2.2.2.2.2.1 x.2.2.2.2.2.2.2.2.1 x.2.2.2.2.2.2.2.2.2.1 = some t) : cW l E yX9_keepsMind cX9_keepsMind 3 none rmM_keepsMind [.ref (ad 0)] (wM E ad x) none (wM E ad (x.1, x.2.1, x.2.2.1, x.2.2.2.1, x.2.2.2.2.1, t.1, x.2.2.2.2.2.2.1, x.2.2.2.2.2.2.2.1, t.2.1, t.2.2, x.2.2.2.2.2.2.2.2.2.2)) := by
  refine Met.ofW (cc := cX9_keepsMind) (maxL := 3) (ret := none) (by decide) rfl ?_
  intro p e s m args below meth c s₁ B hml hv
  obtain ⟨hargs, hP, hK, hD0⟩ := hv
  have hx := B.exec
  have hb := B.bytes
  have hr := B.returns
  have hts := atoms_spec (ws := ws_ yX9_keepsMind cX9_keepsMind 3 none) B.pre
  have hta : ∀ w ∈ lw_all, w.before args s = true := fun w h => hts w (List.mem_cons_of_mem _ h)
  have hown : s.vm.findClass RX9 = some m.cls := findClass_of_methodNamed B.named
  have hlocks := B.notSynchronized
  have hC : Cx p s m args c cX9_keepsMind 3 RX9 E := ⟨hx, hb, hml, hown, hta, hK⟩
  have hH : Hp E (adr (wM E ad x)) (wM E ad x) s.heap s.heap [] := Hp.start hP hD0
  obtain ⟨ls, he, hl⟩ := entry_ (m := m) (n := 3) hargs (Nat.le_of_ble_eq_true rfl)
  rw [he]
  have hl : lv_has ls 3 [(0, .ref (ad 0))] := hl
  show W p l e rmM_keepsMind s m args below meth c s.heap [] 0 0 (MQ below (qW E none none (wM E ad x) (wM E ad (x.1, x.2.1, x.2.2.1, x.2.2.2.1, x.2.2.2.2.1, t.1, x.2.2.2.2.2.2.1, x.2.2.2.2.2.2.2.1, t.2.1, t.2.2, x.2.2.2.2.2.2.2.2.2.2))) args s 0 0 (adr (wM E ad x))) (F0 m 0 ls [])
  suffices hmain : ∀ (H : Heap) (locs : List Loc), Hp E (adr (wM E ad x)) (wM E ad x) s.heap H locs → W p l e rmM_keepsMind s m args below meth c H locs 0 0 (MQ below (qW E none none (wM E ad x) (wM E ad (x.1, x.2.1, x.2.2.1, x.2.2.2.1, x.2.2.2.2.1, t.1, x.2.2.2.2.2.2.1, x.2.2.2.2.2.2.2.1, t.2.1, t.2.2, x.2.2.2.2.2.2.2.2.2.2))) args s 0 0 (adr (wM E ad x))) (F0 m 0 ls []) from hmain _ _ hH
  clear hH
  have L47 : ∀ (n : Nat) (y0_5 : (Nat → Int32)) (y0_8 : Int32) (y0_9 : Int32) (a1 : Int32) (a2 : Int32) (ls : Array Slot), lv_has ls 3 [(0, .ref (ad 0)), (1, .int a1), (2, .int a2)] → ∀ (H : Heap) (locs : List Loc), Hp E (adr (wM E ad x)) (wM E ad (x.1, x.2.1, x.2.2.1, x.2.2.2.1, x.2.2.2.2.1, y0_5, x.2.2.2.2.2.2.1, x.2.2.2.2.2.2.2.1, y0_8, y0_9, x.2.2.2.2.2.2.2.2.2.2)) s.heap H locs → fM_keepsMind_47 n y0_5 x.2.2.2.2.2.2.2.1 y0_8 y0_9 a1 a2 = some t → W p l e rmM_keepsMind s m args below meth c H locs 0 0 (MQ below (qW E none none (wM E ad x) (wM E ad (x.1, x.2.1, x.2.2.1, x.2.2.2.1, x.2.2.2.2.1, t.1, x.2.2.2.2.2.2.1, x.2.2.2.2.2.2.2.1, t.2.1, t.2.2, x.2.2.2.2.2.2.2.2.2.2))) args s 0 0 (adr (wM E ad x))) (F0 m 47 ls []) := by
    intro n
    induction n with
    | zero => intro y0_5 y0_8 y0_9 a1 a2 ls hl H locs hH hf; cases hf
    | succ n ih =>
      intro y0_5 y0_8 y0_9 a1 a2 ls hl H locs hH hf
      rw [fM_keepsMind_47] at hf
      refine lv_iload_n hx hb dX9_keepsMind_47 rfl (lv_at hl 2 rfl) ?_
      refine lv_sipush (v := 132) hx hb dX9_keepsMind_48 (by decide) ?_
      refine lv_icmp_ge (tgt := 78) hx hb dX9_keepsMind_51 (by decide) (fun c2 => ?_) (fun c2 => ?_)
      · have hf := ite_t hf c2
        refine lv_aload_n hx hb dX9_keepsMind_78 rfl (lv_at hl 0 rfl) ?_
        refine lv_dup hx hb dX9_keepsMind_79 rfl ?_
        refine gX9_48 hC hH.1 0 rfl (v := .int y0_8) rfl dX9_keepsMind_80 ?_
        refine lv_iconst (v := 1) hx hb dX9_keepsMind_83 (by decide) ?_
        refine lv_iadd hx hb dX9_keepsMind_84 ?_
        refine pX9_48 hC hH 0 rfl (v := .int (y0_8 + (1 : Int32))) rfl rfl (Nat.le_of_ble_eq_true rfl) (W1 := wM E ad (x.1, x.2.1, x.2.2.1, x.2.2.2.1, x.2.2.2.2.1, y0_5, x.2.2.2.2.2.2.1, x.2.2.2.2.2.2.2.1, (y0_8 + (1 : Int32)), y0_9, x.2.2.2.2.2.2.2.2.2.2)) rfl dX9_keepsMind_85 (fun H locs hH => ?_)
        cases hf
        exact e_Wv hC hH hr hlocks rfl dX9_keepsMind_88
      · have hf := ite_f hf c2
        refine lv_aload_n hx hb dX9_keepsMind_54 rfl (lv_at hl 0 rfl) ?_
        refine gX9_13 hC hH.1 0 rfl (v := .ref (ad 2)) rfl dX9_keepsMind_55 ?_
        refine lv_sipush (v := 132) hx hb dX9_keepsMind_58 (by decide) ?_
        refine lv_iload_n hx hb dX9_keepsMind_61 rfl (lv_at hl 1 rfl) ?_
        refine lv_imul hx hb dX9_keepsMind_62 ?_
        refine lv_iload_n hx hb dX9_keepsMind_63 rfl (lv_at hl 2 rfl) ?_
        refine lv_iadd hx hb dX9_keepsMind_64 ?_
        refine lv_aload_n hx hb dX9_keepsMind_65 rfl (lv_at hl 0 rfl) ?_
        refine gX9_19 hC hH.1 0 rfl (v := .ref (ad 4)) rfl dX9_keepsMind_66 ?_
        refine lv_iload_n hx hb dX9_keepsMind_69 rfl (lv_at hl 2 rfl) ?_
        obtain ⟨v3, hv3, hf⟩ := ob hf
        obtain ⟨hv3a, hv3b⟩ := ldA_ok hv3
        refine a_ild hC hH.1 4 rfl hv3a hv3b dX9_keepsMind_70 ?_
        obtain ⟨g4, hg4, hf⟩ := ob hf
        obtain ⟨hg4a, hg4b⟩ := stA_ok hg4
        refine a_ist hC hH 2 rfl hg4a hg4b (W1 := wM E ad (x.1, x.2.1, x.2.2.1, x.2.2.2.1, x.2.2.2.2.1, g4, x.2.2.2.2.2.2.1, x.2.2.2.2.2.2.2.1, y0_8, y0_9, x.2.2.2.2.2.2.2.2.2.2)) rfl dX9_keepsMind_71 (fun H locs hH => ?_)
        refine lv_iinc (v := (a2 + (1 : Int32))) (lv' := [(2, .int (a2 + (1 : Int32))), (0, .ref (ad 0)), (1, .int a1)]) hx hb dX9_keepsMind_72 hl (k := 2) rfl rfl (by decide) rfl (fun ls hl => ?_)
        refine lv_goto (tgt := 47) hx hb dX9_keepsMind_75 (by decide) ?_
        exact ih g4 y0_8 y0_9 a1 (a2 + (1 : Int32)) ls (lv_sub hl [1, 2, 0] rfl) _ _ hH hf
  intro H locs hH
  rw [fM_keepsMind] at hf
  refine lv_aload_n hx hb dX9_keepsMind_0 rfl (lv_at hl 0 rfl) ?_
  refine gX9_48 hC hH.1 0 rfl (v := .int x.2.2.2.2.2.2.2.2.1) rfl dX9_keepsMind_1 ?_
  refine lv_bipush (v := 8) hx hb dX9_keepsMind_4 (by decide) ?_
  refine lv_icmp_ne (tgt := 32) hx hb dX9_keepsMind_6 (by decide) (fun c1 => ?_) (fun c1 => ?_)
  · have hf := ite_f hf c1
    refine lv_aload_n hx hb dX9_keepsMind_32 rfl (lv_at hl 0 rfl) ?_
    refine gX9_51 hC hH.1 0 rfl (v := .int x.2.2.2.2.2.2.2.2.2.1) rfl dX9_keepsMind_33 ?_
    refine lv_aload_n hx hb dX9_keepsMind_36 rfl (lv_at hl 0 rfl) ?_
    refine gX9_48 hC hH.1 0 rfl (v := .int x.2.2.2.2.2.2.2.2.1) rfl dX9_keepsMind_37 ?_
    refine lv_iadd hx hb dX9_keepsMind_40 ?_
    refine lv_bipush (v := 8) hx hb dX9_keepsMind_41 (by decide) ?_
    refine lv_irem hx hb dX9_keepsMind_43 (by decide) ?_
    refine lv_istore_n (lv' := [(1, .int ((x.2.2.2.2.2.2.2.2.2.1 + x.2.2.2.2.2.2.2.2.1) - (x.2.2.2.2.2.2.2.2.2.1 + x.2.2.2.2.2.2.2.2.1) / (8 : Int32) * (8 : Int32))), (0, .ref (ad 0))]) hx hb dX9_keepsMind_44 rfl hl (by decide) rfl (fun ls hl => ?_)
    refine lv_iconst (v := 0) hx hb dX9_keepsMind_45 (by decide) ?_
    refine lv_istore_n (lv' := [(2, .int (0 : Int32)), (1, .int ((x.2.2.2.2.2.2.2.2.2.1 + x.2.2.2.2.2.2.2.2.1) - (x.2.2.2.2.2.2.2.2.2.1 + x.2.2.2.2.2.2.2.2.1) / (8 : Int32) * (8 : Int32))), (0, .ref (ad 0))]) hx hb dX9_keepsMind_46 rfl hl (by decide) rfl (fun ls hl => ?_)
    exact L47 FU x.2.2.2.2.2.1 x.2.2.2.2.2.2.2.2.1 x.2.2.2.2.2.2.2.2.2.1 ((x.2.2.2.2.2.2.2.2.2.1 + x.2.2.2.2.2.2.2.2.1) - (x.2.2.2.2.2.2.2.2.2.1 + x.2.2.2.2.2.2.2.2.1) / (8 : Int32) * (8 : Int32)) (0 : Int32) ls (lv_sub hl [2, 1, 0] rfl) _ _ hH hf
  · have hf := ite_t hf c1
    refine lv_aload_n hx hb dX9_keepsMind_9 rfl (lv_at hl 0 rfl) ?_
    refine lv_aload_n hx hb dX9_keepsMind_10 rfl (lv_at hl 0 rfl) ?_
    refine gX9_51 hC hH.1 0 rfl (v := .int x.2.2.2.2.2.2.2.2.2.1) rfl dX9_keepsMind_11 ?_
    refine lv_iconst (v := 1) hx hb dX9_keepsMind_14 (by decide) ?_
    refine lv_iadd hx hb dX9_keepsMind_15 ?_
    refine lv_bipush (v := 8) hx hb dX9_keepsMind_16 (by decide) ?_
    refine lv_irem hx hb dX9_keepsMind_18 (by decide) ?_
    refine pX9_51 hC hH 0 rfl (v := .int ((x.2.2.2.2.2.2.2.2.2.1 + (1 : Int32)) - (x.2.2.2.2.2.2.2.2.2.1 + (1 : Int32)) / (8 : Int32) * (8 : Int32))) rfl rfl (Nat.le_of_ble_eq_true rfl) (W1 := wM E ad (x.1, x.2.1, x.2.2.1, x.2.2.2.1, x.2.2.2.2.1, x.2.2.2.2.2.1, x.2.2.2.2.2.2.1, x.2.2.2.2.2.2.2.1, x.2.2.2.2.2.2.2.2.1, ((x.2.2.2.2.2.2.2.2.2.1 + (1 : Int32)) - (x.2.2.2.2.2.2.2.2.2.1 + (1 : Int32)) / (8 : Int32) * (8 : Int32)), x.2.2.2.2.2.2.2.2.2.2)) rfl dX9_keepsMind_19 (fun H locs hH => ?_)
    refine lv_aload_n hx hb dX9_keepsMind_22 rfl (lv_at hl 0 rfl) ?_
    refine lv_dup hx hb dX9_keepsMind_23 rfl ?_
    refine gX9_48 hC hH.1 0 rfl (v := .int x.2.2.2.2.2.2.2.2.1) rfl dX9_keepsMind_24 ?_
    refine lv_iconst (v := 1) hx hb dX9_keepsMind_27 (by decide) ?_
    refine lv_isub hx hb dX9_keepsMind_28 ?_
    refine pX9_48 hC hH 0 rfl (v := .int (x.2.2.2.2.2.2.2.2.1 - (1 : Int32))) rfl rfl (Nat.le_of_ble_eq_true rfl) (W1 := wM E ad (x.1, x.2.1, x.2.2.1, x.2.2.2.1, x.2.2.2.2.1, x.2.2.2.2.2.1, x.2.2.2.2.2.2.1, x.2.2.2.2.2.2.2.1, (x.2.2.2.2.2.2.2.2.1 - (1 : Int32)), ((x.2.2.2.2.2.2.2.2.2.1 + (1 : Int32)) - (x.2.2.2.2.2.2.2.2.2.1 + (1 : Int32)) / (8 : Int32) * (8 : Int32)), x.2.2.2.2.2.2.2.2.2.2)) rfl dX9_keepsMind_29 (fun H locs hH => ?_)
    refine lv_aload_n hx hb dX9_keepsMind_32 rfl (lv_at hl 0 rfl) ?_
    refine gX9_51 hC hH.1 0 rfl (v := .int ((x.2.2.2.2.2.2.2.2.2.1 + (1 : Int32)) - (x.2.2.2.2.2.2.2.2.2.1 + (1 : Int32)) / (8 : Int32) * (8 : Int32))) rfl dX9_keepsMind_33 ?_
    refine lv_aload_n hx hb dX9_keepsMind_36 rfl (lv_at hl 0 rfl) ?_
    refine gX9_48 hC hH.1 0 rfl (v := .int (x.2.2.2.2.2.2.2.2.1 - (1 : Int32))) rfl dX9_keepsMind_37 ?_
    refine lv_iadd hx hb dX9_keepsMind_40 ?_
    refine lv_bipush (v := 8) hx hb dX9_keepsMind_41 (by decide) ?_
    refine lv_irem hx hb dX9_keepsMind_43 (by decide) ?_
    refine lv_istore_n (lv' := [(1, .int ((((x.2.2.2.2.2.2.2.2.2.1 + (1 : Int32)) - (x.2.2.2.2.2.2.2.2.2.1 + (1 : Int32)) / (8 : Int32) * (8 : Int32)) + (x.2.2.2.2.2.2.2.2.1 - (1 : Int32))) - (((x.2.2.2.2.2.2.2.2.2.1 + (1 : Int32)) - (x.2.2.2.2.2.2.2.2.2.1 + (1 : Int32)) / (8 : Int32) * (8 : Int32)) + (x.2.2.2.2.2.2.2.2.1 - (1 : Int32))) / (8 : Int32) * (8 : Int32))), (0, .ref (ad 0))]) hx hb dX9_keepsMind_44 rfl hl (by decide) rfl (fun ls hl => ?_)
    refine lv_iconst (v := 0) hx hb dX9_keepsMind_45 (by decide) ?_
    refine lv_istore_n (lv' := [(2, .int (0 : Int32)), (1, .int ((((x.2.2.2.2.2.2.2.2.2.1 + (1 : Int32)) - (x.2.2.2.2.2.2.2.2.2.1 + (1 : Int32)) / (8 : Int32) * (8 : Int32)) + (x.2.2.2.2.2.2.2.2.1 - (1 : Int32))) - (((x.2.2.2.2.2.2.2.2.2.1 + (1 : Int32)) - (x.2.2.2.2.2.2.2.2.2.1 + (1 : Int32)) / (8 : Int32) * (8 : Int32)) + (x.2.2.2.2.2.2.2.2.1 - (1 : Int32))) / (8 : Int32) * (8 : Int32))), (0, .ref (ad 0))]) hx hb dX9_keepsMind_46 rfl hl (by decide) rfl (fun ls hl => ?_)
    exact L47 FU x.2.2.2.2.2.1 (x.2.2.2.2.2.2.2.2.1 - (1 : Int32)) ((x.2.2.2.2.2.2.2.2.2.1 + (1 : Int32)) - (x.2.2.2.2.2.2.2.2.2.1 + (1 : Int32)) / (8 : Int32) * (8 : Int32)) ((((x.2.2.2.2.2.2.2.2.2.1 + (1 : Int32)) - (x.2.2.2.2.2.2.2.2.2.1 + (1 : Int32)) / (8 : Int32) * (8 : Int32)) + (x.2.2.2.2.2.2.2.2.1 - (1 : Int32))) - (((x.2.2.2.2.2.2.2.2.2.1 + (1 : Int32)) - (x.2.2.2.2.2.2.2.2.2.1 + (1 : Int32)) / (8 : Int32) * (8 : Int32)) + (x.2.2.2.2.2.2.2.2.1 - (1 : Int32))) / (8 : Int32) * (8 : Int32)) (0 : Int32) ls (lv_sub hl [2, 1, 0] rfl) _ _ hH hf
abbrev rmM_remembers : Room := { frames := 1, cells := 0, slots := 0, locals := 22 }
set_option maxHeartbeats 4000000 in
set_option maxRecDepth 100000 in
theorem cM_remembers (l : Launch) (E : eE) (ad : Nat → Nat) (x : TM) (t : (Nat → Int32) × (Nat → Int32) × Int32 × Int32) (hf : fM_remembers x.2.2.2.2.1 x.2.2.2.2.2.1 x.2.2.2.2.2.2.2.1 x.2.2.2.2.2.2.2.2.1 x.2.2.2.2.2.2.2.2.2.1 = some t) : cW l E yX9_remembers cX9_remembers 1 none rmM_remembers [.ref (ad 0)] (wM E ad x) none (wM E ad (x.1, x.2.1, x.2.2.1, x.2.2.2.1, x.2.2.2.2.1, t.1, x.2.2.2.2.2.2.1, t.2.1, t.2.2.1, t.2.2.2, x.2.2.2.2.2.2.2.2.2.2)) := by
  refine Met.ofW (cc := cX9_remembers) (maxL := 1) (ret := none) (by decide) rfl ?_
  intro p e s m args below meth c s₁ B hml hv
  obtain ⟨hargs, hP, hK, hD0⟩ := hv
  have hx := B.exec
  have hb := B.bytes
  have hr := B.returns
  have hts := atoms_spec (ws := ws_ yX9_remembers cX9_remembers 1 none) B.pre
  have hta : ∀ w ∈ lw_all, w.before args s = true := fun w h => hts w (List.mem_cons_of_mem _ h)
  have hown : s.vm.findClass RX9 = some m.cls := findClass_of_methodNamed B.named
  have hlocks := B.notSynchronized
  have hC : Cx p s m args c cX9_remembers 1 RX9 E := ⟨hx, hb, hml, hown, hta, hK⟩
  have hH : Hp E (adr (wM E ad x)) (wM E ad x) s.heap s.heap [] := Hp.start hP hD0
  obtain ⟨ls, he, hl⟩ := entry_ (m := m) (n := 1) hargs (Nat.le_of_ble_eq_true rfl)
  rw [he]
  have hl : lv_has ls 1 [(0, .ref (ad 0))] := hl
  show W p l e rmM_remembers s m args below meth c s.heap [] 0 0 (MQ below (qW E none none (wM E ad x) (wM E ad (x.1, x.2.1, x.2.2.1, x.2.2.2.1, x.2.2.2.2.1, t.1, x.2.2.2.2.2.2.1, t.2.1, t.2.2.1, t.2.2.2, x.2.2.2.2.2.2.2.2.2.2))) args s 0 0 (adr (wM E ad x))) (F0 m 0 ls [])
  suffices hmain : ∀ (H : Heap) (locs : List Loc), Hp E (adr (wM E ad x)) (wM E ad x) s.heap H locs → W p l e rmM_remembers s m args below meth c H locs 0 0 (MQ below (qW E none none (wM E ad x) (wM E ad (x.1, x.2.1, x.2.2.1, x.2.2.2.1, x.2.2.2.2.1, t.1, x.2.2.2.2.2.2.1, t.2.1, t.2.2.1, t.2.2.2, x.2.2.2.2.2.2.2.2.2.2))) args s 0 0 (adr (wM E ad x))) (F0 m 0 ls []) from hmain _ _ hH
  clear hH
  intro H locs hH
  rw [fM_remembers] at hf
  refine lv_aload_n hx hb dX9_remembers_0 rfl (lv_at hl 0 rfl) ?_
  obtain ⟨t1, ht1, hf⟩ := ob hf
  refine k_WVsv hC LX9_54 ⟨Nat.le_of_ble_eq_true rfl, Nat.le_of_ble_eq_true rfl⟩ ⟨Nat.zero_le _, Nat.zero_le _⟩ (cM_thinks l E ad x t1 ht1) rfl rfl hH rfl rfl rfl hl.1 rfl (Nat.le_of_ble_eq_true rfl) rfl dX9_remembers_1 (fun H locs hz1 hH => ?_)
  have hH : Hp E (adr (wM E ad x)) (wM E ad (x.1, x.2.1, x.2.2.1, x.2.2.2.1, x.2.2.2.2.1, x.2.2.2.2.2.1, x.2.2.2.2.2.2.1, t1, x.2.2.2.2.2.2.2.2)) s.heap H locs := hH
  refine lv_aload_n hx hb dX9_remembers_4 rfl (lv_at hl 0 rfl) ?_
  obtain ⟨t2, ht2, hf⟩ := ob hf
  refine k_WVsv hC LX9_57 ⟨Nat.le_of_ble_eq_true rfl, Nat.le_of_ble_eq_true rfl⟩ ⟨Nat.zero_le _, Nat.zero_le _⟩ (cM_keepsMind l E ad (x.1, x.2.1, x.2.2.1, x.2.2.2.1, x.2.2.2.2.1, x.2.2.2.2.2.1, x.2.2.2.2.2.2.1, t1, x.2.2.2.2.2.2.2.2) t2 ht2) rfl rfl hH rfl rfl rfl hl.1 rfl (Nat.le_of_ble_eq_true rfl) rfl dX9_remembers_5 (fun H locs hz5 hH => ?_)
  have hH : Hp E (adr (wM E ad x)) (wM E ad (x.1, x.2.1, x.2.2.1, x.2.2.2.1, x.2.2.2.2.1, t2.1, x.2.2.2.2.2.2.1, t1, t2.2.1, t2.2.2, x.2.2.2.2.2.2.2.2.2.2)) s.heap H locs := hH
  cases hf
  exact e_Wv hC hH hr hlocks rfl dX9_remembers_8
abbrev rmM_isLetter : Room := { frames := 1, cells := 0, slots := 0, locals := 22 }
set_option maxHeartbeats 4000000 in
set_option maxRecDepth 100000 in
theorem cM_isLetter (l : Launch) (E : eE) (ad : Nat → Nat) (x : TM) (a1 : Int32) (r : Int32) (hf : fM_isLetter x.2.2.2.2.1 a1 = some r) : cP l E yX9_isLetter cX9_isLetter 2 (some .boolean) rmM_isLetter [.ref (ad 0), .int a1] (wM E ad x) (some (.int r)) := by
  refine Met.ofW (cc := cX9_isLetter) (maxL := 2) (ret := (some .boolean)) (by decide) rfl ?_
  intro p e s m args below meth c s₁ B hml hv
  obtain ⟨hargs, hP, hK⟩ := hv
  have hx := B.exec
  have hb := B.bytes
  have hr := B.returns
  have hts := atoms_spec (ws := ws_ yX9_isLetter cX9_isLetter 2 (some .boolean)) B.pre
  have hta : ∀ w ∈ lw_all, w.before args s = true := fun w h => hts w (List.mem_cons_of_mem _ h)
  have hown : s.vm.findClass RX9 = some m.cls := findClass_of_methodNamed B.named
  have hlocks := B.notSynchronized
  have hC : Cx p s m args c cX9_isLetter 2 RX9 E := ⟨hx, hb, hml, hown, hta, hK⟩
  obtain ⟨ls, he, hl⟩ := entry_ (m := m) (n := 2) hargs (Nat.le_of_ble_eq_true rfl)
  rw [he]
  have hl : lv_has ls 2 [(0, .ref (ad 0)), (1, .int a1)] := hl
  show W p l e rmM_isLetter s m args below meth c s.heap [] 0 0 (MQ below (qP (some .boolean) (some (.int r))) args s 0 0 (fun _ => False)) (F0 m 0 ls [])
  rw [fM_isLetter] at hf
  refine lv_iload_n hx hb dX9_isLetter_0 rfl (lv_at hl 1 rfl) ?_
  refine lv_iconst (v := 0) hx hb dX9_isLetter_1 (by decide) ?_
  refine lv_aload_n hx hb dX9_isLetter_2 rfl (lv_at hl 0 rfl) ?_
  refine gX9_7 hC hP 0 rfl (v := .ref (ad 1)) rfl dX9_isLetter_3 ?_
  refine lv_iconst (v := 0) hx hb dX9_isLetter_6 (by decide) ?_
  obtain ⟨v1, hv1, hf⟩ := ob hf
  obtain ⟨hv1a, hv1b⟩ := ldA_ok hv1
  refine a_ild hC hP 1 rfl hv1a hv1b dX9_isLetter_7 ?_
  refine lv_iconst (v := 1) hx hb dX9_isLetter_8 (by decide) ?_
  refine lv_isub hx hb dX9_isLetter_9 ?_
  refine k_PSi hC LX9_60 ⟨Nat.le_of_ble_eq_true rfl, Nat.le_of_ble_eq_true rfl⟩ ⟨Nat.zero_le _, Nat.zero_le _⟩ (cM_isBetween l E a1 (0 : Int32) (v1 - (1 : Int32)) _ rfl) rfl rfl (vP_nil) hl.1 rfl (Nat.le_of_ble_eq_true rfl) rfl dX9_isLetter_10 (fun hz10 => ?_)
  have hf := Option.some.inj hf
  exact e_Pz hC hr hlocks hf (rt_of hz10) dX9_isLetter_13
abbrev rmM_is : Room := { frames := 0, cells := 0, slots := 0, locals := 0 }
set_option maxHeartbeats 4000000 in
set_option maxRecDepth 100000 in
theorem cM_is (l : Launch) (E : eE) (ad : Nat → Nat) (x : TM) (a1 : Int32) (r : Int32) (hf : fM_is x.2.2.2.2.1 a1 = some r) : cP l E yX9_is cX9_is 2 (some .int) rmM_is [.ref (ad 0), .int a1] (wM E ad x) (some (.int r)) := by
  refine Met.ofW (cc := cX9_is) (maxL := 2) (ret := (some .int)) (by decide) rfl ?_
  intro p e s m args below meth c s₁ B hml hv
  obtain ⟨hargs, hP, hK⟩ := hv
  have hx := B.exec
  have hb := B.bytes
  have hr := B.returns
  have hts := atoms_spec (ws := ws_ yX9_is cX9_is 2 (some .int)) B.pre
  have hta : ∀ w ∈ lw_all, w.before args s = true := fun w h => hts w (List.mem_cons_of_mem _ h)
  have hown : s.vm.findClass RX9 = some m.cls := findClass_of_methodNamed B.named
  have hlocks := B.notSynchronized
  have hC : Cx p s m args c cX9_is 2 RX9 E := ⟨hx, hb, hml, hown, hta, hK⟩
  obtain ⟨ls, he, hl⟩ := entry_ (m := m) (n := 2) hargs (Nat.le_of_ble_eq_true rfl)
  rw [he]
  have hl : lv_has ls 2 [(0, .ref (ad 0)), (1, .int a1)] := hl
  show W p l e rmM_is s m args below meth c s.heap [] 0 0 (MQ below (qP (some .int) (some (.int r))) args s 0 0 (fun _ => False)) (F0 m 0 ls [])
  rw [fM_is] at hf
  refine lv_aload_n hx hb dX9_is_0 rfl (lv_at hl 0 rfl) ?_
  refine gX9_7 hC hP 0 rfl (v := .ref (ad 1)) rfl dX9_is_1 ?_
  refine lv_iconst (v := 4) hx hb dX9_is_4 (by decide) ?_
  refine lv_iload_n hx hb dX9_is_5 rfl (lv_at hl 1 rfl) ?_
  refine lv_iadd hx hb dX9_is_6 ?_
  obtain ⟨v1, hv1, hf⟩ := ob hf
  obtain ⟨hv1a, hv1b⟩ := ldA_ok hv1
  refine a_ild hC hP 1 rfl hv1a hv1b dX9_is_7 ?_
  have hf := Option.some.inj hf
  exact e_Pi hC hr hlocks hf dX9_is_8
abbrev rmM_notInsert : Room := { frames := 2, cells := 0, slots := 0, locals := 42 }
set_option maxHeartbeats 4000000 in
set_option maxRecDepth 100000 in
theorem cM_notInsert (l : Launch) (E : eE) (ad : Nat → Nat) (x : TM) (a1 : Int32) (a2 : Int32) (t : Int32 × Int32 × Int32) (hf : fM_notInsert x.2.2.1 x.2.2.2.1 x.2.2.2.2.1 a1 a2 = some t) : cW l E yX9_notInsert cX9_notInsert 3 (some .int) rmM_notInsert [.ref (ad 0), .int a1, .int a2] (wM E ad x) (some (.int t.1)) (wM E ad (x.1, x.2.1, t.2.1, t.2.2, x.2.2.2.2)) := by
  refine Met.ofW (cc := cX9_notInsert) (maxL := 3) (ret := (some .int)) (by decide) rfl ?_
  intro p e s m args below meth c s₁ B hml hv
  obtain ⟨hargs, hP, hK, hD0⟩ := hv
  have hx := B.exec
  have hb := B.bytes
  have hr := B.returns
  have hts := atoms_spec (ws := ws_ yX9_notInsert cX9_notInsert 3 (some .int)) B.pre
  have hta : ∀ w ∈ lw_all, w.before args s = true := fun w h => hts w (List.mem_cons_of_mem _ h)
  have hown : s.vm.findClass RX9 = some m.cls := findClass_of_methodNamed B.named
  have hlocks := B.notSynchronized
  have hC : Cx p s m args c cX9_notInsert 3 RX9 E := ⟨hx, hb, hml, hown, hta, hK⟩
  have hH : Hp E (adr (wM E ad x)) (wM E ad x) s.heap s.heap [] := Hp.start hP hD0
  obtain ⟨ls, he, hl⟩ := entry_ (m := m) (n := 3) hargs (Nat.le_of_ble_eq_true rfl)
  rw [he]
  have hl : lv_has ls 3 [(0, .ref (ad 0)), (1, .int a1), (2, .int a2)] := hl
  show W p l e rmM_notInsert s m args below meth c s.heap [] 0 0 (MQ below (qW E (some .int) (some (.int t.1)) (wM E ad x) (wM E ad (x.1, x.2.1, t.2.1, t.2.2, x.2.2.2.2))) args s 0 0 (adr (wM E ad x))) (F0 m 0 ls [])
  suffices hmain : ∀ (H : Heap) (locs : List Loc), Hp E (adr (wM E ad x)) (wM E ad x) s.heap H locs → W p l e rmM_notInsert s m args below meth c H locs 0 0 (MQ below (qW E (some .int) (some (.int t.1)) (wM E ad x) (wM E ad (x.1, x.2.1, t.2.1, t.2.2, x.2.2.2.2))) args s 0 0 (adr (wM E ad x))) (F0 m 0 ls []) from hmain _ _ hH
  clear hH
  intro H locs hH
  rw [fM_notInsert] at hf
  refine lv_iload_n hx hb dX9_notInsert_0 rfl (lv_at hl 1 rfl) ?_
  refine lv_iconst (v := 0) hx hb dX9_notInsert_1 (by decide) ?_
  refine lv_aload_n hx hb dX9_notInsert_2 rfl (lv_at hl 0 rfl) ?_
  refine gX9_7 hC hH.1 0 rfl (v := .ref (ad 1)) rfl dX9_notInsert_3 ?_
  refine lv_iconst (v := 0) hx hb dX9_notInsert_6 (by decide) ?_
  obtain ⟨v1, hv1, hf⟩ := ob hf
  obtain ⟨hv1a, hv1b⟩ := ldA_ok hv1
  refine a_ild hC hH.1 1 rfl hv1a hv1b dX9_notInsert_7 ?_
  refine k_PSi hC LX9_60 ⟨Nat.le_of_ble_eq_true rfl, Nat.le_of_ble_eq_true rfl⟩ ⟨Nat.zero_le _, Nat.zero_le _⟩ (cM_isBetween l E a1 (0 : Int32) v1 _ rfl) rfl rfl (vP_nil) hl.1 rfl (Nat.le_of_ble_eq_true rfl) rfl dX9_notInsert_8 (fun hz8 => ?_)
  refine lv_if_ne (tgt := 17) hx hb dX9_notInsert_11 (by decide) (fun c2 => ?_) (fun c2 => ?_)
  · have hf := ite_f hf c2
    refine lv_iload_n hx hb dX9_notInsert_17 rfl (lv_at hl 2 rfl) ?_
    refine k_PSi hC LX9_64 ⟨Nat.le_of_ble_eq_true rfl, Nat.le_of_ble_eq_true rfl⟩ ⟨Nat.zero_le _, Nat.zero_le _⟩ (cM_isWeight l E a2 _ rfl) rfl rfl (vP_nil) hl.1 rfl (Nat.le_of_ble_eq_true rfl) rfl dX9_notInsert_18 (fun hz18 => ?_)
    refine lv_if_ne (tgt := 27) hx hb dX9_notInsert_21 (by decide) (fun c3 => ?_) (fun c3 => ?_)
    · have hf := ite_f hf c3
      refine lv_aload_n hx hb dX9_notInsert_27 rfl (lv_at hl 0 rfl) ?_
      refine gX9_7 hC hH.1 0 rfl (v := .ref (ad 1)) rfl dX9_notInsert_28 ?_
      refine lv_iconst (v := 0) hx hb dX9_notInsert_31 (by decide) ?_
      obtain ⟨v4, hv4, hf⟩ := ob hf
      obtain ⟨hv4a, hv4b⟩ := ldA_ok hv4
      refine a_ild hC hH.1 1 rfl hv4a hv4b dX9_notInsert_32 ?_
      refine lv_bipush (v := 64) hx hb dX9_notInsert_33 (by decide) ?_
      refine lv_icmp_ne (tgt := 48) hx hb dX9_notInsert_35 (by decide) (fun c5 => ?_) (fun c5 => ?_)
      · have hf := ite_f hf c5
        refine lv_iconst (v := 0) hx hb dX9_notInsert_48 (by decide) ?_
        cases hf
        exact e_Wi hC hH hr hlocks rfl rfl dX9_notInsert_49
      · have hf := ite_t hf c5
        refine lv_aload_n hx hb dX9_notInsert_38 rfl (lv_at hl 0 rfl) ?_
        refine lv_iconst (v := 1) hx hb dX9_notInsert_39 (by decide) ?_
        refine lv_bipush (v := 64) hx hb dX9_notInsert_40 (by decide) ?_
        obtain ⟨t6, ht6, hf⟩ := ob hf
        refine k_WVsi hC LX9_68 ⟨Nat.le_of_ble_eq_true rfl, Nat.le_of_ble_eq_true rfl⟩ ⟨Nat.zero_le _, Nat.zero_le _⟩ (cM_isNot l E ad x (1 : Int32) (64 : Int32) t6 ht6) rfl rfl hH rfl rfl rfl hl.1 rfl (Nat.le_of_ble_eq_true rfl) rfl dX9_notInsert_42 (fun H locs hz42 hH => ?_)
        have hH : Hp E (adr (wM E ad x)) (wM E ad (x.1, x.2.1, t6.2.1, t6.2.2, x.2.2.2.2)) s.heap H locs := hH
        refine lv_goto (tgt := 49) hx hb dX9_notInsert_45 (by decide) ?_
        cases hf
        exact e_Wi hC hH hr hlocks rfl rfl dX9_notInsert_49
    · have hf := ite_t hf c3
      refine lv_bipush (v := (-12)) hx hb dX9_notInsert_24 (by decide) ?_
      cases hf
      exact e_Wi hC hH hr hlocks rfl rfl dX9_notInsert_26
  · have hf := ite_t hf c2
    refine lv_bipush (v := (-11)) hx hb dX9_notInsert_14 (by decide) ?_
    cases hf
    exact e_Wi hC hH hr hlocks rfl rfl dX9_notInsert_16
abbrev rmM_comes : Room := { frames := 0, cells := 0, slots := 0, locals := 0 }
set_option maxHeartbeats 4000000 in
set_option maxRecDepth 100000 in
theorem cM_comes (l : Launch) (E : eE) (ad : Nat → Nat) (x : TM) (a1 : Int32) (a2 : Int32) (t : (Nat → Int32)) (hf : fM_comes x.2.2.2.2.1 a1 a2 = some t) : cW l E yX9_comes cX9_comes 4 none rmM_comes [.ref (ad 0), .int a1, .int a2] (wM E ad x) none (wM E ad (x.1, x.2.1, x.2.2.1, x.2.2.2.1, t, x.2.2.2.2.2)) := by
  refine Met.ofW (cc := cX9_comes) (maxL := 4) (ret := none) (by decide) rfl ?_
  intro p e s m args below meth c s₁ B hml hv
  obtain ⟨hargs, hP, hK, hD0⟩ := hv
  have hx := B.exec
  have hb := B.bytes
  have hr := B.returns
  have hts := atoms_spec (ws := ws_ yX9_comes cX9_comes 4 none) B.pre
  have hta : ∀ w ∈ lw_all, w.before args s = true := fun w h => hts w (List.mem_cons_of_mem _ h)
  have hown : s.vm.findClass RX9 = some m.cls := findClass_of_methodNamed B.named
  have hlocks := B.notSynchronized
  have hC : Cx p s m args c cX9_comes 4 RX9 E := ⟨hx, hb, hml, hown, hta, hK⟩
  have hH : Hp E (adr (wM E ad x)) (wM E ad x) s.heap s.heap [] := Hp.start hP hD0
  obtain ⟨ls, he, hl⟩ := entry_ (m := m) (n := 4) hargs (Nat.le_of_ble_eq_true rfl)
  rw [he]
  have hl : lv_has ls 4 [(0, .ref (ad 0)), (1, .int a1), (2, .int a2)] := hl
  show W p l e rmM_comes s m args below meth c s.heap [] 0 0 (MQ below (qW E none none (wM E ad x) (wM E ad (x.1, x.2.1, x.2.2.1, x.2.2.2.1, t, x.2.2.2.2.2))) args s 0 0 (adr (wM E ad x))) (F0 m 0 ls [])
  suffices hmain : ∀ (H : Heap) (locs : List Loc), Hp E (adr (wM E ad x)) (wM E ad x) s.heap H locs → W p l e rmM_comes s m args below meth c H locs 0 0 (MQ below (qW E none none (wM E ad x) (wM E ad (x.1, x.2.1, x.2.2.1, x.2.2.2.1, t, x.2.2.2.2.2))) args s 0 0 (adr (wM E ad x))) (F0 m 0 ls []) from hmain _ _ hH
  clear hH
  have L7 : ∀ (n : Nat) (y0_4 : (Nat → Int32)) (a1 : Int32) (a2 : Int32) (a3 : Int32) (ls : Array Slot), lv_has ls 4 [(0, .ref (ad 0)), (1, .int a1), (2, .int a2), (3, .int a3)] → ∀ (H : Heap) (locs : List Loc), Hp E (adr (wM E ad x)) (wM E ad (x.1, x.2.1, x.2.2.1, x.2.2.2.1, y0_4, x.2.2.2.2.2)) s.heap H locs → fM_comes_7 n y0_4 a1 a2 a3 = some t → W p l e rmM_comes s m args below meth c H locs 0 0 (MQ below (qW E none none (wM E ad x) (wM E ad (x.1, x.2.1, x.2.2.1, x.2.2.2.1, t, x.2.2.2.2.2))) args s 0 0 (adr (wM E ad x))) (F0 m 7 ls []) := by
    intro n
    induction n with
    | zero => intro y0_4 a1 a2 a3 ls hl H locs hH hf; cases hf
    | succ n ih =>
      intro y0_4 a1 a2 a3 ls hl H locs hH hf
      rw [fM_comes_7] at hf
      refine lv_iload_n hx hb dX9_comes_7 rfl (lv_at hl 3 rfl) ?_
      refine lv_iload_n hx hb dX9_comes_8 rfl (lv_at hl 1 rfl) ?_
      refine lv_icmp_le (tgt := 36) hx hb dX9_comes_9 (by decide) (fun c2 => ?_) (fun c2 => ?_)
      · have hf := ite_t hf c2
        refine lv_aload_n hx hb dX9_comes_36 rfl (lv_at hl 0 rfl) ?_
        refine gX9_7 hC hH.1 0 rfl (v := .ref (ad 1)) rfl dX9_comes_37 ?_
        refine lv_iconst (v := 4) hx hb dX9_comes_40 (by decide) ?_
        refine lv_iload_n hx hb dX9_comes_41 rfl (lv_at hl 1 rfl) ?_
        refine lv_iadd hx hb dX9_comes_42 ?_
        refine lv_iload_n hx hb dX9_comes_43 rfl (lv_at hl 2 rfl) ?_
        obtain ⟨g3, hg3, hf⟩ := ob hf
        obtain ⟨hg3a, hg3b⟩ := stA_ok hg3
        refine a_ist hC hH 1 rfl hg3a hg3b (W1 := wM E ad (x.1, x.2.1, x.2.2.1, x.2.2.2.1, g3, x.2.2.2.2.2)) rfl dX9_comes_44 (fun H locs hH => ?_)
        refine lv_aload_n hx hb dX9_comes_45 rfl (lv_at hl 0 rfl) ?_
        refine gX9_7 hC hH.1 0 rfl (v := .ref (ad 1)) rfl dX9_comes_46 ?_
        refine lv_iconst (v := 0) hx hb dX9_comes_49 (by decide) ?_
        refine lv_dup2_11 hx hb dX9_comes_50 rfl rfl ?_
        obtain ⟨v4, hv4, hf⟩ := ob hf
        obtain ⟨hv4a, hv4b⟩ := ldA_ok hv4
        refine a_ild hC hH.1 1 rfl hv4a hv4b dX9_comes_51 ?_
        refine lv_iconst (v := 1) hx hb dX9_comes_52 (by decide) ?_
        refine lv_iadd hx hb dX9_comes_53 ?_
        obtain ⟨g5, hg5, hf⟩ := ob hf
        obtain ⟨hg5a, hg5b⟩ := stA_ok hg5
        refine a_ist hC hH 1 rfl hg5a hg5b (W1 := wM E ad (x.1, x.2.1, x.2.2.1, x.2.2.2.1, g5, x.2.2.2.2.2)) rfl dX9_comes_54 (fun H locs hH => ?_)
        refine lv_aload_n hx hb dX9_comes_55 rfl (lv_at hl 0 rfl) ?_
        refine gX9_7 hC hH.1 0 rfl (v := .ref (ad 1)) rfl dX9_comes_56 ?_
        refine lv_iconst (v := 1) hx hb dX9_comes_59 (by decide) ?_
        refine lv_dup2_11 hx hb dX9_comes_60 rfl rfl ?_
        obtain ⟨v6, hv6, hf⟩ := ob hf
        obtain ⟨hv6a, hv6b⟩ := ldA_ok hv6
        refine a_ild hC hH.1 1 rfl hv6a hv6b dX9_comes_61 ?_
        refine lv_iconst (v := 1) hx hb dX9_comes_62 (by decide) ?_
        refine lv_iadd hx hb dX9_comes_63 ?_
        obtain ⟨g7, hg7, hf⟩ := ob hf
        obtain ⟨hg7a, hg7b⟩ := stA_ok hg7
        refine a_ist hC hH 1 rfl hg7a hg7b (W1 := wM E ad (x.1, x.2.1, x.2.2.1, x.2.2.2.1, g7, x.2.2.2.2.2)) rfl dX9_comes_64 (fun H locs hH => ?_)
        cases hf
        exact e_Wv hC hH hr hlocks rfl dX9_comes_65
      · have hf := ite_f hf c2
        refine lv_aload_n hx hb dX9_comes_12 rfl (lv_at hl 0 rfl) ?_
        refine gX9_7 hC hH.1 0 rfl (v := .ref (ad 1)) rfl dX9_comes_13 ?_
        refine lv_iconst (v := 4) hx hb dX9_comes_16 (by decide) ?_
        refine lv_iload_n hx hb dX9_comes_17 rfl (lv_at hl 3 rfl) ?_
        refine lv_iadd hx hb dX9_comes_18 ?_
        refine lv_aload_n hx hb dX9_comes_19 rfl (lv_at hl 0 rfl) ?_
        refine gX9_7 hC hH.1 0 rfl (v := .ref (ad 1)) rfl dX9_comes_20 ?_
        refine lv_iconst (v := 4) hx hb dX9_comes_23 (by decide) ?_
        refine lv_iload_n hx hb dX9_comes_24 rfl (lv_at hl 3 rfl) ?_
        refine lv_iadd hx hb dX9_comes_25 ?_
        refine lv_iconst (v := 1) hx hb dX9_comes_26 (by decide) ?_
        refine lv_isub hx hb dX9_comes_27 ?_
        obtain ⟨v8, hv8, hf⟩ := ob hf
        obtain ⟨hv8a, hv8b⟩ := ldA_ok hv8
        refine a_ild hC hH.1 1 rfl hv8a hv8b dX9_comes_28 ?_
        obtain ⟨g9, hg9, hf⟩ := ob hf
        obtain ⟨hg9a, hg9b⟩ := stA_ok hg9
        refine a_ist hC hH 1 rfl hg9a hg9b (W1 := wM E ad (x.1, x.2.1, x.2.2.1, x.2.2.2.1, g9, x.2.2.2.2.2)) rfl dX9_comes_29 (fun H locs hH => ?_)
        refine lv_iinc (v := (a3 + (-1 : Int32))) (lv' := [(3, .int (a3 + (-1 : Int32))), (0, .ref (ad 0)), (1, .int a1), (2, .int a2)]) hx hb dX9_comes_30 hl (k := 3) rfl rfl (by decide) rfl (fun ls hl => ?_)
        refine lv_goto (tgt := 7) hx hb dX9_comes_33 (by decide) ?_
        exact ih g9 a1 a2 (a3 + (-1 : Int32)) ls (lv_sub hl [1, 2, 3, 0] rfl) _ _ hH hf
  intro H locs hH
  rw [fM_comes] at hf
  refine lv_aload_n hx hb dX9_comes_0 rfl (lv_at hl 0 rfl) ?_
  refine gX9_7 hC hH.1 0 rfl (v := .ref (ad 1)) rfl dX9_comes_1 ?_
  refine lv_iconst (v := 0) hx hb dX9_comes_4 (by decide) ?_
  obtain ⟨v1, hv1, hf⟩ := ob hf
  obtain ⟨hv1a, hv1b⟩ := ldA_ok hv1
  refine a_ild hC hH.1 1 rfl hv1a hv1b dX9_comes_5 ?_
  refine lv_istore_n (lv' := [(3, .int v1), (0, .ref (ad 0)), (1, .int a1), (2, .int a2)]) hx hb dX9_comes_6 rfl hl (by decide) rfl (fun ls hl => ?_)
  exact L7 FU x.2.2.2.2.1 a1 a2 v1 ls (lv_sub hl [1, 2, 3, 0] rfl) _ _ hH hf
abbrev rmM_put : Room := { frames := 3, cells := 0, slots := 0, locals := 64 }
set_option maxHeartbeats 4000000 in
set_option maxRecDepth 100000 in
theorem cM_put (l : Launch) (E : eE) (ad : Nat → Nat) (x : TM) (a1 : Int32) (t : Int32 × Int32 × Int32 × Int32 × Int32 × (Nat → Int32) × (Nat → Int32) × (Nat → Int32) × Int32 × Int32) (hf : fM_put x.1 x.2.1 x.2.2.1 x.2.2.2.1 x.2.2.2.2.1 x.2.2.2.2.2.1 x.2.2.2.2.2.2.2.1 x.2.2.2.2.2.2.2.2.1 x.2.2.2.2.2.2.2.2.2.1 a1 = some t) : cW l E yX9_put cX9_put 3 (some .int) rmM_put [.ref (ad 0), .int a1] (wM E ad x) (some (.int t.1)) (wM E ad (t.2.1, t.2.2.1, t.2.2.2.1, t.2.2.2.2.1, t.2.2.2.2.2.1, t.2.2.2.2.2.2.1, x.2.2.2.2.2.2.1, t.2.2.2.2.2.2.2.1, t.2.2.2.2.2.2.2.2.1, t.2.2.2.2.2.2.2.2.2, x.2.2.2.2.2.2.2.2.2.2)) := by
  refine Met.ofW (cc := cX9_put) (maxL := 3) (ret := (some .int)) (by decide) rfl ?_
  intro p e s m args below meth c s₁ B hml hv
  obtain ⟨hargs, hP, hK, hD0⟩ := hv
  have hx := B.exec
  have hb := B.bytes
  have hr := B.returns
  have hts := atoms_spec (ws := ws_ yX9_put cX9_put 3 (some .int)) B.pre
  have hta : ∀ w ∈ lw_all, w.before args s = true := fun w h => hts w (List.mem_cons_of_mem _ h)
  have hown : s.vm.findClass RX9 = some m.cls := findClass_of_methodNamed B.named
  have hlocks := B.notSynchronized
  have hC : Cx p s m args c cX9_put 3 RX9 E := ⟨hx, hb, hml, hown, hta, hK⟩
  have hH : Hp E (adr (wM E ad x)) (wM E ad x) s.heap s.heap [] := Hp.start hP hD0
  obtain ⟨ls, he, hl⟩ := entry_ (m := m) (n := 3) hargs (Nat.le_of_ble_eq_true rfl)
  rw [he]
  have hl : lv_has ls 3 [(0, .ref (ad 0)), (1, .int a1)] := hl
  show W p l e rmM_put s m args below meth c s.heap [] 0 0 (MQ below (qW E (some .int) (some (.int t.1)) (wM E ad x) (wM E ad (t.2.1, t.2.2.1, t.2.2.2.1, t.2.2.2.2.1, t.2.2.2.2.2.1, t.2.2.2.2.2.2.1, x.2.2.2.2.2.2.1, t.2.2.2.2.2.2.2.1, t.2.2.2.2.2.2.2.2.1, t.2.2.2.2.2.2.2.2.2, x.2.2.2.2.2.2.2.2.2.2))) args s 0 0 (adr (wM E ad x))) (F0 m 0 ls [])
  suffices hmain : ∀ (H : Heap) (locs : List Loc), Hp E (adr (wM E ad x)) (wM E ad x) s.heap H locs → W p l e rmM_put s m args below meth c H locs 0 0 (MQ below (qW E (some .int) (some (.int t.1)) (wM E ad x) (wM E ad (t.2.1, t.2.2.1, t.2.2.2.1, t.2.2.2.2.1, t.2.2.2.2.2.1, t.2.2.2.2.2.2.1, x.2.2.2.2.2.2.1, t.2.2.2.2.2.2.2.1, t.2.2.2.2.2.2.2.2.1, t.2.2.2.2.2.2.2.2.2, x.2.2.2.2.2.2.2.2.2.2))) args s 0 0 (adr (wM E ad x))) (F0 m 0 ls []) from hmain _ _ hH
  clear hH
  intro H locs hH
  rw [fM_put] at hf
  refine lv_aload_n hx hb dX9_put_0 rfl (lv_at hl 0 rfl) ?_
  refine lv_aload_n hx hb dX9_put_1 rfl (lv_at hl 0 rfl) ?_
  refine gX9_7 hC hH.1 0 rfl (v := .ref (ad 1)) rfl dX9_put_2 ?_
  refine lv_iconst (v := 0) hx hb dX9_put_5 (by decide) ?_
  obtain ⟨v1, hv1, hf⟩ := ob hf
  obtain ⟨hv1a, hv1b⟩ := ldA_ok hv1
  refine a_ild hC hH.1 1 rfl hv1a hv1b dX9_put_6 ?_
  refine lv_iload_n hx hb dX9_put_7 rfl (lv_at hl 1 rfl) ?_
  obtain ⟨t2, ht2, hf⟩ := ob hf
  refine k_WVsi hC LX9_72 ⟨Nat.le_of_ble_eq_true rfl, Nat.le_of_ble_eq_true rfl⟩ ⟨Nat.zero_le _, Nat.zero_le _⟩ (cM_notInsert l E ad x v1 a1 t2 ht2) rfl rfl hH rfl rfl rfl hl.1 rfl (Nat.le_of_ble_eq_true rfl) rfl dX9_put_8 (fun H locs hz8 hH => ?_)
  have hH : Hp E (adr (wM E ad x)) (wM E ad (x.1, x.2.1, t2.2.1, t2.2.2, x.2.2.2.2)) s.heap H locs := hH
  refine lv_istore_n (lv' := [(2, .int t2.1), (0, .ref (ad 0)), (1, .int a1)]) hx hb dX9_put_11 rfl hl (by decide) rfl (fun ls hl => ?_)
  refine lv_iload_n hx hb dX9_put_12 rfl (lv_at hl 0 rfl) ?_
  refine lv_if_eq (tgt := 22) hx hb dX9_put_13 (by decide) (fun c3 => ?_) (fun c3 => ?_)
  · have hf := ite_t hf c3
    refine lv_aload_n hx hb dX9_put_22 rfl (lv_at hl 1 rfl) ?_
    obtain ⟨t4, ht4, hf⟩ := ob hf
    refine k_WVsv hC LX9_79 ⟨Nat.le_of_ble_eq_true rfl, Nat.le_of_ble_eq_true rfl⟩ ⟨Nat.zero_le _, Nat.zero_le _⟩ (cM_remembers l E ad (x.1, x.2.1, t2.2.1, t2.2.2, x.2.2.2.2) t4 ht4) rfl rfl hH rfl rfl rfl hl.1 rfl (Nat.le_of_ble_eq_true rfl) rfl dX9_put_23 (fun H locs hz23 hH => ?_)
    have hH : Hp E (adr (wM E ad x)) (wM E ad (x.1, x.2.1, t2.2.1, t2.2.2, x.2.2.2.2.1, t4.1, x.2.2.2.2.2.2.1, t4.2.1, t4.2.2.1, t4.2.2.2, x.2.2.2.2.2.2.2.2.2.2)) s.heap H locs := hH
    refine lv_aload_n hx hb dX9_put_26 rfl (lv_at hl 1 rfl) ?_
    refine lv_aload_n hx hb dX9_put_27 rfl (lv_at hl 1 rfl) ?_
    refine gX9_7 hC hH.1 0 rfl (v := .ref (ad 1)) rfl dX9_put_28 ?_
    refine lv_iconst (v := 0) hx hb dX9_put_31 (by decide) ?_
    obtain ⟨v5, hv5, hf⟩ := ob hf
    obtain ⟨hv5a, hv5b⟩ := ldA_ok hv5
    refine a_ild hC hH.1 1 rfl hv5a hv5b dX9_put_32 ?_
    refine lv_iload_n hx hb dX9_put_33 rfl (lv_at hl 2 rfl) ?_
    obtain ⟨t6, ht6, hf⟩ := ob hf
    refine k_WVsv hC LX9_82 ⟨Nat.le_of_ble_eq_true rfl, Nat.le_of_ble_eq_true rfl⟩ ⟨Nat.zero_le _, Nat.zero_le _⟩ (cM_comes l E ad (x.1, x.2.1, t2.2.1, t2.2.2, x.2.2.2.2.1, t4.1, x.2.2.2.2.2.2.1, t4.2.1, t4.2.2.1, t4.2.2.2, x.2.2.2.2.2.2.2.2.2.2) v5 a1 t6 ht6) rfl rfl hH rfl rfl rfl hl.1 rfl (Nat.le_of_ble_eq_true rfl) rfl dX9_put_34 (fun H locs hz34 hH => ?_)
    have hH : Hp E (adr (wM E ad x)) (wM E ad (x.1, x.2.1, t2.2.1, t2.2.2, t6, t4.1, x.2.2.2.2.2.2.1, t4.2.1, t4.2.2.1, t4.2.2.2, x.2.2.2.2.2.2.2.2.2.2)) s.heap H locs := hH
    refine lv_aload_n hx hb dX9_put_37 rfl (lv_at hl 1 rfl) ?_
    refine gX9_7 hC hH.1 0 rfl (v := .ref (ad 1)) rfl dX9_put_38 ?_
    refine lv_iconst (v := 0) hx hb dX9_put_41 (by decide) ?_
    obtain ⟨v7, hv7, hf⟩ := ob hf
    obtain ⟨hv7a, hv7b⟩ := ldA_ok hv7
    refine a_ild hC hH.1 1 rfl hv7a hv7b dX9_put_42 ?_
    refine lv_iconst (v := 1) hx hb dX9_put_43 (by decide) ?_
    refine lv_isub hx hb dX9_put_44 ?_
    cases hf
    exact e_Wi hC hH hr hlocks rfl rfl dX9_put_45
  · have hf := ite_f hf c3
    refine lv_aload_n hx hb dX9_put_16 rfl (lv_at hl 1 rfl) ?_
    refine lv_iload_n hx hb dX9_put_17 rfl (lv_at hl 0 rfl) ?_
    obtain ⟨t8, ht8, hf⟩ := ob hf
    refine k_WVsi hC LX9_75 ⟨Nat.le_of_ble_eq_true rfl, Nat.le_of_ble_eq_true rfl⟩ ⟨Nat.zero_le _, Nat.zero_le _⟩ (cM_refuses l E ad (x.1, x.2.1, t2.2.1, t2.2.2, x.2.2.2.2) t2.1 t8 ht8) rfl rfl hH rfl rfl rfl hl.1 rfl (Nat.le_of_ble_eq_true rfl) rfl dX9_put_18 (fun H locs hz18 hH => ?_)
    have hH : Hp E (adr (wM E ad x)) (wM E ad (t8.2.1, t8.2.2, t2.2.1, t2.2.2, x.2.2.2.2)) s.heap H locs := hH
    cases hf
    exact e_Wi hC hH hr hlocks rfl rfl dX9_put_21
abbrev rmM_insert : Room := { frames := 3, cells := 0, slots := 0, locals := 64 }
set_option maxHeartbeats 4000000 in
set_option maxRecDepth 100000 in
theorem cM_insert (l : Launch) (E : eE) (ad : Nat → Nat) (x : TM) (a1 : Int32) (a2 : Int32) (t : Int32 × Int32 × Int32 × Int32 × Int32 × (Nat → Int32) × (Nat → Int32) × (Nat → Int32) × Int32 × Int32) (hf : fM_insert x.1 x.2.1 x.2.2.1 x.2.2.2.1 x.2.2.2.2.1 x.2.2.2.2.2.1 x.2.2.2.2.2.2.2.1 x.2.2.2.2.2.2.2.2.1 x.2.2.2.2.2.2.2.2.2.1 a1 a2 = some t) : cW l E yX9_insert cX9_insert 4 (some .int) rmM_insert [.ref (ad 0), .int a1, .int a2] (wM E ad x) (some (.int t.1)) (wM E ad (t.2.1, t.2.2.1, t.2.2.2.1, t.2.2.2.2.1, t.2.2.2.2.2.1, t.2.2.2.2.2.2.1, x.2.2.2.2.2.2.1, t.2.2.2.2.2.2.2.1, t.2.2.2.2.2.2.2.2.1, t.2.2.2.2.2.2.2.2.2, x.2.2.2.2.2.2.2.2.2.2)) := by
  refine Met.ofW (cc := cX9_insert) (maxL := 4) (ret := (some .int)) (by decide) rfl ?_
  intro p e s m args below meth c s₁ B hml hv
  obtain ⟨hargs, hP, hK, hD0⟩ := hv
  have hx := B.exec
  have hb := B.bytes
  have hr := B.returns
  have hts := atoms_spec (ws := ws_ yX9_insert cX9_insert 4 (some .int)) B.pre
  have hta : ∀ w ∈ lw_all, w.before args s = true := fun w h => hts w (List.mem_cons_of_mem _ h)
  have hown : s.vm.findClass RX9 = some m.cls := findClass_of_methodNamed B.named
  have hlocks := B.notSynchronized
  have hC : Cx p s m args c cX9_insert 4 RX9 E := ⟨hx, hb, hml, hown, hta, hK⟩
  have hH : Hp E (adr (wM E ad x)) (wM E ad x) s.heap s.heap [] := Hp.start hP hD0
  obtain ⟨ls, he, hl⟩ := entry_ (m := m) (n := 4) hargs (Nat.le_of_ble_eq_true rfl)
  rw [he]
  have hl : lv_has ls 4 [(0, .ref (ad 0)), (1, .int a1), (2, .int a2)] := hl
  show W p l e rmM_insert s m args below meth c s.heap [] 0 0 (MQ below (qW E (some .int) (some (.int t.1)) (wM E ad x) (wM E ad (t.2.1, t.2.2.1, t.2.2.2.1, t.2.2.2.2.1, t.2.2.2.2.2.1, t.2.2.2.2.2.2.1, x.2.2.2.2.2.2.1, t.2.2.2.2.2.2.2.1, t.2.2.2.2.2.2.2.2.1, t.2.2.2.2.2.2.2.2.2, x.2.2.2.2.2.2.2.2.2.2))) args s 0 0 (adr (wM E ad x))) (F0 m 0 ls [])
  suffices hmain : ∀ (H : Heap) (locs : List Loc), Hp E (adr (wM E ad x)) (wM E ad x) s.heap H locs → W p l e rmM_insert s m args below meth c H locs 0 0 (MQ below (qW E (some .int) (some (.int t.1)) (wM E ad x) (wM E ad (t.2.1, t.2.2.1, t.2.2.2.1, t.2.2.2.2.1, t.2.2.2.2.2.1, t.2.2.2.2.2.2.1, x.2.2.2.2.2.2.1, t.2.2.2.2.2.2.2.1, t.2.2.2.2.2.2.2.2.1, t.2.2.2.2.2.2.2.2.2, x.2.2.2.2.2.2.2.2.2.2))) args s 0 0 (adr (wM E ad x))) (F0 m 0 ls []) from hmain _ _ hH
  clear hH
  intro H locs hH
  rw [fM_insert] at hf
  refine lv_aload_n hx hb dX9_insert_0 rfl (lv_at hl 0 rfl) ?_
  refine lv_iload_n hx hb dX9_insert_1 rfl (lv_at hl 1 rfl) ?_
  refine lv_iload_n hx hb dX9_insert_2 rfl (lv_at hl 2 rfl) ?_
  obtain ⟨t1, ht1, hf⟩ := ob hf
  refine k_WVsi hC LX9_72 ⟨Nat.le_of_ble_eq_true rfl, Nat.le_of_ble_eq_true rfl⟩ ⟨Nat.zero_le _, Nat.zero_le _⟩ (cM_notInsert l E ad x a1 a2 t1 ht1) rfl rfl hH rfl rfl rfl hl.1 rfl (Nat.le_of_ble_eq_true rfl) rfl dX9_insert_3 (fun H locs hz3 hH => ?_)
  have hH : Hp E (adr (wM E ad x)) (wM E ad (x.1, x.2.1, t1.2.1, t1.2.2, x.2.2.2.2)) s.heap H locs := hH
  refine lv_istore_n (lv' := [(3, .int t1.1), (0, .ref (ad 0)), (1, .int a1), (2, .int a2)]) hx hb dX9_insert_6 rfl hl (by decide) rfl (fun ls hl => ?_)
  refine lv_iload_n hx hb dX9_insert_7 rfl (lv_at hl 0 rfl) ?_
  refine lv_if_eq (tgt := 17) hx hb dX9_insert_8 (by decide) (fun c2 => ?_) (fun c2 => ?_)
  · have hf := ite_t hf c2
    refine lv_aload_n hx hb dX9_insert_17 rfl (lv_at hl 1 rfl) ?_
    obtain ⟨t3, ht3, hf⟩ := ob hf
    refine k_WVsv hC LX9_79 ⟨Nat.le_of_ble_eq_true rfl, Nat.le_of_ble_eq_true rfl⟩ ⟨Nat.zero_le _, Nat.zero_le _⟩ (cM_remembers l E ad (x.1, x.2.1, t1.2.1, t1.2.2, x.2.2.2.2) t3 ht3) rfl rfl hH rfl rfl rfl hl.1 rfl (Nat.le_of_ble_eq_true rfl) rfl dX9_insert_18 (fun H locs hz18 hH => ?_)
    have hH : Hp E (adr (wM E ad x)) (wM E ad (x.1, x.2.1, t1.2.1, t1.2.2, x.2.2.2.2.1, t3.1, x.2.2.2.2.2.2.1, t3.2.1, t3.2.2.1, t3.2.2.2, x.2.2.2.2.2.2.2.2.2.2)) s.heap H locs := hH
    refine lv_aload_n hx hb dX9_insert_21 rfl (lv_at hl 1 rfl) ?_
    refine lv_iload_n hx hb dX9_insert_22 rfl (lv_at hl 2 rfl) ?_
    refine lv_iload_n hx hb dX9_insert_23 rfl (lv_at hl 3 rfl) ?_
    obtain ⟨t4, ht4, hf⟩ := ob hf
    refine k_WVsv hC LX9_82 ⟨Nat.le_of_ble_eq_true rfl, Nat.le_of_ble_eq_true rfl⟩ ⟨Nat.zero_le _, Nat.zero_le _⟩ (cM_comes l E ad (x.1, x.2.1, t1.2.1, t1.2.2, x.2.2.2.2.1, t3.1, x.2.2.2.2.2.2.1, t3.2.1, t3.2.2.1, t3.2.2.2, x.2.2.2.2.2.2.2.2.2.2) a1 a2 t4 ht4) rfl rfl hH rfl rfl rfl hl.1 rfl (Nat.le_of_ble_eq_true rfl) rfl dX9_insert_24 (fun H locs hz24 hH => ?_)
    have hH : Hp E (adr (wM E ad x)) (wM E ad (x.1, x.2.1, t1.2.1, t1.2.2, t4, t3.1, x.2.2.2.2.2.2.1, t3.2.1, t3.2.2.1, t3.2.2.2, x.2.2.2.2.2.2.2.2.2.2)) s.heap H locs := hH
    refine lv_aload_n hx hb dX9_insert_27 rfl (lv_at hl 1 rfl) ?_
    refine gX9_7 hC hH.1 0 rfl (v := .ref (ad 1)) rfl dX9_insert_28 ?_
    refine lv_iconst (v := 0) hx hb dX9_insert_31 (by decide) ?_
    obtain ⟨v5, hv5, hf⟩ := ob hf
    obtain ⟨hv5a, hv5b⟩ := ldA_ok hv5
    refine a_ild hC hH.1 1 rfl hv5a hv5b dX9_insert_32 ?_
    cases hf
    exact e_Wi hC hH hr hlocks rfl rfl dX9_insert_33
  · have hf := ite_f hf c2
    refine lv_aload_n hx hb dX9_insert_11 rfl (lv_at hl 1 rfl) ?_
    refine lv_iload_n hx hb dX9_insert_12 rfl (lv_at hl 0 rfl) ?_
    obtain ⟨t6, ht6, hf⟩ := ob hf
    refine k_WVsi hC LX9_75 ⟨Nat.le_of_ble_eq_true rfl, Nat.le_of_ble_eq_true rfl⟩ ⟨Nat.zero_le _, Nat.zero_le _⟩ (cM_refuses l E ad (x.1, x.2.1, t1.2.1, t1.2.2, x.2.2.2.2) t1.1 t6 ht6) rfl rfl hH rfl rfl rfl hl.1 rfl (Nat.le_of_ble_eq_true rfl) rfl dX9_insert_13 (fun H locs hz13 hH => ?_)
    have hH : Hp E (adr (wM E ad x)) (wM E ad (t6.2.1, t6.2.2, t1.2.1, t1.2.2, x.2.2.2.2)) s.heap H locs := hH
    cases hf
    exact e_Wi hC hH hr hlocks rfl rfl dX9_insert_16
abbrev rmM_goes : Room := { frames := 1, cells := 0, slots := 0, locals := 21 }
set_option maxHeartbeats 4000000 in
set_option maxRecDepth 100000 in
theorem cM_goes (l : Launch) (E : eE) (ad : Nat → Nat) (x : TM) (a1 : Int32) (t : Int32 × (Nat → Int32)) (hf : fM_goes x.2.2.2.2.1 a1 = some t) : cW l E yX9_goes cX9_goes 4 (some .int) rmM_goes [.ref (ad 0), .int a1] (wM E ad x) (some (.int t.1)) (wM E ad (x.1, x.2.1, x.2.2.1, x.2.2.2.1, t.2, x.2.2.2.2.2)) := by
  refine Met.ofW (cc := cX9_goes) (maxL := 4) (ret := (some .int)) (by decide) rfl ?_
  intro p e s m args below meth c s₁ B hml hv
  obtain ⟨hargs, hP, hK, hD0⟩ := hv
  have hx := B.exec
  have hb := B.bytes
  have hr := B.returns
  have hts := atoms_spec (ws := ws_ yX9_goes cX9_goes 4 (some .int)) B.pre
  have hta : ∀ w ∈ lw_all, w.before args s = true := fun w h => hts w (List.mem_cons_of_mem _ h)
  have hown : s.vm.findClass RX9 = some m.cls := findClass_of_methodNamed B.named
  have hlocks := B.notSynchronized
  have hC : Cx p s m args c cX9_goes 4 RX9 E := ⟨hx, hb, hml, hown, hta, hK⟩
  have hH : Hp E (adr (wM E ad x)) (wM E ad x) s.heap s.heap [] := Hp.start hP hD0
  obtain ⟨ls, he, hl⟩ := entry_ (m := m) (n := 4) hargs (Nat.le_of_ble_eq_true rfl)
  rw [he]
  have hl : lv_has ls 4 [(0, .ref (ad 0)), (1, .int a1)] := hl
  show W p l e rmM_goes s m args below meth c s.heap [] 0 0 (MQ below (qW E (some .int) (some (.int t.1)) (wM E ad x) (wM E ad (x.1, x.2.1, x.2.2.1, x.2.2.2.1, t.2, x.2.2.2.2.2))) args s 0 0 (adr (wM E ad x))) (F0 m 0 ls [])
  suffices hmain : ∀ (H : Heap) (locs : List Loc), Hp E (adr (wM E ad x)) (wM E ad x) s.heap H locs → W p l e rmM_goes s m args below meth c H locs 0 0 (MQ below (qW E (some .int) (some (.int t.1)) (wM E ad x) (wM E ad (x.1, x.2.1, x.2.2.1, x.2.2.2.1, t.2, x.2.2.2.2.2))) args s 0 0 (adr (wM E ad x))) (F0 m 0 ls []) from hmain _ _ hH
  clear hH
  have L28 : ∀ (n : Nat) (y0_4 : (Nat → Int32)) (a2 : Int32) (a3 : Int32) (ls : Array Slot), lv_has ls 4 [(0, .ref (ad 0)), (2, .int a2), (3, .int a3)] → ∀ (H : Heap) (locs : List Loc), Hp E (adr (wM E ad x)) (wM E ad (x.1, x.2.1, x.2.2.1, x.2.2.2.1, y0_4, x.2.2.2.2.2)) s.heap H locs → fM_goes_28 n y0_4 a2 a3 = some t → W p l e rmM_goes s m args below meth c H locs 0 0 (MQ below (qW E (some .int) (some (.int t.1)) (wM E ad x) (wM E ad (x.1, x.2.1, x.2.2.1, x.2.2.2.1, t.2, x.2.2.2.2.2))) args s 0 0 (adr (wM E ad x))) (F0 m 28 ls []) := by
    intro n
    induction n with
    | zero => intro y0_4 a2 a3 ls hl H locs hH hf; cases hf
    | succ n ih =>
      intro y0_4 a2 a3 ls hl H locs hH hf
      rw [fM_goes_28] at hf
      refine lv_iload_n hx hb dX9_goes_28 rfl (lv_at hl 2 rfl) ?_
      refine lv_aload_n hx hb dX9_goes_29 rfl (lv_at hl 0 rfl) ?_
      refine gX9_7 hC hH.1 0 rfl (v := .ref (ad 1)) rfl dX9_goes_30 ?_
      refine lv_iconst (v := 0) hx hb dX9_goes_33 (by decide) ?_
      obtain ⟨v6, hv6, hf⟩ := ob hf
      obtain ⟨hv6a, hv6b⟩ := ldA_ok hv6
      refine a_ild hC hH.1 1 rfl hv6a hv6b dX9_goes_34 ?_
      refine lv_icmp_ge (tgt := 62) hx hb dX9_goes_35 (by decide) (fun c7 => ?_) (fun c7 => ?_)
      · have hf := ite_t hf c7
        refine lv_aload_n hx hb dX9_goes_62 rfl (lv_at hl 0 rfl) ?_
        refine gX9_7 hC hH.1 0 rfl (v := .ref (ad 1)) rfl dX9_goes_63 ?_
        refine lv_iconst (v := 4) hx hb dX9_goes_66 (by decide) ?_
        refine lv_aload_n hx hb dX9_goes_67 rfl (lv_at hl 0 rfl) ?_
        refine gX9_7 hC hH.1 0 rfl (v := .ref (ad 1)) rfl dX9_goes_68 ?_
        refine lv_iconst (v := 0) hx hb dX9_goes_71 (by decide) ?_
        obtain ⟨v8, hv8, hf⟩ := ob hf
        obtain ⟨hv8a, hv8b⟩ := ldA_ok hv8
        refine a_ild hC hH.1 1 rfl hv8a hv8b dX9_goes_72 ?_
        refine lv_iadd hx hb dX9_goes_73 ?_
        refine lv_iconst (v := 0) hx hb dX9_goes_74 (by decide) ?_
        obtain ⟨g9, hg9, hf⟩ := ob hf
        obtain ⟨hg9a, hg9b⟩ := stA_ok hg9
        refine a_ist hC hH 1 rfl hg9a hg9b (W1 := wM E ad (x.1, x.2.1, x.2.2.1, x.2.2.2.1, g9, x.2.2.2.2.2)) rfl dX9_goes_75 (fun H locs hH => ?_)
        refine lv_iload_n hx hb dX9_goes_76 rfl (lv_at hl 1 rfl) ?_
        cases hf
        exact e_Wi hC hH hr hlocks rfl rfl dX9_goes_77
      · have hf := ite_f hf c7
        refine lv_aload_n hx hb dX9_goes_38 rfl (lv_at hl 0 rfl) ?_
        refine gX9_7 hC hH.1 0 rfl (v := .ref (ad 1)) rfl dX9_goes_39 ?_
        refine lv_iconst (v := 4) hx hb dX9_goes_42 (by decide) ?_
        refine lv_iload_n hx hb dX9_goes_43 rfl (lv_at hl 2 rfl) ?_
        refine lv_iadd hx hb dX9_goes_44 ?_
        refine lv_aload_n hx hb dX9_goes_45 rfl (lv_at hl 0 rfl) ?_
        refine gX9_7 hC hH.1 0 rfl (v := .ref (ad 1)) rfl dX9_goes_46 ?_
        refine lv_iconst (v := 4) hx hb dX9_goes_49 (by decide) ?_
        refine lv_iload_n hx hb dX9_goes_50 rfl (lv_at hl 2 rfl) ?_
        refine lv_iadd hx hb dX9_goes_51 ?_
        refine lv_iconst (v := 1) hx hb dX9_goes_52 (by decide) ?_
        refine lv_iadd hx hb dX9_goes_53 ?_
        obtain ⟨v10, hv10, hf⟩ := ob hf
        obtain ⟨hv10a, hv10b⟩ := ldA_ok hv10
        refine a_ild hC hH.1 1 rfl hv10a hv10b dX9_goes_54 ?_
        obtain ⟨g11, hg11, hf⟩ := ob hf
        obtain ⟨hg11a, hg11b⟩ := stA_ok hg11
        refine a_ist hC hH 1 rfl hg11a hg11b (W1 := wM E ad (x.1, x.2.1, x.2.2.1, x.2.2.2.1, g11, x.2.2.2.2.2)) rfl dX9_goes_55 (fun H locs hH => ?_)
        refine lv_iinc (v := (a3 + (1 : Int32))) (lv' := [(3, .int (a3 + (1 : Int32))), (0, .ref (ad 0)), (2, .int a2)]) hx hb dX9_goes_56 hl (k := 2) rfl rfl (by decide) rfl (fun ls hl => ?_)
        refine lv_goto (tgt := 28) hx hb dX9_goes_59 (by decide) ?_
        exact ih g11 a2 (a3 + (1 : Int32)) ls (lv_sub hl [1, 2, 0] rfl) _ _ hH hf
  intro H locs hH
  rw [fM_goes] at hf
  refine lv_aload_n hx hb dX9_goes_0 rfl (lv_at hl 0 rfl) ?_
  refine lv_iload_n hx hb dX9_goes_1 rfl (lv_at hl 1 rfl) ?_
  obtain ⟨t1, ht1, hf⟩ := ob hf
  refine k_PVi hC LX9_86 ⟨Nat.le_of_ble_eq_true rfl, Nat.le_of_ble_eq_true rfl⟩ ⟨Nat.zero_le _, Nat.zero_le _⟩ (cM_is l E ad x a1 t1 ht1) rfl rfl hH.1 rfl rfl hl.1 rfl (Nat.le_of_ble_eq_true rfl) rfl dX9_goes_2 (fun hz2 => ?_)
  refine lv_istore_n (lv' := [(2, .int t1), (0, .ref (ad 0)), (1, .int a1)]) hx hb dX9_goes_5 rfl hl (by decide) rfl (fun ls hl => ?_)
  refine lv_aload_n hx hb dX9_goes_6 rfl (lv_at hl 1 rfl) ?_
  refine gX9_7 hC hH.1 0 rfl (v := .ref (ad 1)) rfl dX9_goes_7 ?_
  refine lv_iconst (v := 0) hx hb dX9_goes_10 (by decide) ?_
  refine lv_dup2_11 hx hb dX9_goes_11 rfl rfl ?_
  obtain ⟨v2, hv2, hf⟩ := ob hf
  obtain ⟨hv2a, hv2b⟩ := ldA_ok hv2
  refine a_ild hC hH.1 1 rfl hv2a hv2b dX9_goes_12 ?_
  refine lv_iconst (v := 1) hx hb dX9_goes_13 (by decide) ?_
  refine lv_isub hx hb dX9_goes_14 ?_
  obtain ⟨g3, hg3, hf⟩ := ob hf
  obtain ⟨hg3a, hg3b⟩ := stA_ok hg3
  refine a_ist hC hH 1 rfl hg3a hg3b (W1 := wM E ad (x.1, x.2.1, x.2.2.1, x.2.2.2.1, g3, x.2.2.2.2.2)) rfl dX9_goes_15 (fun H locs hH => ?_)
  refine lv_aload_n hx hb dX9_goes_16 rfl (lv_at hl 1 rfl) ?_
  refine gX9_7 hC hH.1 0 rfl (v := .ref (ad 1)) rfl dX9_goes_17 ?_
  refine lv_iconst (v := 2) hx hb dX9_goes_20 (by decide) ?_
  refine lv_dup2_11 hx hb dX9_goes_21 rfl rfl ?_
  obtain ⟨v4, hv4, hf⟩ := ob hf
  obtain ⟨hv4a, hv4b⟩ := ldA_ok hv4
  refine a_ild hC hH.1 1 rfl hv4a hv4b dX9_goes_22 ?_
  refine lv_iconst (v := 1) hx hb dX9_goes_23 (by decide) ?_
  refine lv_iadd hx hb dX9_goes_24 ?_
  obtain ⟨g5, hg5, hf⟩ := ob hf
  obtain ⟨hg5a, hg5b⟩ := stA_ok hg5
  refine a_ist hC hH 1 rfl hg5a hg5b (W1 := wM E ad (x.1, x.2.1, x.2.2.1, x.2.2.2.1, g5, x.2.2.2.2.2)) rfl dX9_goes_25 (fun H locs hH => ?_)
  refine lv_iload_n hx hb dX9_goes_26 rfl (lv_at hl 2 rfl) ?_
  refine lv_istore_n (lv' := [(3, .int a1), (2, .int t1), (0, .ref (ad 0)), (1, .int a1)]) hx hb dX9_goes_27 rfl hl (by decide) rfl (fun ls hl => ?_)
  exact L28 FU g5 t1 a1 ls (lv_sub hl [2, 1, 0] rfl) _ _ hH hf
abbrev rmM_take : Room := { frames := 2, cells := 0, slots := 0, locals := 44 }
set_option maxHeartbeats 4000000 in
set_option maxRecDepth 100000 in
theorem cM_take (l : Launch) (E : eE) (ad : Nat → Nat) (x : TM) (a1 : Int32) (t : Int32 × (Nat → Int32) × (Nat → Int32) × (Nat → Int32) × Int32 × Int32) (hf : fM_take x.2.2.2.2.1 x.2.2.2.2.2.1 x.2.2.2.2.2.2.2.1 x.2.2.2.2.2.2.2.2.1 x.2.2.2.2.2.2.2.2.2.1 a1 = some t) : cW l E yX9_take cX9_take 2 (some .int) rmM_take [.ref (ad 0), .int a1] (wM E ad x) (some (.int t.1)) (wM E ad (x.1, x.2.1, x.2.2.1, x.2.2.2.1, t.2.1, t.2.2.1, x.2.2.2.2.2.2.1, t.2.2.2.1, t.2.2.2.2.1, t.2.2.2.2.2, x.2.2.2.2.2.2.2.2.2.2)) := by
  refine Met.ofW (cc := cX9_take) (maxL := 2) (ret := (some .int)) (by decide) rfl ?_
  intro p e s m args below meth c s₁ B hml hv
  obtain ⟨hargs, hP, hK, hD0⟩ := hv
  have hx := B.exec
  have hb := B.bytes
  have hr := B.returns
  have hts := atoms_spec (ws := ws_ yX9_take cX9_take 2 (some .int)) B.pre
  have hta : ∀ w ∈ lw_all, w.before args s = true := fun w h => hts w (List.mem_cons_of_mem _ h)
  have hown : s.vm.findClass RX9 = some m.cls := findClass_of_methodNamed B.named
  have hlocks := B.notSynchronized
  have hC : Cx p s m args c cX9_take 2 RX9 E := ⟨hx, hb, hml, hown, hta, hK⟩
  have hH : Hp E (adr (wM E ad x)) (wM E ad x) s.heap s.heap [] := Hp.start hP hD0
  obtain ⟨ls, he, hl⟩ := entry_ (m := m) (n := 2) hargs (Nat.le_of_ble_eq_true rfl)
  rw [he]
  have hl : lv_has ls 2 [(0, .ref (ad 0)), (1, .int a1)] := hl
  show W p l e rmM_take s m args below meth c s.heap [] 0 0 (MQ below (qW E (some .int) (some (.int t.1)) (wM E ad x) (wM E ad (x.1, x.2.1, x.2.2.1, x.2.2.2.1, t.2.1, t.2.2.1, x.2.2.2.2.2.2.1, t.2.2.2.1, t.2.2.2.2.1, t.2.2.2.2.2, x.2.2.2.2.2.2.2.2.2.2))) args s 0 0 (adr (wM E ad x))) (F0 m 0 ls [])
  suffices hmain : ∀ (H : Heap) (locs : List Loc), Hp E (adr (wM E ad x)) (wM E ad x) s.heap H locs → W p l e rmM_take s m args below meth c H locs 0 0 (MQ below (qW E (some .int) (some (.int t.1)) (wM E ad x) (wM E ad (x.1, x.2.1, x.2.2.1, x.2.2.2.1, t.2.1, t.2.2.1, x.2.2.2.2.2.2.1, t.2.2.2.1, t.2.2.2.2.1, t.2.2.2.2.2, x.2.2.2.2.2.2.2.2.2.2))) args s 0 0 (adr (wM E ad x))) (F0 m 0 ls []) from hmain _ _ hH
  clear hH
  intro H locs hH
  rw [fM_take] at hf
  refine lv_aload_n hx hb dX9_take_0 rfl (lv_at hl 0 rfl) ?_
  refine lv_iload_n hx hb dX9_take_1 rfl (lv_at hl 1 rfl) ?_
  obtain ⟨t1, ht1, hf⟩ := ob hf
  refine k_PVi hC LX9_89 ⟨Nat.le_of_ble_eq_true rfl, Nat.le_of_ble_eq_true rfl⟩ ⟨Nat.zero_le _, Nat.zero_le _⟩ (cM_isLetter l E ad x a1 t1 ht1) rfl rfl hH.1 rfl rfl hl.1 rfl (Nat.le_of_ble_eq_true rfl) rfl dX9_take_2 (fun hz2 => ?_)
  refine lv_if_ne (tgt := 11) hx hb dX9_take_5 (by decide) (fun c2 => ?_) (fun c2 => ?_)
  · have hf := ite_f hf c2
    refine lv_aload_n hx hb dX9_take_11 rfl (lv_at hl 0 rfl) ?_
    obtain ⟨t3, ht3, hf⟩ := ob hf
    refine k_WVsv hC LX9_79 ⟨Nat.le_of_ble_eq_true rfl, Nat.le_of_ble_eq_true rfl⟩ ⟨Nat.zero_le _, Nat.zero_le _⟩ (cM_remembers l E ad x t3 ht3) rfl rfl hH rfl rfl rfl hl.1 rfl (Nat.le_of_ble_eq_true rfl) rfl dX9_take_12 (fun H locs hz12 hH => ?_)
    have hH : Hp E (adr (wM E ad x)) (wM E ad (x.1, x.2.1, x.2.2.1, x.2.2.2.1, x.2.2.2.2.1, t3.1, x.2.2.2.2.2.2.1, t3.2.1, t3.2.2.1, t3.2.2.2, x.2.2.2.2.2.2.2.2.2.2)) s.heap H locs := hH
    refine lv_aload_n hx hb dX9_take_15 rfl (lv_at hl 0 rfl) ?_
    refine lv_iload_n hx hb dX9_take_16 rfl (lv_at hl 1 rfl) ?_
    obtain ⟨t4, ht4, hf⟩ := ob hf
    refine k_WVsi hC LX9_92 ⟨Nat.le_of_ble_eq_true rfl, Nat.le_of_ble_eq_true rfl⟩ ⟨Nat.zero_le _, Nat.zero_le _⟩ (cM_goes l E ad (x.1, x.2.1, x.2.2.1, x.2.2.2.1, x.2.2.2.2.1, t3.1, x.2.2.2.2.2.2.1, t3.2.1, t3.2.2.1, t3.2.2.2, x.2.2.2.2.2.2.2.2.2.2) a1 t4 ht4) rfl rfl hH rfl rfl rfl hl.1 rfl (Nat.le_of_ble_eq_true rfl) rfl dX9_take_17 (fun H locs hz17 hH => ?_)
    have hH : Hp E (adr (wM E ad x)) (wM E ad (x.1, x.2.1, x.2.2.1, x.2.2.2.1, t4.2, t3.1, x.2.2.2.2.2.2.1, t3.2.1, t3.2.2.1, t3.2.2.2, x.2.2.2.2.2.2.2.2.2.2)) s.heap H locs := hH
    cases hf
    exact e_Wi hC hH hr hlocks rfl rfl dX9_take_20
  · have hf := ite_t hf c2
    refine lv_bipush (v := (-11)) hx hb dX9_take_8 (by decide) ?_
    cases hf
    exact e_Wi hC hH hr hlocks rfl rfl dX9_take_10
abbrev rmM_notSwap : Room := { frames := 2, cells := 0, slots := 0, locals := 43 }
set_option maxHeartbeats 4000000 in
set_option maxRecDepth 100000 in
theorem cM_notSwap (l : Launch) (E : eE) (ad : Nat → Nat) (x : TM) (a1 : Int32) (t : Int32 × Int32 × Int32) (hf : fM_notSwap x.2.2.1 x.2.2.2.1 x.2.2.2.2.1 a1 = some t) : cW l E yX9_notSwap cX9_notSwap 2 (some .int) rmM_notSwap [.ref (ad 0), .int a1] (wM E ad x) (some (.int t.1)) (wM E ad (x.1, x.2.1, t.2.1, t.2.2, x.2.2.2.2)) := by
  refine Met.ofW (cc := cX9_notSwap) (maxL := 2) (ret := (some .int)) (by decide) rfl ?_
  intro p e s m args below meth c s₁ B hml hv
  obtain ⟨hargs, hP, hK, hD0⟩ := hv
  have hx := B.exec
  have hb := B.bytes
  have hr := B.returns
  have hts := atoms_spec (ws := ws_ yX9_notSwap cX9_notSwap 2 (some .int)) B.pre
  have hta : ∀ w ∈ lw_all, w.before args s = true := fun w h => hts w (List.mem_cons_of_mem _ h)
  have hown : s.vm.findClass RX9 = some m.cls := findClass_of_methodNamed B.named
  have hlocks := B.notSynchronized
  have hC : Cx p s m args c cX9_notSwap 2 RX9 E := ⟨hx, hb, hml, hown, hta, hK⟩
  have hH : Hp E (adr (wM E ad x)) (wM E ad x) s.heap s.heap [] := Hp.start hP hD0
  obtain ⟨ls, he, hl⟩ := entry_ (m := m) (n := 2) hargs (Nat.le_of_ble_eq_true rfl)
  rw [he]
  have hl : lv_has ls 2 [(0, .ref (ad 0)), (1, .int a1)] := hl
  show W p l e rmM_notSwap s m args below meth c s.heap [] 0 0 (MQ below (qW E (some .int) (some (.int t.1)) (wM E ad x) (wM E ad (x.1, x.2.1, t.2.1, t.2.2, x.2.2.2.2))) args s 0 0 (adr (wM E ad x))) (F0 m 0 ls [])
  suffices hmain : ∀ (H : Heap) (locs : List Loc), Hp E (adr (wM E ad x)) (wM E ad x) s.heap H locs → W p l e rmM_notSwap s m args below meth c H locs 0 0 (MQ below (qW E (some .int) (some (.int t.1)) (wM E ad x) (wM E ad (x.1, x.2.1, t.2.1, t.2.2, x.2.2.2.2))) args s 0 0 (adr (wM E ad x))) (F0 m 0 ls []) from hmain _ _ hH
  clear hH
  intro H locs hH
  rw [fM_notSwap] at hf
  refine lv_aload_n hx hb dX9_notSwap_0 rfl (lv_at hl 0 rfl) ?_
  refine lv_iload_n hx hb dX9_notSwap_1 rfl (lv_at hl 1 rfl) ?_
  obtain ⟨t1, ht1, hf⟩ := ob hf
  refine k_PVi hC LX9_89 ⟨Nat.le_of_ble_eq_true rfl, Nat.le_of_ble_eq_true rfl⟩ ⟨Nat.zero_le _, Nat.zero_le _⟩ (cM_isLetter l E ad x a1 t1 ht1) rfl rfl hH.1 rfl rfl hl.1 rfl (Nat.le_of_ble_eq_true rfl) rfl dX9_notSwap_2 (fun hz2 => ?_)
  refine lv_if_eq (tgt := 18) hx hb dX9_notSwap_5 (by decide) (fun c2 => ?_) (fun c2 => ?_)
  · have hf := ite_t hf c2
    refine lv_bipush (v := (-11)) hx hb dX9_notSwap_18 (by decide) ?_
    cases hf
    exact e_Wi hC hH hr hlocks rfl rfl dX9_notSwap_20
  · have hf := ite_f hf c2
    refine lv_aload_n hx hb dX9_notSwap_8 rfl (lv_at hl 0 rfl) ?_
    refine lv_iload_n hx hb dX9_notSwap_9 rfl (lv_at hl 1 rfl) ?_
    refine lv_iconst (v := 1) hx hb dX9_notSwap_10 (by decide) ?_
    refine lv_iadd hx hb dX9_notSwap_11 ?_
    obtain ⟨t3, ht3, hf⟩ := ob hf
    refine k_PVi hC LX9_89 ⟨Nat.le_of_ble_eq_true rfl, Nat.le_of_ble_eq_true rfl⟩ ⟨Nat.zero_le _, Nat.zero_le _⟩ (cM_isLetter l E ad x (a1 + (1 : Int32)) t3 ht3) rfl rfl hH.1 rfl rfl hl.1 rfl (Nat.le_of_ble_eq_true rfl) rfl dX9_notSwap_12 (fun hz12 => ?_)
    refine lv_if_ne (tgt := 21) hx hb dX9_notSwap_15 (by decide) (fun c4 => ?_) (fun c4 => ?_)
    · have hf := ite_f hf c4
      refine lv_aload_n hx hb dX9_notSwap_21 rfl (lv_at hl 0 rfl) ?_
      refine lv_iload_n hx hb dX9_notSwap_22 rfl (lv_at hl 1 rfl) ?_
      obtain ⟨t5, ht5, hf⟩ := ob hf
      refine k_PVi hC LX9_86 ⟨Nat.le_of_ble_eq_true rfl, Nat.le_of_ble_eq_true rfl⟩ ⟨Nat.zero_le _, Nat.zero_le _⟩ (cM_is l E ad x a1 t5 ht5) rfl rfl hH.1 rfl rfl hl.1 rfl (Nat.le_of_ble_eq_true rfl) rfl dX9_notSwap_23 (fun hz23 => ?_)
      refine lv_aload_n hx hb dX9_notSwap_26 rfl (lv_at hl 0 rfl) ?_
      refine lv_iload_n hx hb dX9_notSwap_27 rfl (lv_at hl 1 rfl) ?_
      refine lv_iconst (v := 1) hx hb dX9_notSwap_28 (by decide) ?_
      refine lv_iadd hx hb dX9_notSwap_29 ?_
      obtain ⟨t6, ht6, hf⟩ := ob hf
      refine k_PVi hC LX9_86 ⟨Nat.le_of_ble_eq_true rfl, Nat.le_of_ble_eq_true rfl⟩ ⟨Nat.zero_le _, Nat.zero_le _⟩ (cM_is l E ad x (a1 + (1 : Int32)) t6 ht6) rfl rfl hH.1 rfl rfl hl.1 rfl (Nat.le_of_ble_eq_true rfl) rfl dX9_notSwap_30 (fun hz30 => ?_)
      refine lv_icmp_ne (tgt := 49) hx hb dX9_notSwap_33 (by decide) (fun c7 => ?_) (fun c7 => ?_)
      · have hf := ite_f hf c7
        refine lv_iconst (v := 0) hx hb dX9_notSwap_49 (by decide) ?_
        cases hf
        exact e_Wi hC hH hr hlocks rfl rfl dX9_notSwap_50
      · have hf := ite_t hf c7
        refine lv_aload_n hx hb dX9_notSwap_36 rfl (lv_at hl 0 rfl) ?_
        refine lv_iconst (v := 2) hx hb dX9_notSwap_37 (by decide) ?_
        refine lv_aload_n hx hb dX9_notSwap_38 rfl (lv_at hl 0 rfl) ?_
        refine lv_iload_n hx hb dX9_notSwap_39 rfl (lv_at hl 1 rfl) ?_
        obtain ⟨t8, ht8, hf⟩ := ob hf
        refine k_PVi hC LX9_86 ⟨Nat.le_of_ble_eq_true rfl, Nat.le_of_ble_eq_true rfl⟩ ⟨Nat.zero_le _, Nat.zero_le _⟩ (cM_is l E ad x a1 t8 ht8) rfl rfl hH.1 rfl rfl hl.1 rfl (Nat.le_of_ble_eq_true rfl) rfl dX9_notSwap_40 (fun hz40 => ?_)
        obtain ⟨t9, ht9, hf⟩ := ob hf
        refine k_WVsi hC LX9_68 ⟨Nat.le_of_ble_eq_true rfl, Nat.le_of_ble_eq_true rfl⟩ ⟨Nat.zero_le _, Nat.zero_le _⟩ (cM_isNot l E ad x (2 : Int32) t8 t9 ht9) rfl rfl hH rfl rfl rfl hl.1 rfl (Nat.le_of_ble_eq_true rfl) rfl dX9_notSwap_43 (fun H locs hz43 hH => ?_)
        have hH : Hp E (adr (wM E ad x)) (wM E ad (x.1, x.2.1, t9.2.1, t9.2.2, x.2.2.2.2)) s.heap H locs := hH
        refine lv_goto (tgt := 50) hx hb dX9_notSwap_46 (by decide) ?_
        cases hf
        exact e_Wi hC hH hr hlocks rfl rfl dX9_notSwap_50
    · have hf := ite_t hf c4
      refine lv_bipush (v := (-11)) hx hb dX9_notSwap_18 (by decide) ?_
      cases hf
      exact e_Wi hC hH hr hlocks rfl rfl dX9_notSwap_20
abbrev rmM_swaps : Room := { frames := 1, cells := 0, slots := 0, locals := 21 }
set_option maxHeartbeats 4000000 in
set_option maxRecDepth 100000 in
theorem cM_swaps (l : Launch) (E : eE) (ad : Nat → Nat) (x : TM) (a1 : Int32) (t : Int32 × (Nat → Int32)) (hf : fM_swaps x.2.2.2.2.1 a1 = some t) : cW l E yX9_swaps cX9_swaps 3 (some .int) rmM_swaps [.ref (ad 0), .int a1] (wM E ad x) (some (.int t.1)) (wM E ad (x.1, x.2.1, x.2.2.1, x.2.2.2.1, t.2, x.2.2.2.2.2)) := by
  refine Met.ofW (cc := cX9_swaps) (maxL := 3) (ret := (some .int)) (by decide) rfl ?_
  intro p e s m args below meth c s₁ B hml hv
  obtain ⟨hargs, hP, hK, hD0⟩ := hv
  have hx := B.exec
  have hb := B.bytes
  have hr := B.returns
  have hts := atoms_spec (ws := ws_ yX9_swaps cX9_swaps 3 (some .int)) B.pre
  have hta : ∀ w ∈ lw_all, w.before args s = true := fun w h => hts w (List.mem_cons_of_mem _ h)
  have hown : s.vm.findClass RX9 = some m.cls := findClass_of_methodNamed B.named
  have hlocks := B.notSynchronized
  have hC : Cx p s m args c cX9_swaps 3 RX9 E := ⟨hx, hb, hml, hown, hta, hK⟩
  have hH : Hp E (adr (wM E ad x)) (wM E ad x) s.heap s.heap [] := Hp.start hP hD0
  obtain ⟨ls, he, hl⟩ := entry_ (m := m) (n := 3) hargs (Nat.le_of_ble_eq_true rfl)
  rw [he]
  have hl : lv_has ls 3 [(0, .ref (ad 0)), (1, .int a1)] := hl
  show W p l e rmM_swaps s m args below meth c s.heap [] 0 0 (MQ below (qW E (some .int) (some (.int t.1)) (wM E ad x) (wM E ad (x.1, x.2.1, x.2.2.1, x.2.2.2.1, t.2, x.2.2.2.2.2))) args s 0 0 (adr (wM E ad x))) (F0 m 0 ls [])
  suffices hmain : ∀ (H : Heap) (locs : List Loc), Hp E (adr (wM E ad x)) (wM E ad x) s.heap H locs → W p l e rmM_swaps s m args below meth c H locs 0 0 (MQ below (qW E (some .int) (some (.int t.1)) (wM E ad x) (wM E ad (x.1, x.2.1, x.2.2.1, x.2.2.2.1, t.2, x.2.2.2.2.2))) args s 0 0 (adr (wM E ad x))) (F0 m 0 ls []) from hmain _ _ hH
  clear hH
  intro H locs hH
  rw [fM_swaps] at hf
  refine lv_aload_n hx hb dX9_swaps_0 rfl (lv_at hl 0 rfl) ?_
  refine lv_iload_n hx hb dX9_swaps_1 rfl (lv_at hl 1 rfl) ?_
  obtain ⟨t1, ht1, hf⟩ := ob hf
  refine k_PVi hC LX9_86 ⟨Nat.le_of_ble_eq_true rfl, Nat.le_of_ble_eq_true rfl⟩ ⟨Nat.zero_le _, Nat.zero_le _⟩ (cM_is l E ad x a1 t1 ht1) rfl rfl hH.1 rfl rfl hl.1 rfl (Nat.le_of_ble_eq_true rfl) rfl dX9_swaps_2 (fun hz2 => ?_)
  refine lv_istore_n (lv' := [(2, .int t1), (0, .ref (ad 0)), (1, .int a1)]) hx hb dX9_swaps_5 rfl hl (by decide) rfl (fun ls hl => ?_)
  refine lv_aload_n hx hb dX9_swaps_6 rfl (lv_at hl 1 rfl) ?_
  refine gX9_7 hC hH.1 0 rfl (v := .ref (ad 1)) rfl dX9_swaps_7 ?_
  refine lv_iconst (v := 4) hx hb dX9_swaps_10 (by decide) ?_
  refine lv_iload_n hx hb dX9_swaps_11 rfl (lv_at hl 2 rfl) ?_
  refine lv_iadd hx hb dX9_swaps_12 ?_
  refine lv_aload_n hx hb dX9_swaps_13 rfl (lv_at hl 1 rfl) ?_
  refine lv_iload_n hx hb dX9_swaps_14 rfl (lv_at hl 2 rfl) ?_
  refine lv_iconst (v := 1) hx hb dX9_swaps_15 (by decide) ?_
  refine lv_iadd hx hb dX9_swaps_16 ?_
  obtain ⟨t2, ht2, hf⟩ := ob hf
  refine k_PVi hC LX9_86 ⟨Nat.le_of_ble_eq_true rfl, Nat.le_of_ble_eq_true rfl⟩ ⟨Nat.zero_le _, Nat.zero_le _⟩ (cM_is l E ad x (a1 + (1 : Int32)) t2 ht2) rfl rfl hH.1 rfl rfl hl.1 rfl (Nat.le_of_ble_eq_true rfl) rfl dX9_swaps_17 (fun hz17 => ?_)
  obtain ⟨g3, hg3, hf⟩ := ob hf
  obtain ⟨hg3a, hg3b⟩ := stA_ok hg3
  refine a_ist hC hH 1 rfl hg3a hg3b (W1 := wM E ad (x.1, x.2.1, x.2.2.1, x.2.2.2.1, g3, x.2.2.2.2.2)) rfl dX9_swaps_20 (fun H locs hH => ?_)
  refine lv_aload_n hx hb dX9_swaps_21 rfl (lv_at hl 1 rfl) ?_
  refine gX9_7 hC hH.1 0 rfl (v := .ref (ad 1)) rfl dX9_swaps_22 ?_
  refine lv_iconst (v := 4) hx hb dX9_swaps_25 (by decide) ?_
  refine lv_iload_n hx hb dX9_swaps_26 rfl (lv_at hl 2 rfl) ?_
  refine lv_iadd hx hb dX9_swaps_27 ?_
  refine lv_iconst (v := 1) hx hb dX9_swaps_28 (by decide) ?_
  refine lv_iadd hx hb dX9_swaps_29 ?_
  refine lv_iload_n hx hb dX9_swaps_30 rfl (lv_at hl 0 rfl) ?_
  obtain ⟨g4, hg4, hf⟩ := ob hf
  obtain ⟨hg4a, hg4b⟩ := stA_ok hg4
  refine a_ist hC hH 1 rfl hg4a hg4b (W1 := wM E ad (x.1, x.2.1, x.2.2.1, x.2.2.2.1, g4, x.2.2.2.2.2)) rfl dX9_swaps_31 (fun H locs hH => ?_)
  refine lv_aload_n hx hb dX9_swaps_32 rfl (lv_at hl 1 rfl) ?_
  refine gX9_7 hC hH.1 0 rfl (v := .ref (ad 1)) rfl dX9_swaps_33 ?_
  refine lv_iconst (v := 3) hx hb dX9_swaps_36 (by decide) ?_
  refine lv_dup2_11 hx hb dX9_swaps_37 rfl rfl ?_
  obtain ⟨v5, hv5, hf⟩ := ob hf
  obtain ⟨hv5a, hv5b⟩ := ldA_ok hv5
  refine a_ild hC hH.1 1 rfl hv5a hv5b dX9_swaps_38 ?_
  refine lv_iconst (v := 1) hx hb dX9_swaps_39 (by decide) ?_
  refine lv_iadd hx hb dX9_swaps_40 ?_
  obtain ⟨g6, hg6, hf⟩ := ob hf
  obtain ⟨hg6a, hg6b⟩ := stA_ok hg6
  refine a_ist hC hH 1 rfl hg6a hg6b (W1 := wM E ad (x.1, x.2.1, x.2.2.1, x.2.2.2.1, g6, x.2.2.2.2.2)) rfl dX9_swaps_41 (fun H locs hH => ?_)
  refine lv_aload_n hx hb dX9_swaps_42 rfl (lv_at hl 1 rfl) ?_
  refine lv_iload_n hx hb dX9_swaps_43 rfl (lv_at hl 2 rfl) ?_
  obtain ⟨t7, ht7, hf⟩ := ob hf
  refine k_PVi hC LX9_86 ⟨Nat.le_of_ble_eq_true rfl, Nat.le_of_ble_eq_true rfl⟩ ⟨Nat.zero_le _, Nat.zero_le _⟩ (cM_is l E ad (x.1, x.2.1, x.2.2.1, x.2.2.2.1, g6, x.2.2.2.2.2) a1 t7 ht7) rfl rfl hH.1 rfl rfl hl.1 rfl (Nat.le_of_ble_eq_true rfl) rfl dX9_swaps_44 (fun hz44 => ?_)
  cases hf
  exact e_Wi hC hH hr hlocks rfl rfl dX9_swaps_47
abbrev rmM_swap : Room := { frames := 3, cells := 0, slots := 0, locals := 64 }
set_option maxHeartbeats 4000000 in
set_option maxRecDepth 100000 in
theorem cM_swap (l : Launch) (E : eE) (ad : Nat → Nat) (x : TM) (a1 : Int32) (t : Int32 × Int32 × Int32 × Int32 × Int32 × (Nat → Int32) × (Nat → Int32) × (Nat → Int32) × Int32 × Int32) (hf : fM_swap x.1 x.2.1 x.2.2.1 x.2.2.2.1 x.2.2.2.2.1 x.2.2.2.2.2.1 x.2.2.2.2.2.2.2.1 x.2.2.2.2.2.2.2.2.1 x.2.2.2.2.2.2.2.2.2.1 a1 = some t) : cW l E yX9_swap cX9_swap 3 (some .int) rmM_swap [.ref (ad 0), .int a1] (wM E ad x) (some (.int t.1)) (wM E ad (t.2.1, t.2.2.1, t.2.2.2.1, t.2.2.2.2.1, t.2.2.2.2.2.1, t.2.2.2.2.2.2.1, x.2.2.2.2.2.2.1, t.2.2.2.2.2.2.2.1, t.2.2.2.2.2.2.2.2.1, t.2.2.2.2.2.2.2.2.2, x.2.2.2.2.2.2.2.2.2.2)) := by
  refine Met.ofW (cc := cX9_swap) (maxL := 3) (ret := (some .int)) (by decide) rfl ?_
  intro p e s m args below meth c s₁ B hml hv
  obtain ⟨hargs, hP, hK, hD0⟩ := hv
  have hx := B.exec
  have hb := B.bytes
  have hr := B.returns
  have hts := atoms_spec (ws := ws_ yX9_swap cX9_swap 3 (some .int)) B.pre
  have hta : ∀ w ∈ lw_all, w.before args s = true := fun w h => hts w (List.mem_cons_of_mem _ h)
  have hown : s.vm.findClass RX9 = some m.cls := findClass_of_methodNamed B.named
  have hlocks := B.notSynchronized
  have hC : Cx p s m args c cX9_swap 3 RX9 E := ⟨hx, hb, hml, hown, hta, hK⟩
  have hH : Hp E (adr (wM E ad x)) (wM E ad x) s.heap s.heap [] := Hp.start hP hD0
  obtain ⟨ls, he, hl⟩ := entry_ (m := m) (n := 3) hargs (Nat.le_of_ble_eq_true rfl)
  rw [he]
  have hl : lv_has ls 3 [(0, .ref (ad 0)), (1, .int a1)] := hl
  show W p l e rmM_swap s m args below meth c s.heap [] 0 0 (MQ below (qW E (some .int) (some (.int t.1)) (wM E ad x) (wM E ad (t.2.1, t.2.2.1, t.2.2.2.1, t.2.2.2.2.1, t.2.2.2.2.2.1, t.2.2.2.2.2.2.1, x.2.2.2.2.2.2.1, t.2.2.2.2.2.2.2.1, t.2.2.2.2.2.2.2.2.1, t.2.2.2.2.2.2.2.2.2, x.2.2.2.2.2.2.2.2.2.2))) args s 0 0 (adr (wM E ad x))) (F0 m 0 ls [])
  suffices hmain : ∀ (H : Heap) (locs : List Loc), Hp E (adr (wM E ad x)) (wM E ad x) s.heap H locs → W p l e rmM_swap s m args below meth c H locs 0 0 (MQ below (qW E (some .int) (some (.int t.1)) (wM E ad x) (wM E ad (t.2.1, t.2.2.1, t.2.2.2.1, t.2.2.2.2.1, t.2.2.2.2.2.1, t.2.2.2.2.2.2.1, x.2.2.2.2.2.2.1, t.2.2.2.2.2.2.2.1, t.2.2.2.2.2.2.2.2.1, t.2.2.2.2.2.2.2.2.2, x.2.2.2.2.2.2.2.2.2.2))) args s 0 0 (adr (wM E ad x))) (F0 m 0 ls []) from hmain _ _ hH
  clear hH
  intro H locs hH
  rw [fM_swap] at hf
  refine lv_aload_n hx hb dX9_swap_0 rfl (lv_at hl 0 rfl) ?_
  refine lv_iload_n hx hb dX9_swap_1 rfl (lv_at hl 1 rfl) ?_
  obtain ⟨t1, ht1, hf⟩ := ob hf
  refine k_WVsi hC LX9_95 ⟨Nat.le_of_ble_eq_true rfl, Nat.le_of_ble_eq_true rfl⟩ ⟨Nat.zero_le _, Nat.zero_le _⟩ (cM_notSwap l E ad x a1 t1 ht1) rfl rfl hH rfl rfl rfl hl.1 rfl (Nat.le_of_ble_eq_true rfl) rfl dX9_swap_2 (fun H locs hz2 hH => ?_)
  have hH : Hp E (adr (wM E ad x)) (wM E ad (x.1, x.2.1, t1.2.1, t1.2.2, x.2.2.2.2)) s.heap H locs := hH
  refine lv_istore_n (lv' := [(2, .int t1.1), (0, .ref (ad 0)), (1, .int a1)]) hx hb dX9_swap_5 rfl hl (by decide) rfl (fun ls hl => ?_)
  refine lv_iload_n hx hb dX9_swap_6 rfl (lv_at hl 0 rfl) ?_
  refine lv_if_eq (tgt := 16) hx hb dX9_swap_7 (by decide) (fun c2 => ?_) (fun c2 => ?_)
  · have hf := ite_t hf c2
    refine lv_aload_n hx hb dX9_swap_16 rfl (lv_at hl 1 rfl) ?_
    obtain ⟨t3, ht3, hf⟩ := ob hf
    refine k_WVsv hC LX9_79 ⟨Nat.le_of_ble_eq_true rfl, Nat.le_of_ble_eq_true rfl⟩ ⟨Nat.zero_le _, Nat.zero_le _⟩ (cM_remembers l E ad (x.1, x.2.1, t1.2.1, t1.2.2, x.2.2.2.2) t3 ht3) rfl rfl hH rfl rfl rfl hl.1 rfl (Nat.le_of_ble_eq_true rfl) rfl dX9_swap_17 (fun H locs hz17 hH => ?_)
    have hH : Hp E (adr (wM E ad x)) (wM E ad (x.1, x.2.1, t1.2.1, t1.2.2, x.2.2.2.2.1, t3.1, x.2.2.2.2.2.2.1, t3.2.1, t3.2.2.1, t3.2.2.2, x.2.2.2.2.2.2.2.2.2.2)) s.heap H locs := hH
    refine lv_aload_n hx hb dX9_swap_20 rfl (lv_at hl 1 rfl) ?_
    refine lv_iload_n hx hb dX9_swap_21 rfl (lv_at hl 2 rfl) ?_
    obtain ⟨t4, ht4, hf⟩ := ob hf
    refine k_WVsi hC LX9_98 ⟨Nat.le_of_ble_eq_true rfl, Nat.le_of_ble_eq_true rfl⟩ ⟨Nat.zero_le _, Nat.zero_le _⟩ (cM_swaps l E ad (x.1, x.2.1, t1.2.1, t1.2.2, x.2.2.2.2.1, t3.1, x.2.2.2.2.2.2.1, t3.2.1, t3.2.2.1, t3.2.2.2, x.2.2.2.2.2.2.2.2.2.2) a1 t4 ht4) rfl rfl hH rfl rfl rfl hl.1 rfl (Nat.le_of_ble_eq_true rfl) rfl dX9_swap_22 (fun H locs hz22 hH => ?_)
    have hH : Hp E (adr (wM E ad x)) (wM E ad (x.1, x.2.1, t1.2.1, t1.2.2, t4.2, t3.1, x.2.2.2.2.2.2.1, t3.2.1, t3.2.2.1, t3.2.2.2, x.2.2.2.2.2.2.2.2.2.2)) s.heap H locs := hH
    cases hf
    exact e_Wi hC hH hr hlocks rfl rfl dX9_swap_25
  · have hf := ite_f hf c2
    refine lv_aload_n hx hb dX9_swap_10 rfl (lv_at hl 1 rfl) ?_
    refine lv_iload_n hx hb dX9_swap_11 rfl (lv_at hl 0 rfl) ?_
    obtain ⟨t5, ht5, hf⟩ := ob hf
    refine k_WVsi hC LX9_75 ⟨Nat.le_of_ble_eq_true rfl, Nat.le_of_ble_eq_true rfl⟩ ⟨Nat.zero_le _, Nat.zero_le _⟩ (cM_refuses l E ad (x.1, x.2.1, t1.2.1, t1.2.2, x.2.2.2.2) t1.1 t5 ht5) rfl rfl hH rfl rfl rfl hl.1 rfl (Nat.le_of_ble_eq_true rfl) rfl dX9_swap_12 (fun H locs hz12 hH => ?_)
    have hH : Hp E (adr (wM E ad x)) (wM E ad (t5.2.1, t5.2.2, t1.2.1, t1.2.2, x.2.2.2.2)) s.heap H locs := hH
    cases hf
    exact e_Wi hC hH hr hlocks rfl rfl dX9_swap_15
abbrev rmM_hasMark : Room := { frames := 0, cells := 0, slots := 0, locals := 0 }
set_option maxHeartbeats 4000000 in
set_option maxRecDepth 100000 in
theorem cM_hasMark (l : Launch) (E : eE) (ad : Nat → Nat) (x : TM) (a1 : Int32) (r : Int32) (hf : fM_hasMark x.2.2.2.2.1 a1 = some r) : cP l E yX9_hasMark cX9_hasMark 2 (some .boolean) rmM_hasMark [.ref (ad 0), .int a1] (wM E ad x) (some (.int r)) := by
  refine Met.ofW (cc := cX9_hasMark) (maxL := 2) (ret := (some .boolean)) (by decide) rfl ?_
  intro p e s m args below meth c s₁ B hml hv
  obtain ⟨hargs, hP, hK⟩ := hv
  have hx := B.exec
  have hb := B.bytes
  have hr := B.returns
  have hts := atoms_spec (ws := ws_ yX9_hasMark cX9_hasMark 2 (some .boolean)) B.pre
  have hta : ∀ w ∈ lw_all, w.before args s = true := fun w h => hts w (List.mem_cons_of_mem _ h)
  have hown : s.vm.findClass RX9 = some m.cls := findClass_of_methodNamed B.named
  have hlocks := B.notSynchronized
  have hC : Cx p s m args c cX9_hasMark 2 RX9 E := ⟨hx, hb, hml, hown, hta, hK⟩
  obtain ⟨ls, he, hl⟩ := entry_ (m := m) (n := 2) hargs (Nat.le_of_ble_eq_true rfl)
  rw [he]
  have hl : lv_has ls 2 [(0, .ref (ad 0)), (1, .int a1)] := hl
  show W p l e rmM_hasMark s m args below meth c s.heap [] 0 0 (MQ below (qP (some .boolean) (some (.int r))) args s 0 0 (fun _ => False)) (F0 m 0 ls [])
  rw [fM_hasMark] at hf
  refine lv_aload_n hx hb dX9_hasMark_0 rfl (lv_at hl 0 rfl) ?_
  refine gX9_7 hC hP 0 rfl (v := .ref (ad 1)) rfl dX9_hasMark_1 ?_
  refine lv_bipush (v := 68) hx hb dX9_hasMark_4 (by decide) ?_
  refine lv_iload_n hx hb dX9_hasMark_6 rfl (lv_at hl 1 rfl) ?_
  refine lv_iadd hx hb dX9_hasMark_7 ?_
  obtain ⟨v1, hv1, hf⟩ := ob hf
  obtain ⟨hv1a, hv1b⟩ := ldA_ok hv1
  refine a_ild hC hP 1 rfl hv1a hv1b dX9_hasMark_8 ?_
  refine lv_iconst (v := 1) hx hb dX9_hasMark_9 (by decide) ?_
  refine lv_icmp_ne (tgt := 17) hx hb dX9_hasMark_10 (by decide) (fun c2 => ?_) (fun c2 => ?_)
  · have hf := ite_f hf c2
    refine lv_iconst (v := 0) hx hb dX9_hasMark_17 (by decide) ?_
    have hf := Option.some.inj hf
    exact e_Pz hC hr hlocks hf rfl dX9_hasMark_18
  · have hf := ite_t hf c2
    refine lv_iconst (v := 1) hx hb dX9_hasMark_13 (by decide) ?_
    refine lv_goto (tgt := 18) hx hb dX9_hasMark_14 (by decide) ?_
    have hf := Option.some.inj hf
    exact e_Pz hC hr hlocks hf rfl dX9_hasMark_18
abbrev rmM_marked : Room := { frames := 0, cells := 0, slots := 0, locals := 0 }
set_option maxHeartbeats 4000000 in
set_option maxRecDepth 100000 in
theorem cM_marked (l : Launch) (E : eE) (ad : Nat → Nat) (x : TM) (r : Int32) (hf : fM_marked x.2.2.2.2.1 = some r) : cP l E yX9_marked cX9_marked 3 (some .int) rmM_marked [.ref (ad 0)] (wM E ad x) (some (.int r)) := by
  refine Met.ofW (cc := cX9_marked) (maxL := 3) (ret := (some .int)) (by decide) rfl ?_
  intro p e s m args below meth c s₁ B hml hv
  obtain ⟨hargs, hP, hK⟩ := hv
  have hx := B.exec
  have hb := B.bytes
  have hr := B.returns
  have hts := atoms_spec (ws := ws_ yX9_marked cX9_marked 3 (some .int)) B.pre
  have hta : ∀ w ∈ lw_all, w.before args s = true := fun w h => hts w (List.mem_cons_of_mem _ h)
  have hown : s.vm.findClass RX9 = some m.cls := findClass_of_methodNamed B.named
  have hlocks := B.notSynchronized
  have hC : Cx p s m args c cX9_marked 3 RX9 E := ⟨hx, hb, hml, hown, hta, hK⟩
  obtain ⟨ls, he, hl⟩ := entry_ (m := m) (n := 3) hargs (Nat.le_of_ble_eq_true rfl)
  rw [he]
  have hl : lv_has ls 3 [(0, .ref (ad 0))] := hl
  show W p l e rmM_marked s m args below meth c s.heap [] 0 0 (MQ below (qP (some .int) (some (.int r))) args s 0 0 (fun _ => False)) (F0 m 0 ls [])
  have L4 : ∀ (n : Nat) (a1 : Int32) (a2 : Int32) (ls : Array Slot), lv_has ls 3 [(0, .ref (ad 0)), (1, .int a1), (2, .int a2)] → fM_marked_4 n x.2.2.2.2.1 a1 a2 = some r → W p l e rmM_marked s m args below meth c s.heap [] 0 0 (MQ below (qP (some .int) (some (.int r))) args s 0 0 (fun _ => False)) (F0 m 4 ls []) := by
    intro n
    induction n with
    | zero => intro a1 a2 ls hl hf; cases hf
    | succ n ih =>
      intro a1 a2 ls hl hf
      rw [fM_marked_4] at hf
      refine lv_iload_n hx hb dX9_marked_4 rfl (lv_at hl 2 rfl) ?_
      refine lv_bipush (v := 64) hx hb dX9_marked_5 (by decide) ?_
      refine lv_icmp_ge (tgt := 28) hx hb dX9_marked_7 (by decide) (fun c1 => ?_) (fun c1 => ?_)
      · have hf := ite_t hf c1
        refine lv_iload_n hx hb dX9_marked_28 rfl (lv_at hl 1 rfl) ?_
        have hf := Option.some.inj hf
        exact e_Pi hC hr hlocks hf dX9_marked_29
      · have hf := ite_f hf c1
        refine lv_iload_n hx hb dX9_marked_10 rfl (lv_at hl 1 rfl) ?_
        refine lv_aload_n hx hb dX9_marked_11 rfl (lv_at hl 0 rfl) ?_
        refine gX9_7 hC hP 0 rfl (v := .ref (ad 1)) rfl dX9_marked_12 ?_
        refine lv_bipush (v := 68) hx hb dX9_marked_15 (by decide) ?_
        refine lv_iload_n hx hb dX9_marked_17 rfl (lv_at hl 2 rfl) ?_
        refine lv_iadd hx hb dX9_marked_18 ?_
        obtain ⟨v2, hv2, hf⟩ := ob hf
        obtain ⟨hv2a, hv2b⟩ := ldA_ok hv2
        refine a_ild hC hP 1 rfl hv2a hv2b dX9_marked_19 ?_
        refine lv_iadd hx hb dX9_marked_20 ?_
        refine lv_istore_n (lv' := [(1, .int (a1 + v2)), (0, .ref (ad 0)), (2, .int a2)]) hx hb dX9_marked_21 rfl hl (by decide) rfl (fun ls hl => ?_)
        refine lv_iinc (v := (a2 + (1 : Int32))) (lv' := [(2, .int (a2 + (1 : Int32))), (1, .int (a1 + v2)), (0, .ref (ad 0))]) hx hb dX9_marked_22 hl (k := 2) rfl rfl (by decide) rfl (fun ls hl => ?_)
        refine lv_goto (tgt := 4) hx hb dX9_marked_25 (by decide) ?_
        exact ih (a1 + v2) (a2 + (1 : Int32)) ls (lv_sub hl [2, 1, 0] rfl) hf
  rw [fM_marked] at hf
  refine lv_iconst (v := 0) hx hb dX9_marked_0 (by decide) ?_
  refine lv_istore_n (lv' := [(1, .int (0 : Int32)), (0, .ref (ad 0))]) hx hb dX9_marked_1 rfl hl (by decide) rfl (fun ls hl => ?_)
  refine lv_iconst (v := 1) hx hb dX9_marked_2 (by decide) ?_
  refine lv_istore_n (lv' := [(2, .int (1 : Int32)), (1, .int (0 : Int32)), (0, .ref (ad 0))]) hx hb dX9_marked_3 rfl hl (by decide) rfl (fun ls hl => ?_)
  exact L4 FU (0 : Int32) (1 : Int32) ls (lv_sub hl [2, 1, 0] rfl) hf
abbrev rmM_notMark : Room := { frames := 1, cells := 0, slots := 0, locals := 22 }
set_option maxHeartbeats 4000000 in
set_option maxRecDepth 100000 in
theorem cM_notMark (l : Launch) (E : eE) (ad : Nat → Nat) (x : TM) (a1 : Int32) (a2 : Int32) (t : Int32 × Int32 × Int32) (hf : fM_notMark x.2.2.1 x.2.2.2.1 x.2.2.2.2.1 a1 a2 = some t) : cW l E yX9_notMark cX9_notMark 3 (some .int) rmM_notMark [.ref (ad 0), .int a1, .int a2] (wM E ad x) (some (.int t.1)) (wM E ad (x.1, x.2.1, t.2.1, t.2.2, x.2.2.2.2)) := by
  refine Met.ofW (cc := cX9_notMark) (maxL := 3) (ret := (some .int)) (by decide) rfl ?_
  intro p e s m args below meth c s₁ B hml hv
  obtain ⟨hargs, hP, hK, hD0⟩ := hv
  have hx := B.exec
  have hb := B.bytes
  have hr := B.returns
  have hts := atoms_spec (ws := ws_ yX9_notMark cX9_notMark 3 (some .int)) B.pre
  have hta : ∀ w ∈ lw_all, w.before args s = true := fun w h => hts w (List.mem_cons_of_mem _ h)
  have hown : s.vm.findClass RX9 = some m.cls := findClass_of_methodNamed B.named
  have hlocks := B.notSynchronized
  have hC : Cx p s m args c cX9_notMark 3 RX9 E := ⟨hx, hb, hml, hown, hta, hK⟩
  have hH : Hp E (adr (wM E ad x)) (wM E ad x) s.heap s.heap [] := Hp.start hP hD0
  obtain ⟨ls, he, hl⟩ := entry_ (m := m) (n := 3) hargs (Nat.le_of_ble_eq_true rfl)
  rw [he]
  have hl : lv_has ls 3 [(0, .ref (ad 0)), (1, .int a1), (2, .int a2)] := hl
  show W p l e rmM_notMark s m args below meth c s.heap [] 0 0 (MQ below (qW E (some .int) (some (.int t.1)) (wM E ad x) (wM E ad (x.1, x.2.1, t.2.1, t.2.2, x.2.2.2.2))) args s 0 0 (adr (wM E ad x))) (F0 m 0 ls [])
  suffices hmain : ∀ (H : Heap) (locs : List Loc), Hp E (adr (wM E ad x)) (wM E ad x) s.heap H locs → W p l e rmM_notMark s m args below meth c H locs 0 0 (MQ below (qW E (some .int) (some (.int t.1)) (wM E ad x) (wM E ad (x.1, x.2.1, t.2.1, t.2.2, x.2.2.2.2))) args s 0 0 (adr (wM E ad x))) (F0 m 0 ls []) from hmain _ _ hH
  clear hH
  intro H locs hH
  rw [fM_notMark] at hf
  refine lv_iload_n hx hb dX9_notMark_0 rfl (lv_at hl 1 rfl) ?_
  refine lv_iconst (v := 1) hx hb dX9_notMark_1 (by decide) ?_
  refine lv_bipush (v := 63) hx hb dX9_notMark_2 (by decide) ?_
  refine k_PSi hC LX9_60 ⟨Nat.le_of_ble_eq_true rfl, Nat.le_of_ble_eq_true rfl⟩ ⟨Nat.zero_le _, Nat.zero_le _⟩ (cM_isBetween l E a1 (1 : Int32) (63 : Int32) _ rfl) rfl rfl (vP_nil) hl.1 rfl (Nat.le_of_ble_eq_true rfl) rfl dX9_notMark_4 (fun hz4 => ?_)
  refine lv_if_ne (tgt := 13) hx hb dX9_notMark_7 (by decide) (fun c1 => ?_) (fun c1 => ?_)
  · have hf := ite_f hf c1
    refine lv_aload_n hx hb dX9_notMark_13 rfl (lv_at hl 0 rfl) ?_
    refine lv_iload_n hx hb dX9_notMark_14 rfl (lv_at hl 1 rfl) ?_
    obtain ⟨t2, ht2, hf⟩ := ob hf
    refine k_PVi hC LX9_101 ⟨Nat.le_of_ble_eq_true rfl, Nat.le_of_ble_eq_true rfl⟩ ⟨Nat.zero_le _, Nat.zero_le _⟩ (cM_hasMark l E ad x a1 t2 ht2) rfl rfl hH.1 rfl rfl hl.1 rfl (Nat.le_of_ble_eq_true rfl) rfl dX9_notMark_15 (fun hz15 => ?_)
    refine lv_iload_n hx hb dX9_notMark_18 rfl (lv_at hl 2 rfl) ?_
    refine lv_icmp_ne (tgt := 31) hx hb dX9_notMark_19 (by decide) (fun c3 => ?_) (fun c3 => ?_)
    · have hf := ite_f hf c3
      refine lv_iconst (v := 0) hx hb dX9_notMark_31 (by decide) ?_
      cases hf
      exact e_Wi hC hH hr hlocks rfl rfl dX9_notMark_32
    · have hf := ite_t hf c3
      refine lv_aload_n hx hb dX9_notMark_22 rfl (lv_at hl 0 rfl) ?_
      refine lv_iconst (v := 3) hx hb dX9_notMark_23 (by decide) ?_
      refine lv_iload_n hx hb dX9_notMark_24 rfl (lv_at hl 1 rfl) ?_
      obtain ⟨t4, ht4, hf⟩ := ob hf
      refine k_WVsi hC LX9_68 ⟨Nat.le_of_ble_eq_true rfl, Nat.le_of_ble_eq_true rfl⟩ ⟨Nat.zero_le _, Nat.zero_le _⟩ (cM_isNot l E ad x (3 : Int32) a1 t4 ht4) rfl rfl hH rfl rfl rfl hl.1 rfl (Nat.le_of_ble_eq_true rfl) rfl dX9_notMark_25 (fun H locs hz25 hH => ?_)
      have hH : Hp E (adr (wM E ad x)) (wM E ad (x.1, x.2.1, t4.2.1, t4.2.2, x.2.2.2.2)) s.heap H locs := hH
      refine lv_goto (tgt := 32) hx hb dX9_notMark_28 (by decide) ?_
      cases hf
      exact e_Wi hC hH hr hlocks rfl rfl dX9_notMark_32
  · have hf := ite_t hf c1
    refine lv_bipush (v := (-11)) hx hb dX9_notMark_10 (by decide) ?_
    cases hf
    exact e_Wi hC hH hr hlocks rfl rfl dX9_notMark_12
abbrev rmM_marks : Room := { frames := 1, cells := 0, slots := 0, locals := 22 }
set_option maxHeartbeats 4000000 in
set_option maxRecDepth 100000 in
theorem cM_marks (l : Launch) (E : eE) (ad : Nat → Nat) (x : TM) (a1 : Int32) (a2 : Int32) (t : Int32 × (Nat → Int32)) (hf : fM_marks x.2.2.2.2.1 a1 a2 = some t) : cW l E yX9_marks cX9_marks 3 (some .int) rmM_marks [.ref (ad 0), .int a1, .int a2] (wM E ad x) (some (.int t.1)) (wM E ad (x.1, x.2.1, x.2.2.1, x.2.2.2.1, t.2, x.2.2.2.2.2)) := by
  refine Met.ofW (cc := cX9_marks) (maxL := 3) (ret := (some .int)) (by decide) rfl ?_
  intro p e s m args below meth c s₁ B hml hv
  obtain ⟨hargs, hP, hK, hD0⟩ := hv
  have hx := B.exec
  have hb := B.bytes
  have hr := B.returns
  have hts := atoms_spec (ws := ws_ yX9_marks cX9_marks 3 (some .int)) B.pre
  have hta : ∀ w ∈ lw_all, w.before args s = true := fun w h => hts w (List.mem_cons_of_mem _ h)
  have hown : s.vm.findClass RX9 = some m.cls := findClass_of_methodNamed B.named
  have hlocks := B.notSynchronized
  have hC : Cx p s m args c cX9_marks 3 RX9 E := ⟨hx, hb, hml, hown, hta, hK⟩
  have hH : Hp E (adr (wM E ad x)) (wM E ad x) s.heap s.heap [] := Hp.start hP hD0
  obtain ⟨ls, he, hl⟩ := entry_ (m := m) (n := 3) hargs (Nat.le_of_ble_eq_true rfl)
  rw [he]
  have hl : lv_has ls 3 [(0, .ref (ad 0)), (1, .int a1), (2, .int a2)] := hl
  show W p l e rmM_marks s m args below meth c s.heap [] 0 0 (MQ below (qW E (some .int) (some (.int t.1)) (wM E ad x) (wM E ad (x.1, x.2.1, x.2.2.1, x.2.2.2.1, t.2, x.2.2.2.2.2))) args s 0 0 (adr (wM E ad x))) (F0 m 0 ls [])
  suffices hmain : ∀ (H : Heap) (locs : List Loc), Hp E (adr (wM E ad x)) (wM E ad x) s.heap H locs → W p l e rmM_marks s m args below meth c H locs 0 0 (MQ below (qW E (some .int) (some (.int t.1)) (wM E ad x) (wM E ad (x.1, x.2.1, x.2.2.1, x.2.2.2.1, t.2, x.2.2.2.2.2))) args s 0 0 (adr (wM E ad x))) (F0 m 0 ls []) from hmain _ _ hH
  clear hH
  intro H locs hH
  rw [fM_marks] at hf
  refine lv_aload_n hx hb dX9_marks_0 rfl (lv_at hl 0 rfl) ?_
  refine gX9_7 hC hH.1 0 rfl (v := .ref (ad 1)) rfl dX9_marks_1 ?_
  refine lv_bipush (v := 68) hx hb dX9_marks_4 (by decide) ?_
  refine lv_iload_n hx hb dX9_marks_6 rfl (lv_at hl 1 rfl) ?_
  refine lv_iadd hx hb dX9_marks_7 ?_
  refine lv_iload_n hx hb dX9_marks_8 rfl (lv_at hl 2 rfl) ?_
  refine lv_if_eq (tgt := 16) hx hb dX9_marks_9 (by decide) (fun c1 => ?_) (fun c1 => ?_)
  · have hf := ite_t hf c1
    refine lv_iconst (v := 0) hx hb dX9_marks_16 (by decide) ?_
    obtain ⟨g2, hg2, hf⟩ := ob hf
    obtain ⟨hg2a, hg2b⟩ := stA_ok hg2
    refine a_ist hC hH 1 rfl hg2a hg2b (W1 := wM E ad (x.1, x.2.1, x.2.2.1, x.2.2.2.1, g2, x.2.2.2.2.2)) rfl dX9_marks_17 (fun H locs hH => ?_)
    refine lv_aload_n hx hb dX9_marks_18 rfl (lv_at hl 0 rfl) ?_
    obtain ⟨t3, ht3, hf⟩ := ob hf
    refine k_PVi hC LX9_104 ⟨Nat.le_of_ble_eq_true rfl, Nat.le_of_ble_eq_true rfl⟩ ⟨Nat.zero_le _, Nat.zero_le _⟩ (cM_marked l E ad (x.1, x.2.1, x.2.2.1, x.2.2.2.1, g2, x.2.2.2.2.2) t3 ht3) rfl rfl hH.1 rfl rfl hl.1 rfl (Nat.le_of_ble_eq_true rfl) rfl dX9_marks_19 (fun hz19 => ?_)
    cases hf
    exact e_Wi hC hH hr hlocks rfl rfl dX9_marks_22
  · have hf := ite_f hf c1
    refine lv_iconst (v := 1) hx hb dX9_marks_12 (by decide) ?_
    refine lv_goto (tgt := 17) hx hb dX9_marks_13 (by decide) ?_
    obtain ⟨g4, hg4, hf⟩ := ob hf
    obtain ⟨hg4a, hg4b⟩ := stA_ok hg4
    refine a_ist hC hH 1 rfl hg4a hg4b (W1 := wM E ad (x.1, x.2.1, x.2.2.1, x.2.2.2.1, g4, x.2.2.2.2.2)) rfl dX9_marks_17 (fun H locs hH => ?_)
    refine lv_aload_n hx hb dX9_marks_18 rfl (lv_at hl 0 rfl) ?_
    obtain ⟨t5, ht5, hf⟩ := ob hf
    refine k_PVi hC LX9_104 ⟨Nat.le_of_ble_eq_true rfl, Nat.le_of_ble_eq_true rfl⟩ ⟨Nat.zero_le _, Nat.zero_le _⟩ (cM_marked l E ad (x.1, x.2.1, x.2.2.1, x.2.2.2.1, g4, x.2.2.2.2.2) t5 ht5) rfl rfl hH.1 rfl rfl hl.1 rfl (Nat.le_of_ble_eq_true rfl) rfl dX9_marks_19 (fun hz19 => ?_)
    cases hf
    exact e_Wi hC hH hr hlocks rfl rfl dX9_marks_22
abbrev rmM_mark : Room := { frames := 2, cells := 0, slots := 0, locals := 44 }
set_option maxHeartbeats 4000000 in
set_option maxRecDepth 100000 in
theorem cM_mark (l : Launch) (E : eE) (ad : Nat → Nat) (x : TM) (a1 : Int32) (a2 : Int32) (t : Int32 × Int32 × Int32 × Int32 × Int32 × (Nat → Int32) × (Nat → Int32) × (Nat → Int32) × Int32 × Int32) (hf : fM_mark x.1 x.2.1 x.2.2.1 x.2.2.2.1 x.2.2.2.2.1 x.2.2.2.2.2.1 x.2.2.2.2.2.2.2.1 x.2.2.2.2.2.2.2.2.1 x.2.2.2.2.2.2.2.2.2.1 a1 a2 = some t) : cW l E yX9_mark cX9_mark 4 (some .int) rmM_mark [.ref (ad 0), .int a1, .int a2] (wM E ad x) (some (.int t.1)) (wM E ad (t.2.1, t.2.2.1, t.2.2.2.1, t.2.2.2.2.1, t.2.2.2.2.2.1, t.2.2.2.2.2.2.1, x.2.2.2.2.2.2.1, t.2.2.2.2.2.2.2.1, t.2.2.2.2.2.2.2.2.1, t.2.2.2.2.2.2.2.2.2, x.2.2.2.2.2.2.2.2.2.2)) := by
  refine Met.ofW (cc := cX9_mark) (maxL := 4) (ret := (some .int)) (by decide) rfl ?_
  intro p e s m args below meth c s₁ B hml hv
  obtain ⟨hargs, hP, hK, hD0⟩ := hv
  have hx := B.exec
  have hb := B.bytes
  have hr := B.returns
  have hts := atoms_spec (ws := ws_ yX9_mark cX9_mark 4 (some .int)) B.pre
  have hta : ∀ w ∈ lw_all, w.before args s = true := fun w h => hts w (List.mem_cons_of_mem _ h)
  have hown : s.vm.findClass RX9 = some m.cls := findClass_of_methodNamed B.named
  have hlocks := B.notSynchronized
  have hC : Cx p s m args c cX9_mark 4 RX9 E := ⟨hx, hb, hml, hown, hta, hK⟩
  have hH : Hp E (adr (wM E ad x)) (wM E ad x) s.heap s.heap [] := Hp.start hP hD0
  obtain ⟨ls, he, hl⟩ := entry_ (m := m) (n := 4) hargs (Nat.le_of_ble_eq_true rfl)
  rw [he]
  have hl : lv_has ls 4 [(0, .ref (ad 0)), (1, .int a1), (2, .int a2)] := hl
  show W p l e rmM_mark s m args below meth c s.heap [] 0 0 (MQ below (qW E (some .int) (some (.int t.1)) (wM E ad x) (wM E ad (t.2.1, t.2.2.1, t.2.2.2.1, t.2.2.2.2.1, t.2.2.2.2.2.1, t.2.2.2.2.2.2.1, x.2.2.2.2.2.2.1, t.2.2.2.2.2.2.2.1, t.2.2.2.2.2.2.2.2.1, t.2.2.2.2.2.2.2.2.2, x.2.2.2.2.2.2.2.2.2.2))) args s 0 0 (adr (wM E ad x))) (F0 m 0 ls [])
  suffices hmain : ∀ (H : Heap) (locs : List Loc), Hp E (adr (wM E ad x)) (wM E ad x) s.heap H locs → W p l e rmM_mark s m args below meth c H locs 0 0 (MQ below (qW E (some .int) (some (.int t.1)) (wM E ad x) (wM E ad (t.2.1, t.2.2.1, t.2.2.2.1, t.2.2.2.2.1, t.2.2.2.2.2.1, t.2.2.2.2.2.2.1, x.2.2.2.2.2.2.1, t.2.2.2.2.2.2.2.1, t.2.2.2.2.2.2.2.2.1, t.2.2.2.2.2.2.2.2.2, x.2.2.2.2.2.2.2.2.2.2))) args s 0 0 (adr (wM E ad x))) (F0 m 0 ls []) from hmain _ _ hH
  clear hH
  intro H locs hH
  rw [fM_mark] at hf
  refine lv_aload_n hx hb dX9_mark_0 rfl (lv_at hl 0 rfl) ?_
  refine lv_iload_n hx hb dX9_mark_1 rfl (lv_at hl 1 rfl) ?_
  refine lv_iload_n hx hb dX9_mark_2 rfl (lv_at hl 2 rfl) ?_
  obtain ⟨t1, ht1, hf⟩ := ob hf
  refine k_WVsi hC LX9_108 ⟨Nat.le_of_ble_eq_true rfl, Nat.le_of_ble_eq_true rfl⟩ ⟨Nat.zero_le _, Nat.zero_le _⟩ (cM_notMark l E ad x a1 a2 t1 ht1) rfl rfl hH rfl rfl rfl hl.1 rfl (Nat.le_of_ble_eq_true rfl) rfl dX9_mark_3 (fun H locs hz3 hH => ?_)
  have hH : Hp E (adr (wM E ad x)) (wM E ad (x.1, x.2.1, t1.2.1, t1.2.2, x.2.2.2.2)) s.heap H locs := hH
  refine lv_istore_n (lv' := [(3, .int t1.1), (0, .ref (ad 0)), (1, .int a1), (2, .int a2)]) hx hb dX9_mark_6 rfl hl (by decide) rfl (fun ls hl => ?_)
  refine lv_iload_n hx hb dX9_mark_7 rfl (lv_at hl 0 rfl) ?_
  refine lv_if_eq (tgt := 17) hx hb dX9_mark_8 (by decide) (fun c2 => ?_) (fun c2 => ?_)
  · have hf := ite_t hf c2
    refine lv_aload_n hx hb dX9_mark_17 rfl (lv_at hl 1 rfl) ?_
    obtain ⟨t3, ht3, hf⟩ := ob hf
    refine k_WVsv hC LX9_79 ⟨Nat.le_of_ble_eq_true rfl, Nat.le_of_ble_eq_true rfl⟩ ⟨Nat.zero_le _, Nat.zero_le _⟩ (cM_remembers l E ad (x.1, x.2.1, t1.2.1, t1.2.2, x.2.2.2.2) t3 ht3) rfl rfl hH rfl rfl rfl hl.1 rfl (Nat.le_of_ble_eq_true rfl) rfl dX9_mark_18 (fun H locs hz18 hH => ?_)
    have hH : Hp E (adr (wM E ad x)) (wM E ad (x.1, x.2.1, t1.2.1, t1.2.2, x.2.2.2.2.1, t3.1, x.2.2.2.2.2.2.1, t3.2.1, t3.2.2.1, t3.2.2.2, x.2.2.2.2.2.2.2.2.2.2)) s.heap H locs := hH
    refine lv_aload_n hx hb dX9_mark_21 rfl (lv_at hl 1 rfl) ?_
    refine lv_iload_n hx hb dX9_mark_22 rfl (lv_at hl 2 rfl) ?_
    refine lv_iload_n hx hb dX9_mark_23 rfl (lv_at hl 3 rfl) ?_
    obtain ⟨t4, ht4, hf⟩ := ob hf
    refine k_WVsi hC LX9_112 ⟨Nat.le_of_ble_eq_true rfl, Nat.le_of_ble_eq_true rfl⟩ ⟨Nat.zero_le _, Nat.zero_le _⟩ (cM_marks l E ad (x.1, x.2.1, t1.2.1, t1.2.2, x.2.2.2.2.1, t3.1, x.2.2.2.2.2.2.1, t3.2.1, t3.2.2.1, t3.2.2.2, x.2.2.2.2.2.2.2.2.2.2) a1 a2 t4 ht4) rfl rfl hH rfl rfl rfl hl.1 rfl (Nat.le_of_ble_eq_true rfl) rfl dX9_mark_24 (fun H locs hz24 hH => ?_)
    have hH : Hp E (adr (wM E ad x)) (wM E ad (x.1, x.2.1, t1.2.1, t1.2.2, t4.2, t3.1, x.2.2.2.2.2.2.1, t3.2.1, t3.2.2.1, t3.2.2.2, x.2.2.2.2.2.2.2.2.2.2)) s.heap H locs := hH
    cases hf
    exact e_Wi hC hH hr hlocks rfl rfl dX9_mark_27
  · have hf := ite_f hf c2
    refine lv_aload_n hx hb dX9_mark_11 rfl (lv_at hl 1 rfl) ?_
    refine lv_iload_n hx hb dX9_mark_12 rfl (lv_at hl 0 rfl) ?_
    obtain ⟨t5, ht5, hf⟩ := ob hf
    refine k_WVsi hC LX9_75 ⟨Nat.le_of_ble_eq_true rfl, Nat.le_of_ble_eq_true rfl⟩ ⟨Nat.zero_le _, Nat.zero_le _⟩ (cM_refuses l E ad (x.1, x.2.1, t1.2.1, t1.2.2, x.2.2.2.2) t1.1 t5 ht5) rfl rfl hH rfl rfl rfl hl.1 rfl (Nat.le_of_ble_eq_true rfl) rfl dX9_mark_13 (fun H locs hz13 hH => ?_)
    have hH : Hp E (adr (wM E ad x)) (wM E ad (t5.2.1, t5.2.2, t1.2.1, t1.2.2, x.2.2.2.2)) s.heap H locs := hH
    cases hf
    exact e_Wi hC hH hr hlocks rfl rfl dX9_mark_16
abbrev rmM_begins : Room := { frames := 1, cells := 0, slots := 0, locals := 21 }
set_option maxHeartbeats 4000000 in
set_option maxRecDepth 100000 in
theorem cM_begins (l : Launch) (E : eE) (ad : Nat → Nat) (x : TM) (a1 : Int32) (r : Int32) (hf : fM_begins x.2.2.2.2.1 a1 = some r) : cP l E yX9_begins cX9_begins 2 (some .boolean) rmM_begins [.ref (ad 0), .int a1] (wM E ad x) (some (.int r)) := by
  refine Met.ofW (cc := cX9_begins) (maxL := 2) (ret := (some .boolean)) (by decide) rfl ?_
  intro p e s m args below meth c s₁ B hml hv
  obtain ⟨hargs, hP, hK⟩ := hv
  have hx := B.exec
  have hb := B.bytes
  have hr := B.returns
  have hts := atoms_spec (ws := ws_ yX9_begins cX9_begins 2 (some .boolean)) B.pre
  have hta : ∀ w ∈ lw_all, w.before args s = true := fun w h => hts w (List.mem_cons_of_mem _ h)
  have hown : s.vm.findClass RX9 = some m.cls := findClass_of_methodNamed B.named
  have hlocks := B.notSynchronized
  have hC : Cx p s m args c cX9_begins 2 RX9 E := ⟨hx, hb, hml, hown, hta, hK⟩
  obtain ⟨ls, he, hl⟩ := entry_ (m := m) (n := 2) hargs (Nat.le_of_ble_eq_true rfl)
  rw [he]
  have hl : lv_has ls 2 [(0, .ref (ad 0)), (1, .int a1)] := hl
  show W p l e rmM_begins s m args below meth c s.heap [] 0 0 (MQ below (qP (some .boolean) (some (.int r))) args s 0 0 (fun _ => False)) (F0 m 0 ls [])
  rw [fM_begins] at hf
  refine lv_iload_n hx hb dX9_begins_0 rfl (lv_at hl 1 rfl) ?_
  refine lv_if_eq (tgt := 12) hx hb dX9_begins_1 (by decide) (fun c1 => ?_) (fun c1 => ?_)
  · have hf := ite_t hf c1
    refine lv_iconst (v := 1) hx hb dX9_begins_12 (by decide) ?_
    refine lv_goto (tgt := 17) hx hb dX9_begins_13 (by decide) ?_
    have hf := Option.some.inj hf
    exact e_Pz hC hr hlocks hf rfl dX9_begins_17
  · have hf := ite_f hf c1
    refine lv_aload_n hx hb dX9_begins_4 rfl (lv_at hl 0 rfl) ?_
    refine lv_iload_n hx hb dX9_begins_5 rfl (lv_at hl 1 rfl) ?_
    obtain ⟨t2, ht2, hf⟩ := ob hf
    refine k_PVi hC LX9_101 ⟨Nat.le_of_ble_eq_true rfl, Nat.le_of_ble_eq_true rfl⟩ ⟨Nat.zero_le _, Nat.zero_le _⟩ (cM_hasMark l E ad x a1 t2 ht2) rfl rfl hP rfl rfl hl.1 rfl (Nat.le_of_ble_eq_true rfl) rfl dX9_begins_6 (fun hz6 => ?_)
    refine lv_if_eq (tgt := 16) hx hb dX9_begins_9 (by decide) (fun c3 => ?_) (fun c3 => ?_)
    · have hf := ite_t hf c3
      refine lv_iconst (v := 0) hx hb dX9_begins_16 (by decide) ?_
      have hf := Option.some.inj hf
      exact e_Pz hC hr hlocks hf rfl dX9_begins_17
    · have hf := ite_f hf c3
      refine lv_iconst (v := 1) hx hb dX9_begins_12 (by decide) ?_
      refine lv_goto (tgt := 17) hx hb dX9_begins_13 (by decide) ?_
      have hf := Option.some.inj hf
      exact e_Pz hC hr hlocks hf rfl dX9_begins_17
abbrev rmM_bagsUpTo : Room := { frames := 2, cells := 0, slots := 0, locals := 42 }
set_option maxHeartbeats 4000000 in
set_option maxRecDepth 100000 in
theorem cM_bagsUpTo (l : Launch) (E : eE) (ad : Nat → Nat) (x : TM) (a1 : Int32) (r : Int32) (hf : fM_bagsUpTo x.2.2.2.2.1 a1 = some r) : cP l E yX9_bagsUpTo cX9_bagsUpTo 4 (some .int) rmM_bagsUpTo [.ref (ad 0), .int a1] (wM E ad x) (some (.int r)) := by
  refine Met.ofW (cc := cX9_bagsUpTo) (maxL := 4) (ret := (some .int)) (by decide) rfl ?_
  intro p e s m args below meth c s₁ B hml hv
  obtain ⟨hargs, hP, hK⟩ := hv
  have hx := B.exec
  have hb := B.bytes
  have hr := B.returns
  have hts := atoms_spec (ws := ws_ yX9_bagsUpTo cX9_bagsUpTo 4 (some .int)) B.pre
  have hta : ∀ w ∈ lw_all, w.before args s = true := fun w h => hts w (List.mem_cons_of_mem _ h)
  have hown : s.vm.findClass RX9 = some m.cls := findClass_of_methodNamed B.named
  have hlocks := B.notSynchronized
  have hC : Cx p s m args c cX9_bagsUpTo 4 RX9 E := ⟨hx, hb, hml, hown, hta, hK⟩
  obtain ⟨ls, he, hl⟩ := entry_ (m := m) (n := 4) hargs (Nat.le_of_ble_eq_true rfl)
  rw [he]
  have hl : lv_has ls 4 [(0, .ref (ad 0)), (1, .int a1)] := hl
  show W p l e rmM_bagsUpTo s m args below meth c s.heap [] 0 0 (MQ below (qP (some .int) (some (.int r))) args s 0 0 (fun _ => False)) (F0 m 0 ls [])
  have L4 : ∀ (n : Nat) (a1 : Int32) (a2 : Int32) (a3 : Int32) (ls : Array Slot), lv_has ls 4 [(0, .ref (ad 0)), (1, .int a1), (2, .int a2), (3, .int a3)] → fM_bagsUpTo_4 n x.2.2.2.2.1 a1 a2 a3 = some r → W p l e rmM_bagsUpTo s m args below meth c s.heap [] 0 0 (MQ below (qP (some .int) (some (.int r))) args s 0 0 (fun _ => False)) (F0 m 4 ls []) := by
    intro n
    induction n with
    | zero => intro a1 a2 a3 ls hl hf; cases hf
    | succ n ih =>
      intro a1 a2 a3 ls hl hf
      rw [fM_bagsUpTo_4] at hf
      refine lv_iload_n hx hb dX9_bagsUpTo_4 rfl (lv_at hl 3 rfl) ?_
      refine lv_iload_n hx hb dX9_bagsUpTo_5 rfl (lv_at hl 1 rfl) ?_
      refine lv_icmp_gt (tgt := 31) hx hb dX9_bagsUpTo_6 (by decide) (fun c1 => ?_) (fun c1 => ?_)
      · have hf := ite_t hf c1
        refine lv_iload_n hx hb dX9_bagsUpTo_31 rfl (lv_at hl 2 rfl) ?_
        have hf := Option.some.inj hf
        exact e_Pi hC hr hlocks hf dX9_bagsUpTo_32
      · have hf := ite_f hf c1
        refine lv_iload_n hx hb dX9_bagsUpTo_9 rfl (lv_at hl 2 rfl) ?_
        refine lv_aload_n hx hb dX9_bagsUpTo_10 rfl (lv_at hl 0 rfl) ?_
        refine lv_iload_n hx hb dX9_bagsUpTo_11 rfl (lv_at hl 3 rfl) ?_
        obtain ⟨t2, ht2, hf⟩ := ob hf
        refine k_PVi hC LX9_115 ⟨Nat.le_of_ble_eq_true rfl, Nat.le_of_ble_eq_true rfl⟩ ⟨Nat.zero_le _, Nat.zero_le _⟩ (cM_begins l E ad x a3 t2 ht2) rfl rfl hP rfl rfl hl.1 rfl (Nat.le_of_ble_eq_true rfl) rfl dX9_bagsUpTo_12 (fun hz12 => ?_)
        refine lv_if_eq (tgt := 22) hx hb dX9_bagsUpTo_15 (by decide) (fun c3 => ?_) (fun c3 => ?_)
        · have hf := ite_t hf c3
          refine lv_iconst (v := 0) hx hb dX9_bagsUpTo_22 (by decide) ?_
          refine lv_iadd hx hb dX9_bagsUpTo_23 ?_
          refine lv_istore_n (lv' := [(2, .int (a2 + (0 : Int32))), (0, .ref (ad 0)), (1, .int a1), (3, .int a3)]) hx hb dX9_bagsUpTo_24 rfl hl (by decide) rfl (fun ls hl => ?_)
          refine lv_iinc (v := (a3 + (1 : Int32))) (lv' := [(3, .int (a3 + (1 : Int32))), (2, .int (a2 + (0 : Int32))), (0, .ref (ad 0)), (1, .int a1)]) hx hb dX9_bagsUpTo_25 hl (k := 3) rfl rfl (by decide) rfl (fun ls hl => ?_)
          refine lv_goto (tgt := 4) hx hb dX9_bagsUpTo_28 (by decide) ?_
          exact ih a1 (a2 + (0 : Int32)) (a3 + (1 : Int32)) ls (lv_sub hl [2, 3, 1, 0] rfl) hf
        · have hf := ite_f hf c3
          refine lv_iconst (v := 1) hx hb dX9_bagsUpTo_18 (by decide) ?_
          refine lv_goto (tgt := 23) hx hb dX9_bagsUpTo_19 (by decide) ?_
          refine lv_iadd hx hb dX9_bagsUpTo_23 ?_
          refine lv_istore_n (lv' := [(2, .int (a2 + (1 : Int32))), (0, .ref (ad 0)), (1, .int a1), (3, .int a3)]) hx hb dX9_bagsUpTo_24 rfl hl (by decide) rfl (fun ls hl => ?_)
          refine lv_iinc (v := (a3 + (1 : Int32))) (lv' := [(3, .int (a3 + (1 : Int32))), (2, .int (a2 + (1 : Int32))), (0, .ref (ad 0)), (1, .int a1)]) hx hb dX9_bagsUpTo_25 hl (k := 3) rfl rfl (by decide) rfl (fun ls hl => ?_)
          refine lv_goto (tgt := 4) hx hb dX9_bagsUpTo_28 (by decide) ?_
          exact ih a1 (a2 + (1 : Int32)) (a3 + (1 : Int32)) ls (lv_sub hl [2, 3, 1, 0] rfl) hf
  rw [fM_bagsUpTo] at hf
  refine lv_iconst (v := 0) hx hb dX9_bagsUpTo_0 (by decide) ?_
  refine lv_istore_n (lv' := [(2, .int (0 : Int32)), (0, .ref (ad 0)), (1, .int a1)]) hx hb dX9_bagsUpTo_1 rfl hl (by decide) rfl (fun ls hl => ?_)
  refine lv_iconst (v := 0) hx hb dX9_bagsUpTo_2 (by decide) ?_
  refine lv_istore_n (lv' := [(3, .int (0 : Int32)), (2, .int (0 : Int32)), (0, .ref (ad 0)), (1, .int a1)]) hx hb dX9_bagsUpTo_3 rfl hl (by decide) rfl (fun ls hl => ?_)
  exact L4 FU a1 (0 : Int32) (0 : Int32) ls (lv_sub hl [2, 3, 1, 0] rfl) hf
abbrev rmM_bags : Room := { frames := 3, cells := 0, slots := 0, locals := 65 }
set_option maxHeartbeats 4000000 in
set_option maxRecDepth 100000 in
theorem cM_bags (l : Launch) (E : eE) (ad : Nat → Nat) (x : TM) (r : Int32) (hf : fM_bags x.2.2.2.2.1 = some r) : cP l E yX9_bags cX9_bags 1 (some .int) rmM_bags [.ref (ad 0)] (wM E ad x) (some (.int r)) := by
  refine Met.ofW (cc := cX9_bags) (maxL := 1) (ret := (some .int)) (by decide) rfl ?_
  intro p e s m args below meth c s₁ B hml hv
  obtain ⟨hargs, hP, hK⟩ := hv
  have hx := B.exec
  have hb := B.bytes
  have hr := B.returns
  have hts := atoms_spec (ws := ws_ yX9_bags cX9_bags 1 (some .int)) B.pre
  have hta : ∀ w ∈ lw_all, w.before args s = true := fun w h => hts w (List.mem_cons_of_mem _ h)
  have hown : s.vm.findClass RX9 = some m.cls := findClass_of_methodNamed B.named
  have hlocks := B.notSynchronized
  have hC : Cx p s m args c cX9_bags 1 RX9 E := ⟨hx, hb, hml, hown, hta, hK⟩
  obtain ⟨ls, he, hl⟩ := entry_ (m := m) (n := 1) hargs (Nat.le_of_ble_eq_true rfl)
  rw [he]
  have hl : lv_has ls 1 [(0, .ref (ad 0))] := hl
  show W p l e rmM_bags s m args below meth c s.heap [] 0 0 (MQ below (qP (some .int) (some (.int r))) args s 0 0 (fun _ => False)) (F0 m 0 ls [])
  rw [fM_bags] at hf
  refine lv_aload_n hx hb dX9_bags_0 rfl (lv_at hl 0 rfl) ?_
  refine lv_aload_n hx hb dX9_bags_1 rfl (lv_at hl 0 rfl) ?_
  refine gX9_7 hC hP 0 rfl (v := .ref (ad 1)) rfl dX9_bags_2 ?_
  refine lv_iconst (v := 0) hx hb dX9_bags_5 (by decide) ?_
  obtain ⟨v1, hv1, hf⟩ := ob hf
  obtain ⟨hv1a, hv1b⟩ := ldA_ok hv1
  refine a_ild hC hP 1 rfl hv1a hv1b dX9_bags_6 ?_
  refine lv_iconst (v := 1) hx hb dX9_bags_7 (by decide) ?_
  refine lv_isub hx hb dX9_bags_8 ?_
  obtain ⟨t2, ht2, hf⟩ := ob hf
  refine k_PVi hC LX9_118 ⟨Nat.le_of_ble_eq_true rfl, Nat.le_of_ble_eq_true rfl⟩ ⟨Nat.zero_le _, Nat.zero_le _⟩ (cM_bagsUpTo l E ad x (v1 - (1 : Int32)) t2 ht2) rfl rfl hP rfl rfl hl.1 rfl (Nat.le_of_ble_eq_true rfl) rfl dX9_bags_9 (fun hz9 => ?_)
  have hf := Option.some.inj hf
  exact e_Pi hC hr hlocks hf dX9_bags_12
abbrev rmM_beginOf : Room := { frames := 3, cells := 0, slots := 0, locals := 65 }
set_option maxHeartbeats 4000000 in
set_option maxRecDepth 100000 in
theorem cM_beginOf (l : Launch) (E : eE) (ad : Nat → Nat) (x : TM) (a1 : Int32) (r : Int32) (hf : fM_beginOf x.2.2.2.2.1 a1 = some r) : cP l E yX9_beginOf cX9_beginOf 3 (some .int) rmM_beginOf [.ref (ad 0), .int a1] (wM E ad x) (some (.int r)) := by
  refine Met.ofW (cc := cX9_beginOf) (maxL := 3) (ret := (some .int)) (by decide) rfl ?_
  intro p e s m args below meth c s₁ B hml hv
  obtain ⟨hargs, hP, hK⟩ := hv
  have hx := B.exec
  have hb := B.bytes
  have hr := B.returns
  have hts := atoms_spec (ws := ws_ yX9_beginOf cX9_beginOf 3 (some .int)) B.pre
  have hta : ∀ w ∈ lw_all, w.before args s = true := fun w h => hts w (List.mem_cons_of_mem _ h)
  have hown : s.vm.findClass RX9 = some m.cls := findClass_of_methodNamed B.named
  have hlocks := B.notSynchronized
  have hC : Cx p s m args c cX9_beginOf 3 RX9 E := ⟨hx, hb, hml, hown, hta, hK⟩
  obtain ⟨ls, he, hl⟩ := entry_ (m := m) (n := 3) hargs (Nat.le_of_ble_eq_true rfl)
  rw [he]
  have hl : lv_has ls 3 [(0, .ref (ad 0)), (1, .int a1)] := hl
  show W p l e rmM_beginOf s m args below meth c s.heap [] 0 0 (MQ below (qP (some .int) (some (.int r))) args s 0 0 (fun _ => False)) (F0 m 0 ls [])
  have L2 : ∀ (n : Nat) (a1 : Int32) (a2 : Int32) (ls : Array Slot), lv_has ls 3 [(0, .ref (ad 0)), (1, .int a1), (2, .int a2)] → fM_beginOf_2 n x.2.2.2.2.1 a1 a2 = some r → W p l e rmM_beginOf s m args below meth c s.heap [] 0 0 (MQ below (qP (some .int) (some (.int r))) args s 0 0 (fun _ => False)) (F0 m 2 ls []) := by
    intro n
    induction n with
    | zero => intro a1 a2 ls hl hf; cases hf
    | succ n ih =>
      intro a1 a2 ls hl hf
      rw [fM_beginOf_2] at hf
      refine lv_iload_n hx hb dX9_beginOf_2 rfl (lv_at hl 2 rfl) ?_
      refine lv_aload_n hx hb dX9_beginOf_3 rfl (lv_at hl 0 rfl) ?_
      refine gX9_7 hC hP 0 rfl (v := .ref (ad 1)) rfl dX9_beginOf_4 ?_
      refine lv_iconst (v := 0) hx hb dX9_beginOf_7 (by decide) ?_
      obtain ⟨v1, hv1, hf⟩ := ob hf
      obtain ⟨hv1a, hv1b⟩ := ldA_ok hv1
      refine a_ild hC hP 1 rfl hv1a hv1b dX9_beginOf_8 ?_
      refine lv_icmp_ge (tgt := 27) hx hb dX9_beginOf_9 (by decide) (fun c2 => ?_) (fun c2 => ?_)
      · have hf := ite_t hf c2
        refine lv_iload_n hx hb dX9_beginOf_27 rfl (lv_at hl 2 rfl) ?_
        have hf := Option.some.inj hf
        exact e_Pi hC hr hlocks hf dX9_beginOf_28
      · have hf := ite_f hf c2
        refine lv_aload_n hx hb dX9_beginOf_12 rfl (lv_at hl 0 rfl) ?_
        refine lv_iload_n hx hb dX9_beginOf_13 rfl (lv_at hl 2 rfl) ?_
        obtain ⟨t3, ht3, hf⟩ := ob hf
        refine k_PVi hC LX9_118 ⟨Nat.le_of_ble_eq_true rfl, Nat.le_of_ble_eq_true rfl⟩ ⟨Nat.zero_le _, Nat.zero_le _⟩ (cM_bagsUpTo l E ad x a2 t3 ht3) rfl rfl hP rfl rfl hl.1 rfl (Nat.le_of_ble_eq_true rfl) rfl dX9_beginOf_14 (fun hz14 => ?_)
        refine lv_iload_n hx hb dX9_beginOf_17 rfl (lv_at hl 1 rfl) ?_
        refine lv_icmp_gt (tgt := 27) hx hb dX9_beginOf_18 (by decide) (fun c4 => ?_) (fun c4 => ?_)
        · have hf := ite_t hf c4
          refine lv_iload_n hx hb dX9_beginOf_27 rfl (lv_at hl 2 rfl) ?_
          have hf := Option.some.inj hf
          exact e_Pi hC hr hlocks hf dX9_beginOf_28
        · have hf := ite_f hf c4
          refine lv_iinc (v := (a2 + (1 : Int32))) (lv' := [(2, .int (a2 + (1 : Int32))), (0, .ref (ad 0)), (1, .int a1)]) hx hb dX9_beginOf_21 hl (k := 2) rfl rfl (by decide) rfl (fun ls hl => ?_)
          refine lv_goto (tgt := 2) hx hb dX9_beginOf_24 (by decide) ?_
          exact ih a1 (a2 + (1 : Int32)) ls (lv_sub hl [1, 2, 0] rfl) hf
  rw [fM_beginOf] at hf
  refine lv_iconst (v := 0) hx hb dX9_beginOf_0 (by decide) ?_
  refine lv_istore_n (lv' := [(2, .int (0 : Int32)), (0, .ref (ad 0)), (1, .int a1)]) hx hb dX9_beginOf_1 rfl hl (by decide) rfl (fun ls hl => ?_)
  exact L2 FU a1 (0 : Int32) ls (lv_sub hl [1, 2, 0] rfl) hf
abbrev rmM_findsRows : Room := { frames := 1, cells := 0, slots := 0, locals := 21 }
set_option maxHeartbeats 4000000 in
set_option maxRecDepth 100000 in
theorem cM_findsRows (l : Launch) (E : eE) (ad : Nat → Nat) (x : TM) (t : (Nat → Int32)) (hf : fM_findsRows x.2.2.2.2.1 x.2.2.2.2.2.2.2.2.2.2.2.1 = some t) : cW l E yX9_findsRows cX9_findsRows 7 none rmM_findsRows [.ref (ad 0)] (wM E ad x) none (wM E ad (x.1, x.2.1, x.2.2.1, x.2.2.2.1, x.2.2.2.2.1, x.2.2.2.2.2.1, x.2.2.2.2.2.2.1, x.2.2.2.2.2.2.2.1, x.2.2.2.2.2.2.2.2.1, x.2.2.2.2.2.2.2.2.2.1, x.2.2.2.2.2.2.2.2.2.2.1, t, x.2.2.2.2.2.2.2.2.2.2.2.2)) := by
  refine Met.ofW (cc := cX9_findsRows) (maxL := 7) (ret := none) (by decide) rfl ?_
  intro p e s m args below meth c s₁ B hml hv
  obtain ⟨hargs, hP, hK, hD0⟩ := hv
  have hx := B.exec
  have hb := B.bytes
  have hr := B.returns
  have hts := atoms_spec (ws := ws_ yX9_findsRows cX9_findsRows 7 none) B.pre
  have hta : ∀ w ∈ lw_all, w.before args s = true := fun w h => hts w (List.mem_cons_of_mem _ h)
  have hown : s.vm.findClass RX9 = some m.cls := findClass_of_methodNamed B.named
  have hlocks := B.notSynchronized
  have hC : Cx p s m args c cX9_findsRows 7 RX9 E := ⟨hx, hb, hml, hown, hta, hK⟩
  have hH : Hp E (adr (wM E ad x)) (wM E ad x) s.heap s.heap [] := Hp.start hP hD0
  obtain ⟨ls, he, hl⟩ := entry_ (m := m) (n := 7) hargs (Nat.le_of_ble_eq_true rfl)
  rw [he]
  have hl : lv_has ls 7 [(0, .ref (ad 0))] := hl
  show W p l e rmM_findsRows s m args below meth c s.heap [] 0 0 (MQ below (qW E none none (wM E ad x) (wM E ad (x.1, x.2.1, x.2.2.1, x.2.2.2.1, x.2.2.2.2.1, x.2.2.2.2.2.1, x.2.2.2.2.2.2.1, x.2.2.2.2.2.2.2.1, x.2.2.2.2.2.2.2.2.1, x.2.2.2.2.2.2.2.2.2.1, x.2.2.2.2.2.2.2.2.2.2.1, t, x.2.2.2.2.2.2.2.2.2.2.2.2))) args s 0 0 (adr (wM E ad x))) (F0 m 0 ls [])
  suffices hmain : ∀ (H : Heap) (locs : List Loc), Hp E (adr (wM E ad x)) (wM E ad x) s.heap H locs → W p l e rmM_findsRows s m args below meth c H locs 0 0 (MQ below (qW E none none (wM E ad x) (wM E ad (x.1, x.2.1, x.2.2.1, x.2.2.2.1, x.2.2.2.2.1, x.2.2.2.2.2.1, x.2.2.2.2.2.2.1, x.2.2.2.2.2.2.2.1, x.2.2.2.2.2.2.2.2.1, x.2.2.2.2.2.2.2.2.2.1, x.2.2.2.2.2.2.2.2.2.2.1, t, x.2.2.2.2.2.2.2.2.2.2.2.2))) args s 0 0 (adr (wM E ad x))) (F0 m 0 ls []) from hmain _ _ hH
  clear hH
  have L51 : ∀ (n : Nat) (y0_11 : (Nat → Int32)) (a1 : Int32) (a2 : Int32) (a3 : Int32) (a4 : Int32) (a5 : Int32) (ls : Array Slot), lv_has ls 7 [(0, .ref (ad 0)), (1, .int a1), (2, .int a2), (3, .int a3), (4, .int a4), (5, .int a5)] → ∀ (H : Heap) (locs : List Loc), Hp E (adr (wM E ad x)) (wM E ad (x.1, x.2.1, x.2.2.1, x.2.2.2.1, x.2.2.2.2.1, x.2.2.2.2.2.1, x.2.2.2.2.2.2.1, x.2.2.2.2.2.2.2.1, x.2.2.2.2.2.2.2.2.1, x.2.2.2.2.2.2.2.2.2.1, x.2.2.2.2.2.2.2.2.2.2.1, y0_11, x.2.2.2.2.2.2.2.2.2.2.2.2)) s.heap H locs → ∀ (o : Int32 × (Nat → Int32)), fM_findsRows_51 n x.2.2.2.2.1 y0_11 a1 a2 a3 a4 a5 = some o → (∀ (ls : Array Slot), lv_has ls 7 [(0, .ref (ad 0)), (1, .int a1), (2, .int a2), (3, .int o.1), (4, .int a4)] → ∀ (H : Heap) (locs : List Loc), Hp E (adr (wM E ad x)) (wM E ad (x.1, x.2.1, x.2.2.1, x.2.2.2.1, x.2.2.2.2.1, x.2.2.2.2.2.1, x.2.2.2.2.2.2.1, x.2.2.2.2.2.2.2.1, x.2.2.2.2.2.2.2.2.1, x.2.2.2.2.2.2.2.2.2.1, x.2.2.2.2.2.2.2.2.2.2.1, o.2, x.2.2.2.2.2.2.2.2.2.2.2.2)) s.heap H locs → W p l e rmM_findsRows s m args below meth c H locs 0 0 (MQ below (qW E none none (wM E ad x) (wM E ad (x.1, x.2.1, x.2.2.1, x.2.2.2.1, x.2.2.2.2.1, x.2.2.2.2.2.1, x.2.2.2.2.2.2.1, x.2.2.2.2.2.2.2.1, x.2.2.2.2.2.2.2.2.1, x.2.2.2.2.2.2.2.2.2.1, x.2.2.2.2.2.2.2.2.2.2.1, t, x.2.2.2.2.2.2.2.2.2.2.2.2))) args s 0 0 (adr (wM E ad x))) (F0 m 110 ls [])) → W p l e rmM_findsRows s m args below meth c H locs 0 0 (MQ below (qW E none none (wM E ad x) (wM E ad (x.1, x.2.1, x.2.2.1, x.2.2.2.1, x.2.2.2.2.1, x.2.2.2.2.2.1, x.2.2.2.2.2.2.1, x.2.2.2.2.2.2.2.1, x.2.2.2.2.2.2.2.2.1, x.2.2.2.2.2.2.2.2.2.1, x.2.2.2.2.2.2.2.2.2.2.1, t, x.2.2.2.2.2.2.2.2.2.2.2.2))) args s 0 0 (adr (wM E ad x))) (F0 m 51 ls []) := by
    intro n
    induction n with
    | zero => intro y0_11 a1 a2 a3 a4 a5 ls hl H locs hH o hf hk; cases hf
    | succ n ih =>
      intro y0_11 a1 a2 a3 a4 a5 ls hl H locs hH o hf hk
      rw [fM_findsRows_51] at hf
      refine lv_iload hx hb dX9_findsRows_51 (lv_at hl 5 rfl) ?_
      refine lv_iload_n hx hb dX9_findsRows_53 rfl (lv_at hl 1 rfl) ?_
      refine lv_icmp_ge (tgt := 110) hx hb dX9_findsRows_54 (by decide) (fun c5 => ?_) (fun c5 => ?_)
      · have hf := ite_t hf c5
        cases hf
        exact hk ls (lv_sub hl [0, 1, 2, 3, 4] rfl) _ _ hH
      · have hf := ite_f hf c5
        refine lv_aload_n hx hb dX9_findsRows_57 rfl (lv_at hl 0 rfl) ?_
        refine gX9_22 hC hH.1 0 rfl (v := .ref (ad 5)) rfl dX9_findsRows_58 ?_
        refine lv_bipush (v := 64) hx hb dX9_findsRows_61 (by decide) ?_
        refine lv_iload_n hx hb dX9_findsRows_63 rfl (lv_at hl 2 rfl) ?_
        refine lv_iconst (v := 1) hx hb dX9_findsRows_64 (by decide) ?_
        refine lv_isub hx hb dX9_findsRows_65 ?_
        refine lv_imul hx hb dX9_findsRows_66 ?_
        refine lv_iload hx hb dX9_findsRows_67 (lv_at hl 5 rfl) ?_
        refine lv_iadd hx hb dX9_findsRows_69 ?_
        obtain ⟨v6, hv6, hf⟩ := ob hf
        obtain ⟨hv6a, hv6b⟩ := ldA_ok hv6
        refine a_ild hC hH.1 5 rfl hv6a hv6b dX9_findsRows_70 ?_
        refine lv_istore (lv' := [(6, .int v6), (0, .ref (ad 0)), (1, .int a1), (2, .int a2), (3, .int a3), (4, .int a4), (5, .int a5)]) hx hb dX9_findsRows_71 hl (by decide) rfl (fun ls hl => ?_)
        refine lv_aload_n hx hb dX9_findsRows_73 rfl (lv_at hl 1 rfl) ?_
        refine lv_iload hx hb dX9_findsRows_74 (lv_at hl 0 rfl) ?_
        obtain ⟨t7, ht7, hf⟩ := ob hf
        refine k_PVi hC LX9_86 ⟨Nat.le_of_ble_eq_true rfl, Nat.le_of_ble_eq_true rfl⟩ ⟨Nat.zero_le _, Nat.zero_le _⟩ (cM_is l E ad (x.1, x.2.1, x.2.2.1, x.2.2.2.1, x.2.2.2.2.1, x.2.2.2.2.2.1, x.2.2.2.2.2.2.1, x.2.2.2.2.2.2.2.1, x.2.2.2.2.2.2.2.2.1, x.2.2.2.2.2.2.2.2.2.1, x.2.2.2.2.2.2.2.2.2.2.1, y0_11, x.2.2.2.2.2.2.2.2.2.2.2.2) v6 t7 ht7) rfl rfl hH.1 rfl rfl hl.1 rfl (Nat.le_of_ble_eq_true rfl) rfl dX9_findsRows_76 (fun hz76 => ?_)
        refine lv_iload_n hx hb dX9_findsRows_79 rfl (lv_at hl 3 rfl) ?_
        refine lv_iconst (v := 1) hx hb dX9_findsRows_80 (by decide) ?_
        refine lv_isub hx hb dX9_findsRows_81 ?_
        refine k_PSi hC LX9_121 ⟨Nat.le_of_ble_eq_true rfl, Nat.le_of_ble_eq_true rfl⟩ ⟨Nat.zero_le _, Nat.zero_le _⟩ (cM_bitOf l E t7 (a2 - (1 : Int32)) _ rfl) rfl rfl (vP_nil) hl.1 rfl (Nat.le_of_ble_eq_true rfl) rfl dX9_findsRows_82 (fun hz82 => ?_)
        refine lv_iload hx hb dX9_findsRows_85 (lv_at hl 5 rfl) ?_
        refine lv_icmp_eq (tgt := 93) hx hb dX9_findsRows_87 (by decide) (fun c8 => ?_) (fun c8 => ?_)
        · have hf := ite_t hf c8
          refine lv_aload_n hx hb dX9_findsRows_93 rfl (lv_at hl 1 rfl) ?_
          refine gX9_22 hC hH.1 0 rfl (v := .ref (ad 5)) rfl dX9_findsRows_94 ?_
          refine lv_iload_n hx hb dX9_findsRows_97 rfl (lv_at hl 4 rfl) ?_
          refine lv_iload hx hb dX9_findsRows_98 (lv_at hl 0 rfl) ?_
          obtain ⟨g9, hg9, hf⟩ := ob hf
          obtain ⟨hg9a, hg9b⟩ := stA_ok hg9
          refine a_ist hC hH 5 rfl hg9a hg9b (W1 := wM E ad (x.1, x.2.1, x.2.2.1, x.2.2.2.1, x.2.2.2.2.1, x.2.2.2.2.2.1, x.2.2.2.2.2.2.1, x.2.2.2.2.2.2.2.1, x.2.2.2.2.2.2.2.2.1, x.2.2.2.2.2.2.2.2.2.1, x.2.2.2.2.2.2.2.2.2.2.1, g9, x.2.2.2.2.2.2.2.2.2.2.2.2)) rfl dX9_findsRows_100 (fun H locs hH => ?_)
          refine lv_iinc (v := (a3 + (1 : Int32))) (lv' := [(3, .int (a3 + (1 : Int32))), (6, .int v6), (0, .ref (ad 0)), (1, .int a1), (2, .int a2), (4, .int a4), (5, .int a5)]) hx hb dX9_findsRows_101 hl (k := 4) rfl rfl (by decide) rfl (fun ls hl => ?_)
          refine lv_iinc (v := (a5 + (1 : Int32))) (lv' := [(5, .int (a5 + (1 : Int32))), (3, .int (a3 + (1 : Int32))), (6, .int v6), (0, .ref (ad 0)), (1, .int a1), (2, .int a2), (4, .int a4)]) hx hb dX9_findsRows_104 hl (k := 6) rfl rfl (by decide) rfl (fun ls hl => ?_)
          refine lv_goto (tgt := 51) hx hb dX9_findsRows_107 (by decide) ?_
          exact ih g9 a1 a2 (a3 + (1 : Int32)) a4 (a5 + (1 : Int32)) ls (lv_sub hl [3, 4, 5, 1, 6, 0] rfl) _ _ hH _ hf hk
        · have hf := ite_f hf c8
          refine lv_goto (tgt := 104) hx hb dX9_findsRows_90 (by decide) ?_
          refine lv_iinc (v := (a5 + (1 : Int32))) (lv' := [(5, .int (a5 + (1 : Int32))), (6, .int v6), (0, .ref (ad 0)), (1, .int a1), (2, .int a2), (3, .int a3), (4, .int a4)]) hx hb dX9_findsRows_104 hl (k := 6) rfl rfl (by decide) rfl (fun ls hl => ?_)
          refine lv_goto (tgt := 51) hx hb dX9_findsRows_107 (by decide) ?_
          exact ih y0_11 a1 a2 a3 a4 (a5 + (1 : Int32)) ls (lv_sub hl [2, 3, 4, 5, 6, 0] rfl) _ _ hH _ hf hk
  have L42 : ∀ (n : Nat) (y0_11 : (Nat → Int32)) (a1 : Int32) (a2 : Int32) (a3 : Int32) (a4 : Int32) (ls : Array Slot), lv_has ls 7 [(0, .ref (ad 0)), (1, .int a1), (2, .int a2), (3, .int a3), (4, .int a4)] → ∀ (H : Heap) (locs : List Loc), Hp E (adr (wM E ad x)) (wM E ad (x.1, x.2.1, x.2.2.1, x.2.2.2.1, x.2.2.2.2.1, x.2.2.2.2.2.1, x.2.2.2.2.2.2.1, x.2.2.2.2.2.2.2.1, x.2.2.2.2.2.2.2.2.1, x.2.2.2.2.2.2.2.2.2.1, x.2.2.2.2.2.2.2.2.2.2.1, y0_11, x.2.2.2.2.2.2.2.2.2.2.2.2)) s.heap H locs → ∀ (o : (Nat → Int32)), fM_findsRows_42 n x.2.2.2.2.1 y0_11 a1 a2 a3 a4 = some o → (∀ (ls : Array Slot), lv_has ls 7 [(0, .ref (ad 0)), (1, .int a1), (2, .int a2)] → ∀ (H : Heap) (locs : List Loc), Hp E (adr (wM E ad x)) (wM E ad (x.1, x.2.1, x.2.2.1, x.2.2.2.1, x.2.2.2.2.1, x.2.2.2.2.2.1, x.2.2.2.2.2.2.1, x.2.2.2.2.2.2.2.1, x.2.2.2.2.2.2.2.2.1, x.2.2.2.2.2.2.2.2.2.1, x.2.2.2.2.2.2.2.2.2.2.1, o, x.2.2.2.2.2.2.2.2.2.2.2.2)) s.heap H locs → W p l e rmM_findsRows s m args below meth c H locs 0 0 (MQ below (qW E none none (wM E ad x) (wM E ad (x.1, x.2.1, x.2.2.1, x.2.2.2.1, x.2.2.2.2.1, x.2.2.2.2.2.1, x.2.2.2.2.2.2.1, x.2.2.2.2.2.2.2.1, x.2.2.2.2.2.2.2.2.1, x.2.2.2.2.2.2.2.2.2.1, x.2.2.2.2.2.2.2.2.2.2.1, t, x.2.2.2.2.2.2.2.2.2.2.2.2))) args s 0 0 (adr (wM E ad x))) (F0 m 116 ls [])) → W p l e rmM_findsRows s m args below meth c H locs 0 0 (MQ below (qW E none none (wM E ad x) (wM E ad (x.1, x.2.1, x.2.2.1, x.2.2.2.1, x.2.2.2.2.1, x.2.2.2.2.2.1, x.2.2.2.2.2.2.1, x.2.2.2.2.2.2.2.1, x.2.2.2.2.2.2.2.2.1, x.2.2.2.2.2.2.2.2.2.1, x.2.2.2.2.2.2.2.2.2.2.1, t, x.2.2.2.2.2.2.2.2.2.2.2.2))) args s 0 0 (adr (wM E ad x))) (F0 m 42 ls []) := by
    intro n
    induction n with
    | zero => intro y0_11 a1 a2 a3 a4 ls hl H locs hH o hf hk; cases hf
    | succ n ih =>
      intro y0_11 a1 a2 a3 a4 ls hl H locs hH o hf hk
      rw [fM_findsRows_42] at hf
      refine lv_iload hx hb dX9_findsRows_42 (lv_at hl 4 rfl) ?_
      refine lv_iconst (v := 2) hx hb dX9_findsRows_44 (by decide) ?_
      refine lv_icmp_ge (tgt := 116) hx hb dX9_findsRows_45 (by decide) (fun c4 => ?_) (fun c4 => ?_)
      · have hf := ite_t hf c4
        cases hf
        exact hk ls (lv_sub hl [0, 1, 2] rfl) _ _ hH
      · have hf := ite_f hf c4
        refine lv_iconst (v := 0) hx hb dX9_findsRows_48 (by decide) ?_
        refine lv_istore (lv' := [(5, .int (0 : Int32)), (0, .ref (ad 0)), (1, .int a1), (2, .int a2), (3, .int a3), (4, .int a4)]) hx hb dX9_findsRows_49 hl (by decide) rfl (fun ls hl => ?_)
        obtain ⟨o10, ho10, hf⟩ := ob hf
        refine L51 FU y0_11 a1 a2 a3 a4 (0 : Int32) ls (lv_sub hl [1, 2, 3, 4, 5, 0] rfl) _ _ hH o10 ho10 (fun ls hl H locs hH => ?_)
        refine lv_iinc (v := (a4 + (1 : Int32))) (lv' := [(4, .int (a4 + (1 : Int32))), (0, .ref (ad 0)), (1, .int a1), (2, .int a2), (3, .int o10.1)]) hx hb dX9_findsRows_110 hl (k := 4) rfl rfl (by decide) rfl (fun ls hl => ?_)
        refine lv_goto (tgt := 42) hx hb dX9_findsRows_113 (by decide) ?_
        exact ih o10.2 a1 a2 o10.1 (a4 + (1 : Int32)) ls (lv_sub hl [1, 2, 3, 4, 0] rfl) _ _ hH _ hf hk
  have L29 : ∀ (n : Nat) (y0_11 : (Nat → Int32)) (a1 : Int32) (a2 : Int32) (ls : Array Slot), lv_has ls 7 [(0, .ref (ad 0)), (1, .int a1), (2, .int a2)] → ∀ (H : Heap) (locs : List Loc), Hp E (adr (wM E ad x)) (wM E ad (x.1, x.2.1, x.2.2.1, x.2.2.2.1, x.2.2.2.2.1, x.2.2.2.2.2.1, x.2.2.2.2.2.2.1, x.2.2.2.2.2.2.2.1, x.2.2.2.2.2.2.2.2.1, x.2.2.2.2.2.2.2.2.2.1, x.2.2.2.2.2.2.2.2.2.2.1, y0_11, x.2.2.2.2.2.2.2.2.2.2.2.2)) s.heap H locs → fM_findsRows_29 n x.2.2.2.2.1 y0_11 a1 a2 = some t → W p l e rmM_findsRows s m args below meth c H locs 0 0 (MQ below (qW E none none (wM E ad x) (wM E ad (x.1, x.2.1, x.2.2.1, x.2.2.2.1, x.2.2.2.2.1, x.2.2.2.2.2.1, x.2.2.2.2.2.2.1, x.2.2.2.2.2.2.2.1, x.2.2.2.2.2.2.2.2.1, x.2.2.2.2.2.2.2.2.2.1, x.2.2.2.2.2.2.2.2.2.2.1, t, x.2.2.2.2.2.2.2.2.2.2.2.2))) args s 0 0 (adr (wM E ad x))) (F0 m 29 ls []) := by
    intro n
    induction n with
    | zero => intro y0_11 a1 a2 ls hl H locs hH hf; cases hf
    | succ n ih =>
      intro y0_11 a1 a2 ls hl H locs hH hf
      rw [fM_findsRows_29] at hf
      refine lv_iload_n hx hb dX9_findsRows_29 rfl (lv_at hl 2 rfl) ?_
      refine lv_iconst (v := 5) hx hb dX9_findsRows_30 (by decide) ?_
      refine lv_icmp_ge (tgt := 122) hx hb dX9_findsRows_31 (by decide) (fun c3 => ?_) (fun c3 => ?_)
      · have hf := ite_t hf c3
        cases hf
        exact e_Wv hC hH hr hlocks rfl dX9_findsRows_122
      · have hf := ite_f hf c3
        refine lv_bipush (v := 64) hx hb dX9_findsRows_34 (by decide) ?_
        refine lv_iload_n hx hb dX9_findsRows_36 rfl (lv_at hl 2 rfl) ?_
        refine lv_imul hx hb dX9_findsRows_37 ?_
        refine lv_istore_n (lv' := [(3, .int ((64 : Int32) * a2)), (0, .ref (ad 0)), (1, .int a1), (2, .int a2)]) hx hb dX9_findsRows_38 rfl hl (by decide) rfl (fun ls hl => ?_)
        refine lv_iconst (v := 0) hx hb dX9_findsRows_39 (by decide) ?_
        refine lv_istore (lv' := [(4, .int (0 : Int32)), (3, .int ((64 : Int32) * a2)), (0, .ref (ad 0)), (1, .int a1), (2, .int a2)]) hx hb dX9_findsRows_40 hl (by decide) rfl (fun ls hl => ?_)
        obtain ⟨o11, ho11, hf⟩ := ob hf
        refine L42 FU y0_11 a1 a2 ((64 : Int32) * a2) (0 : Int32) ls (lv_sub hl [2, 3, 4, 1, 0] rfl) _ _ hH o11 ho11 (fun ls hl H locs hH => ?_)
        refine lv_iinc (v := (a2 + (1 : Int32))) (lv' := [(2, .int (a2 + (1 : Int32))), (0, .ref (ad 0)), (1, .int a1)]) hx hb dX9_findsRows_116 hl (k := 2) rfl rfl (by decide) rfl (fun ls hl => ?_)
        refine lv_goto (tgt := 29) hx hb dX9_findsRows_119 (by decide) ?_
        exact ih o11 a1 (a2 + (1 : Int32)) ls (lv_sub hl [1, 2, 0] rfl) _ _ hH hf
  have L9 : ∀ (n : Nat) (y0_11 : (Nat → Int32)) (a1 : Int32) (a2 : Int32) (ls : Array Slot), lv_has ls 7 [(0, .ref (ad 0)), (1, .int a1), (2, .int a2)] → ∀ (H : Heap) (locs : List Loc), Hp E (adr (wM E ad x)) (wM E ad (x.1, x.2.1, x.2.2.1, x.2.2.2.1, x.2.2.2.2.1, x.2.2.2.2.2.1, x.2.2.2.2.2.2.1, x.2.2.2.2.2.2.2.1, x.2.2.2.2.2.2.2.2.1, x.2.2.2.2.2.2.2.2.2.1, x.2.2.2.2.2.2.2.2.2.2.1, y0_11, x.2.2.2.2.2.2.2.2.2.2.2.2)) s.heap H locs → fM_findsRows_9 n x.2.2.2.2.1 y0_11 a1 a2 = some t → W p l e rmM_findsRows s m args below meth c H locs 0 0 (MQ below (qW E none none (wM E ad x) (wM E ad (x.1, x.2.1, x.2.2.1, x.2.2.2.1, x.2.2.2.2.1, x.2.2.2.2.2.1, x.2.2.2.2.2.2.1, x.2.2.2.2.2.2.2.1, x.2.2.2.2.2.2.2.2.1, x.2.2.2.2.2.2.2.2.2.1, x.2.2.2.2.2.2.2.2.2.2.1, t, x.2.2.2.2.2.2.2.2.2.2.2.2))) args s 0 0 (adr (wM E ad x))) (F0 m 9 ls []) := by
    intro n
    induction n with
    | zero => intro y0_11 a1 a2 ls hl H locs hH hf; cases hf
    | succ n ih =>
      intro y0_11 a1 a2 ls hl H locs hH hf
      rw [fM_findsRows_9] at hf
      refine lv_iload_n hx hb dX9_findsRows_9 rfl (lv_at hl 2 rfl) ?_
      refine lv_iload_n hx hb dX9_findsRows_10 rfl (lv_at hl 1 rfl) ?_
      refine lv_icmp_ge (tgt := 27) hx hb dX9_findsRows_11 (by decide) (fun c2 => ?_) (fun c2 => ?_)
      · have hf := ite_t hf c2
        refine lv_iconst (v := 1) hx hb dX9_findsRows_27 (by decide) ?_
        refine lv_istore_n (lv' := [(2, .int (1 : Int32)), (0, .ref (ad 0)), (1, .int a1)]) hx hb dX9_findsRows_28 rfl hl (by decide) rfl (fun ls hl => ?_)
        exact L29 FU y0_11 a1 (1 : Int32) ls (lv_sub hl [1, 2, 0] rfl) _ _ hH hf
      · have hf := ite_f hf c2
        refine lv_aload_n hx hb dX9_findsRows_14 rfl (lv_at hl 0 rfl) ?_
        refine gX9_22 hC hH.1 0 rfl (v := .ref (ad 5)) rfl dX9_findsRows_15 ?_
        refine lv_iload_n hx hb dX9_findsRows_18 rfl (lv_at hl 2 rfl) ?_
        refine lv_iload_n hx hb dX9_findsRows_19 rfl (lv_at hl 2 rfl) ?_
        obtain ⟨g12, hg12, hf⟩ := ob hf
        obtain ⟨hg12a, hg12b⟩ := stA_ok hg12
        refine a_ist hC hH 5 rfl hg12a hg12b (W1 := wM E ad (x.1, x.2.1, x.2.2.1, x.2.2.2.1, x.2.2.2.2.1, x.2.2.2.2.2.1, x.2.2.2.2.2.2.1, x.2.2.2.2.2.2.2.1, x.2.2.2.2.2.2.2.2.1, x.2.2.2.2.2.2.2.2.2.1, x.2.2.2.2.2.2.2.2.2.2.1, g12, x.2.2.2.2.2.2.2.2.2.2.2.2)) rfl dX9_findsRows_20 (fun H locs hH => ?_)
        refine lv_iinc (v := (a2 + (1 : Int32))) (lv' := [(2, .int (a2 + (1 : Int32))), (0, .ref (ad 0)), (1, .int a1)]) hx hb dX9_findsRows_21 hl (k := 2) rfl rfl (by decide) rfl (fun ls hl => ?_)
        refine lv_goto (tgt := 9) hx hb dX9_findsRows_24 (by decide) ?_
        exact ih g12 a1 (a2 + (1 : Int32)) ls (lv_sub hl [1, 2, 0] rfl) _ _ hH hf
  intro H locs hH
  rw [fM_findsRows] at hf
  refine lv_aload_n hx hb dX9_findsRows_0 rfl (lv_at hl 0 rfl) ?_
  refine gX9_7 hC hH.1 0 rfl (v := .ref (ad 1)) rfl dX9_findsRows_1 ?_
  refine lv_iconst (v := 0) hx hb dX9_findsRows_4 (by decide) ?_
  obtain ⟨v1, hv1, hf⟩ := ob hf
  obtain ⟨hv1a, hv1b⟩ := ldA_ok hv1
  refine a_ild hC hH.1 1 rfl hv1a hv1b dX9_findsRows_5 ?_
  refine lv_istore_n (lv' := [(1, .int v1), (0, .ref (ad 0))]) hx hb dX9_findsRows_6 rfl hl (by decide) rfl (fun ls hl => ?_)
  refine lv_iconst (v := 0) hx hb dX9_findsRows_7 (by decide) ?_
  refine lv_istore_n (lv' := [(2, .int (0 : Int32)), (1, .int v1), (0, .ref (ad 0))]) hx hb dX9_findsRows_8 rfl hl (by decide) rfl (fun ls hl => ?_)
  exact L9 FU x.2.2.2.2.2.2.2.2.2.2.2.1 v1 (0 : Int32) ls (lv_sub hl [2, 1, 0] rfl) _ _ hH hf
abbrev rmM_bitAt : Room := { frames := 1, cells := 0, slots := 0, locals := 21 }
set_option maxHeartbeats 4000000 in
set_option maxRecDepth 100000 in
theorem cM_bitAt (l : Launch) (E : eE) (ad : Nat → Nat) (x : TM) (a1 : Int32) (a2 : Int32) (r : Int32) (hf : fM_bitAt x.2.2.2.2.1 x.2.2.2.2.2.2.2.2.2.2.2.1 a1 a2 = some r) : cP l E yX9_bitAt cX9_bitAt 3 (some .int) rmM_bitAt [.ref (ad 0), .int a1, .int a2] (wM E ad x) (some (.int r)) := by
  refine Met.ofW (cc := cX9_bitAt) (maxL := 3) (ret := (some .int)) (by decide) rfl ?_
  intro p e s m args below meth c s₁ B hml hv
  obtain ⟨hargs, hP, hK⟩ := hv
  have hx := B.exec
  have hb := B.bytes
  have hr := B.returns
  have hts := atoms_spec (ws := ws_ yX9_bitAt cX9_bitAt 3 (some .int)) B.pre
  have hta : ∀ w ∈ lw_all, w.before args s = true := fun w h => hts w (List.mem_cons_of_mem _ h)
  have hown : s.vm.findClass RX9 = some m.cls := findClass_of_methodNamed B.named
  have hlocks := B.notSynchronized
  have hC : Cx p s m args c cX9_bitAt 3 RX9 E := ⟨hx, hb, hml, hown, hta, hK⟩
  obtain ⟨ls, he, hl⟩ := entry_ (m := m) (n := 3) hargs (Nat.le_of_ble_eq_true rfl)
  rw [he]
  have hl : lv_has ls 3 [(0, .ref (ad 0)), (1, .int a1), (2, .int a2)] := hl
  show W p l e rmM_bitAt s m args below meth c s.heap [] 0 0 (MQ below (qP (some .int) (some (.int r))) args s 0 0 (fun _ => False)) (F0 m 0 ls [])
  rw [fM_bitAt] at hf
  refine lv_aload_n hx hb dX9_bitAt_0 rfl (lv_at hl 0 rfl) ?_
  refine lv_aload_n hx hb dX9_bitAt_1 rfl (lv_at hl 0 rfl) ?_
  refine gX9_22 hC hP 0 rfl (v := .ref (ad 5)) rfl dX9_bitAt_2 ?_
  refine lv_bipush (v := 64) hx hb dX9_bitAt_5 (by decide) ?_
  refine lv_iload_n hx hb dX9_bitAt_7 rfl (lv_at hl 1 rfl) ?_
  refine lv_imul hx hb dX9_bitAt_8 ?_
  refine lv_iload_n hx hb dX9_bitAt_9 rfl (lv_at hl 2 rfl) ?_
  refine lv_iadd hx hb dX9_bitAt_10 ?_
  obtain ⟨v1, hv1, hf⟩ := ob hf
  obtain ⟨hv1a, hv1b⟩ := ldA_ok hv1
  refine a_ild hC hP 5 rfl hv1a hv1b dX9_bitAt_11 ?_
  obtain ⟨t2, ht2, hf⟩ := ob hf
  refine k_PVi hC LX9_86 ⟨Nat.le_of_ble_eq_true rfl, Nat.le_of_ble_eq_true rfl⟩ ⟨Nat.zero_le _, Nat.zero_le _⟩ (cM_is l E ad x v1 t2 ht2) rfl rfl hP rfl rfl hl.1 rfl (Nat.le_of_ble_eq_true rfl) rfl dX9_bitAt_12 (fun hz12 => ?_)
  refine lv_iload_n hx hb dX9_bitAt_15 rfl (lv_at hl 1 rfl) ?_
  refine k_PSi hC LX9_121 ⟨Nat.le_of_ble_eq_true rfl, Nat.le_of_ble_eq_true rfl⟩ ⟨Nat.zero_le _, Nat.zero_le _⟩ (cM_bitOf l E t2 a1 _ rfl) rfl rfl (vP_nil) hl.1 rfl (Nat.le_of_ble_eq_true rfl) rfl dX9_bitAt_16 (fun hz16 => ?_)
  have hf := Option.some.inj hf
  exact e_Pi hC hr hlocks hf dX9_bitAt_19
abbrev rmM_bit : Room := { frames := 2, cells := 0, slots := 0, locals := 47 }
set_option maxHeartbeats 4000000 in
set_option maxRecDepth 100000 in
theorem cM_bit (l : Launch) (E : eE) (ad : Nat → Nat) (x : TM) (a1 : Int32) (a2 : Int32) (t : Int32 × (Nat → Int32)) (hf : fM_bit x.2.2.2.2.1 x.2.2.2.2.2.2.2.2.2.2.2.1 a1 a2 = some t) : cW l E yX9_bit cX9_bit 3 (some .int) rmM_bit [.ref (ad 0), .int a1, .int a2] (wM E ad x) (some (.int t.1)) (wM E ad (x.1, x.2.1, x.2.2.1, x.2.2.2.1, x.2.2.2.2.1, x.2.2.2.2.2.1, x.2.2.2.2.2.2.1, x.2.2.2.2.2.2.2.1, x.2.2.2.2.2.2.2.2.1, x.2.2.2.2.2.2.2.2.2.1, x.2.2.2.2.2.2.2.2.2.2.1, t.2, x.2.2.2.2.2.2.2.2.2.2.2.2)) := by
  refine Met.ofW (cc := cX9_bit) (maxL := 3) (ret := (some .int)) (by decide) rfl ?_
  intro p e s m args below meth c s₁ B hml hv
  obtain ⟨hargs, hP, hK, hD0⟩ := hv
  have hx := B.exec
  have hb := B.bytes
  have hr := B.returns
  have hts := atoms_spec (ws := ws_ yX9_bit cX9_bit 3 (some .int)) B.pre
  have hta : ∀ w ∈ lw_all, w.before args s = true := fun w h => hts w (List.mem_cons_of_mem _ h)
  have hown : s.vm.findClass RX9 = some m.cls := findClass_of_methodNamed B.named
  have hlocks := B.notSynchronized
  have hC : Cx p s m args c cX9_bit 3 RX9 E := ⟨hx, hb, hml, hown, hta, hK⟩
  have hH : Hp E (adr (wM E ad x)) (wM E ad x) s.heap s.heap [] := Hp.start hP hD0
  obtain ⟨ls, he, hl⟩ := entry_ (m := m) (n := 3) hargs (Nat.le_of_ble_eq_true rfl)
  rw [he]
  have hl : lv_has ls 3 [(0, .ref (ad 0)), (1, .int a1), (2, .int a2)] := hl
  show W p l e rmM_bit s m args below meth c s.heap [] 0 0 (MQ below (qW E (some .int) (some (.int t.1)) (wM E ad x) (wM E ad (x.1, x.2.1, x.2.2.1, x.2.2.2.1, x.2.2.2.2.1, x.2.2.2.2.2.1, x.2.2.2.2.2.2.1, x.2.2.2.2.2.2.2.1, x.2.2.2.2.2.2.2.2.1, x.2.2.2.2.2.2.2.2.2.1, x.2.2.2.2.2.2.2.2.2.2.1, t.2, x.2.2.2.2.2.2.2.2.2.2.2.2))) args s 0 0 (adr (wM E ad x))) (F0 m 0 ls [])
  suffices hmain : ∀ (H : Heap) (locs : List Loc), Hp E (adr (wM E ad x)) (wM E ad x) s.heap H locs → W p l e rmM_bit s m args below meth c H locs 0 0 (MQ below (qW E (some .int) (some (.int t.1)) (wM E ad x) (wM E ad (x.1, x.2.1, x.2.2.1, x.2.2.2.1, x.2.2.2.2.1, x.2.2.2.2.2.1, x.2.2.2.2.2.2.1, x.2.2.2.2.2.2.2.1, x.2.2.2.2.2.2.2.2.1, x.2.2.2.2.2.2.2.2.2.1, x.2.2.2.2.2.2.2.2.2.2.1, t.2, x.2.2.2.2.2.2.2.2.2.2.2.2))) args s 0 0 (adr (wM E ad x))) (F0 m 0 ls []) from hmain _ _ hH
  clear hH
  intro H locs hH
  rw [fM_bit] at hf
  refine lv_iload_n hx hb dX9_bit_0 rfl (lv_at hl 1 rfl) ?_
  refine k_PSi hC LX9_124 ⟨Nat.le_of_ble_eq_true rfl, Nat.le_of_ble_eq_true rfl⟩ ⟨Nat.zero_le _, Nat.zero_le _⟩ (cM_isRow l E a1 _ rfl) rfl rfl (vP_nil) hl.1 rfl (Nat.le_of_ble_eq_true rfl) rfl dX9_bit_1 (fun hz1 => ?_)
  refine lv_if_eq (tgt := 15) hx hb dX9_bit_4 (by decide) (fun c1 => ?_) (fun c1 => ?_)
  · have hf := ite_t hf c1
    refine lv_bipush (v := (-11)) hx hb dX9_bit_15 (by decide) ?_
    cases hf
    exact e_Wi hC hH hr hlocks rfl rfl dX9_bit_17
  · have hf := ite_f hf c1
    refine lv_aload_n hx hb dX9_bit_7 rfl (lv_at hl 0 rfl) ?_
    refine lv_iload_n hx hb dX9_bit_8 rfl (lv_at hl 2 rfl) ?_
    obtain ⟨t2, ht2, hf⟩ := ob hf
    refine k_PVi hC LX9_89 ⟨Nat.le_of_ble_eq_true rfl, Nat.le_of_ble_eq_true rfl⟩ ⟨Nat.zero_le _, Nat.zero_le _⟩ (cM_isLetter l E ad x a2 t2 ht2) rfl rfl hH.1 rfl rfl hl.1 rfl (Nat.le_of_ble_eq_true rfl) rfl dX9_bit_9 (fun hz9 => ?_)
    refine lv_if_ne (tgt := 18) hx hb dX9_bit_12 (by decide) (fun c3 => ?_) (fun c3 => ?_)
    · have hf := ite_f hf c3
      refine lv_aload_n hx hb dX9_bit_18 rfl (lv_at hl 0 rfl) ?_
      obtain ⟨t4, ht4, hf⟩ := ob hf
      refine k_WVsv hC LX9_127 ⟨Nat.le_of_ble_eq_true rfl, Nat.le_of_ble_eq_true rfl⟩ ⟨Nat.zero_le _, Nat.zero_le _⟩ (cM_findsRows l E ad x t4 ht4) rfl rfl hH rfl rfl rfl hl.1 rfl (Nat.le_of_ble_eq_true rfl) rfl dX9_bit_19 (fun H locs hz19 hH => ?_)
      have hH : Hp E (adr (wM E ad x)) (wM E ad (x.1, x.2.1, x.2.2.1, x.2.2.2.1, x.2.2.2.2.1, x.2.2.2.2.2.1, x.2.2.2.2.2.2.1, x.2.2.2.2.2.2.2.1, x.2.2.2.2.2.2.2.2.1, x.2.2.2.2.2.2.2.2.2.1, x.2.2.2.2.2.2.2.2.2.2.1, t4, x.2.2.2.2.2.2.2.2.2.2.2.2)) s.heap H locs := hH
      refine lv_aload_n hx hb dX9_bit_22 rfl (lv_at hl 0 rfl) ?_
      refine lv_iload_n hx hb dX9_bit_23 rfl (lv_at hl 1 rfl) ?_
      refine lv_iload_n hx hb dX9_bit_24 rfl (lv_at hl 2 rfl) ?_
      obtain ⟨t5, ht5, hf⟩ := ob hf
      refine k_PVi hC LX9_130 ⟨Nat.le_of_ble_eq_true rfl, Nat.le_of_ble_eq_true rfl⟩ ⟨Nat.zero_le _, Nat.zero_le _⟩ (cM_bitAt l E ad (x.1, x.2.1, x.2.2.1, x.2.2.2.1, x.2.2.2.2.1, x.2.2.2.2.2.1, x.2.2.2.2.2.2.1, x.2.2.2.2.2.2.2.1, x.2.2.2.2.2.2.2.2.1, x.2.2.2.2.2.2.2.2.2.1, x.2.2.2.2.2.2.2.2.2.2.1, t4, x.2.2.2.2.2.2.2.2.2.2.2.2) a1 a2 t5 ht5) rfl rfl hH.1 rfl rfl hl.1 rfl (Nat.le_of_ble_eq_true rfl) rfl dX9_bit_25 (fun hz25 => ?_)
      cases hf
      exact e_Wi hC hH hr hlocks rfl rfl dX9_bit_28
    · have hf := ite_t hf c3
      refine lv_bipush (v := (-11)) hx hb dX9_bit_15 (by decide) ?_
      cases hf
      exact e_Wi hC hH hr hlocks rfl rfl dX9_bit_17
