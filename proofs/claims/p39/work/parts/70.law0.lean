/-- what the law's cell answers -/
def cellv (Ln : Nat) (xs : Nat → Int32) (k : Int32) : Int32 := if nI Ln ≤ k then 7919 * k + 12 else xs k.toNatClampNeg
theorem va_X.to {b Ln : Nat} {xs : Nat → Int32} {s U : State} {H : Heap} (h : va_X b Ln xs s s.heap) (hvm : s.vm.Alike U.vm) (hq : H[b]? = s.heap[b]?) : va_X b Ln xs U H := by
  obtain ⟨scr, h1, h2, h3⟩ := h
  exact ⟨scr, by rw [hq]; exact h1, State.isArrayOf_alike hvm h2, h3⟩
/-- a method that reads the script -/
def cA (l : Launch) (E : eE) (b Ln : Nat) (xs : Nat → Int32) (y : MethodName) (b0 : ByteArray) (n : Nat) (ret : Option FieldType) (rm : Room) (av : List Value) (v : Option Value) : Prop :=
  Met l y (ws_ y b0 n ret) rm (va_Pc av (fun U => KX E U ∧ va_X b Ln xs U U.heap)) (qP ret v) 0 0 (fun _ => False)
abbrev rmW_cell : Room := { frames := 0, cells := 0, slots := 0, locals := 0 }
set_option maxHeartbeats 4000000 in
set_option maxRecDepth 100000 in
theorem cW_cell (l : Launch) (E : eE) (b Ln : Nat) (xs : Nat → Int32) (hLn : Ln ≤ 260) (j : Nat) (hj : j < 1000) : cA l E b Ln xs yL_cell cL_cell 2 (some .int) rmW_cell [.ref b, .int (nI j)] (some (.int (cellv Ln xs (nI j)))) := by
  refine Met.ofW (cc := cL_cell) (maxL := 2) (ret := (some .int)) (by decide) rfl ?_
  intro p e s m args below meth c s₁ B hml hv
  obtain ⟨hargs, hK, hX⟩ := hv
  have hx := B.exec
  have hb := B.bytes
  have hr := B.returns
  have hts := atoms_spec (ws := ws_ yL_cell cL_cell 2 (some .int)) B.pre
  have hta : ∀ w ∈ lw_all, w.before args s = true := fun w h => hts w (List.mem_cons_of_mem _ h)
  have hown : s.vm.findClass RL = some m.cls := findClass_of_methodNamed B.named
  have hlocks := B.notSynchronized
  have hC : Cx p s m args c cL_cell 2 RL E := ⟨hx, hb, hml, hown, hta, hK⟩
  obtain ⟨ls, he, hl⟩ := entry_ (m := m) (n := 2) hargs (Nat.le_of_ble_eq_true rfl)
  rw [he]
  have hl : lv_has ls 2 [(0, .ref b), (1, .int (nI j))] := hl
  show W p l e rmW_cell s m args below meth c s.heap [] 0 0 (MQ below (qP (some .int) (some (.int (cellv Ln xs (nI j))))) args s 0 0 (fun _ => False)) (F0 m 0 ls [])
  have hbl : b < s.heap.size := by
    obtain ⟨scr, h1, -⟩ := hX
    exact (Array.getElem?_eq_some_iff.mp h1).1
  have hS : va_S (fun _ => False) s.heap s.heap [] := va_S.rf
  refine lv_iload_n hx hb dL_cell_0 rfl (lv_at hl 1 rfl) ?_
  refine lv_aload_n hx hb dL_cell_1 rfl (lv_at hl 0 rfl) ?_
  refine va_slen hx hb hX hbl (fun z => z) hS dL_cell_2 ?_
  refine lv_icmp_ge (tgt := 12) hx hb dL_cell_3 (by decide) (fun c1 => ?_) (fun c1 => ?_)
  · refine lv_sipush (v := 7919) hx hb dL_cell_12 (by decide) ?_
    refine lv_iload_n hx hb dL_cell_15 rfl (lv_at hl 1 rfl) ?_
    refine lv_imul hx hb dL_cell_16 ?_
    refine lv_bipush (v := 12) hx hb dL_cell_17 (by decide) ?_
    refine lv_iadd hx hb dL_cell_19 ?_
    exact e_Pi hC hr hlocks (by unfold cellv; rw [if_pos (show nI Ln ≤ nI j from c1)]) dL_cell_20
  · have hjl : j < Ln := by
      rcases Nat.lt_or_ge j Ln with z | z
      · exact z
      · exact absurd (nI_le z (by omega)) c1
    refine lv_aload_n hx hb dL_cell_6 rfl (lv_at hl 0 rfl) ?_
    refine lv_iload_n hx hb dL_cell_7 rfl (lv_at hl 1 rfl) ?_
    refine va_sld hx hb hX hbl (fun z => z) hS (vp_in_nI hjl (by omega)) dL_cell_8 ?_
    refine lv_goto (tgt := 20) hx hb dL_cell_9 (by decide) ?_
    exact e_Pi hC hr hlocks (by unfold cellv; rw [if_neg (show ¬ nI Ln ≤ nI j from c1)]) dL_cell_20
theorem LL_242 : LSt RL 242 yL_cell cL_cell 2 (some .int) 2 := ⟨q2_176, q2_177, q1_0, q2_178, by decide +kernel⟩
theorem LL_246 : LSt RL 246 yL_state cL_state 4 (some .long) 1 := ⟨q2_183, q2_184, q1_0, q2_185, by decide +kernel⟩
theorem LL_249 : LSt RL 249 yL_acts cL_acts 4 (some .long) 2 := ⟨q2_236, q2_237, q1_0, q2_238, by decide +kernel⟩
theorem LL_252 : LSt RL 252 yL_undo cL_undo 1 (some .long) 1 := ⟨q2_146, q2_147, q1_0, q2_148, by decide +kernel⟩
theorem LL_260 : LSt RL 260 yL_save cL_save 1 (some .long) 1 := ⟨q2_157, q2_158, q1_0, q2_159, by decide +kernel⟩
theorem LL_262 : LSt RL 262 yL_restore cL_restore 1 (some .long) 1 := ⟨q2_165, q2_166, q1_0, q2_167, by decide +kernel⟩
theorem LL_266 : LSt RL 266 yL_fits cL_fits 10 (some .boolean) 2 := ⟨q3_205, q3_206, q1_0, q3_207, by decide +kernel⟩
/-- what is new lies behind the old heap -/
def AA (s : State) : Nat → Prop := fun q => s.heap.size ≤ q
section LAW
variable {p : Program} {l : Launch} {e : Env} {R0 : Room} {s : State} {m : MethodId} {args : Array Value} {below : List Frame} {meth : Method} {c : Code} {E : eE} {b : Nat} {cells slots : Nat} {Q : State → Prop} {H : Heap} {locs : List Loc} {ls : Array Slot} {rest st : List Value} {pc index nL Ln : Nat} {cc : ByteArray} {own : String} {xs : Nat → Int32}
theorem k_CS {k : Nat} (hk : k < 1000) (hLn : Ln ≤ 260) (hC : Cx p s m args c cc nL own E) (L : LSt own index yL_cell cL_cell 2 (some .int) 2) (hR : rmW_cell.frames + 1 ≤ R0.frames ∧ 8 + (2 + 11) + rmW_cell.locals ≤ R0.locals) (hcs : cells + 0 ≤ R0.cells ∧ slots + 0 ≤ R0.slots) (hX : va_X b Ln xs s s.heap) (hbl : b < s.heap.size) (hS : va_S (AA s) s.heap H locs)
    (hsz : ls.size = nL) (hroom : (rest.map fun v => v.category).sum ≤ 8) (hdg : decode cc pc = .ok (.invokestatic index, 3))
    (kk : W p l e R0 s m args below meth c H locs cells slots Q (F0 m (pc + 3) ls (.int (cellv Ln xs (nI k)) :: rest))) : W p l e R0 s m args below meth c H locs cells slots Q (F0 m pc ls (.int (nI k) :: .ref b :: rest)) := by
  obtain ⟨hx, hb, hml, hown, hta, hK⟩ := hC
  have hp : FrameBlind (va_Pc [.ref b, .int (nI k)] (fun U => KX E U ∧ va_X b Ln xs U U.heap)) ∧ ∀ U : State, U.heap = H → s.WarmedH U.vm → va_Pc [.ref b, .int (nI k)] (fun U => KX E U ∧ va_X b Ln xs U U.heap) [.ref b, .int (nI k)].toArray U :=
    ⟨fun a U g mk h => ⟨h.1, h.2.1.call g mk a, va_X.to (s := U) (U := U.calling g mk a) h.2.2 (Vm.Alike.refl U.vm) rfl⟩, fun U hU hW => ⟨rfl, hK.warm hW, va_X.to hX hW.alike (by rw [hU]; exact hS.2.1 b hbl (Nat.not_le.mpr hbl))⟩⟩
  exact go_P (v := some (.int (cellv Ln xs (nI k)))) (rest := rest) (W.runS ⟨hx, hb, hml, hown, hta⟩ (cW_cell l E b Ln xs hLn k hk) (L.cw hta rfl rfl hR) hp rfl rfl hsz rfl (lv_room hroom) hdg hcs) (fun _ => kk)
end LAW
