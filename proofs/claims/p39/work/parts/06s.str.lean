/-! the texts of the class' own constants, by their places -/
def strL : List Nat := [4, 3, 4, 5, 5, 6, 0, 19, 12, 13, 13, 7, 21, 11, 20]
def strB : List (List Int32) := [[112, 117, 116, 32], [105, 110, 32], [111, 117, 116, 32], [115, 119, 97, 112, 32], [109, 97, 114, 107, 32], [99, 108, 101, 97, 114, 32], [], [112, 117, 116, 32, 51, 59, 112, 117, 116, 32, 49, 55, 59, 109, 97, 114, 107, 32, 52], [105, 110, 32, 48, 32, 57, 59, 111, 117, 116, 32, 49], [115, 119, 97, 112, 32, 48, 59, 115, 119, 97, 112, 32, 49], [109, 97, 114, 107, 32, 50, 59, 109, 97, 114, 107, 32, 55], [99, 108, 101, 97, 114, 32, 50], [112, 117, 116, 32, 51, 49, 59, 115, 119, 97, 112, 32, 48, 59, 105, 110, 32, 49, 32, 49, 50], [111, 117, 116, 32, 48, 59, 111, 117, 116, 32, 48], [109, 97, 114, 107, 32, 51, 59, 99, 108, 101, 97, 114, 32, 51, 59, 112, 117, 116, 32, 48]]
def strR : List (Nat × String) := [(64, "put "), (66, "in "), (68, "out "), (70, "swap "), (72, "mark "), (74, "clear "), (76, "")]
def strLen (i : Nat) : Int32 := nI (strL.getD i 0)
def strEmp (i : Nat) : Int32 := if strL.getD i 0 = 0 then 1 else 0
def strAt (i : Nat) (k : Int32) : Option Int32 := if k < 0 ∨ strL.getD i 0 ≤ k.toNatClampNeg then none else some ((strB.getD i []).getD k.toNatClampNeg 0)
theorem strAt_ok {i : Nat} {k v : Int32} (h : strAt i k = some v) : vp_in k (strL.getD i 0) ∧ (strB.getD i []).getD k.toNatClampNeg 0 = v := by
  unfold strAt at h
  by_cases hc : k < 0 ∨ strL.getD i 0 ≤ k.toNatClampNeg
  · rw [if_pos hc] at h; cases h
  · rw [if_neg hc] at h; exact ⟨hc, Option.some.inj h⟩
theorem str_byte : ∀ i, i < 15 → ∀ j, j < 22 → ((((strB.getD i []).getD j 0) &&& 255).toUInt32 % 65536).toInt32 = (strB.getD i []).getD j 0 ∧ narrow .char (.int ((((strB.getD i []).getD j 0) &&& 255).toUInt32 % 65536).toInt32) = .int ((((strB.getD i []).getD j 0) &&& 255).toUInt32 % 65536).toInt32 := by decide +kernel
theorem strL_lt : ∀ i, strL.getD i 0 < 22 := by
  intro i
  match i with
  | 0 => decide
  | 1 => decide
  | 2 => decide
  | 3 => decide
  | 4 => decide
  | 5 => decide
  | 6 => decide
  | 7 => decide
  | 8 => decide
  | 9 => decide
  | 10 => decide
  | 11 => decide
  | 12 => decide
  | 13 => decide
  | 14 => decide
  | i + 15 => simp [strL]
abbrev eG : Type := (Nat → Nat) × (Nat → Nat)
/-- the texts' cells and the statics that the JDK's own methods read, all out of A -/
def SC (G : eG) (A : Nat → Prop) (U : State) (H : Heap) : Prop :=
  vk_S 15 strL strB G.1 G.2 A U H ∧ va_Z "java/lang/String" "COMPACT_STRINGS" "Z" (.int 1) A U H ∧ va_Zq "jdk/internal/util/Preconditions" "SIOOBE_FORMATTER" "Ljava/util/function/BiFunction;" A U H ∧ (∀ (i : Nat) (q : Nat × String), (strR[i]? = some q → vk_R RX7 q.1 q.2 (G.1 i) U)) ∧ ∃ t, va_Z RL "TEXTS" "[Ljava/lang/String;" (.ref t) A U H ∧ va_T (.object "java/lang/String") t 8 (fun j => .ref (G.1 (7 + j))) A U H
theorem SC.to {G : eG} {A B : Nat → Prop} {s U : State} {H H1 : Heap} (h : SC G A s H) (hW : s.WarmedH U.vm) (hq : ∀ a : Nat, a < H.size → ¬ A a → H1[a]? = H[a]?) (hAB : ∀ q, B q → A q) : SC G B U H1 :=
  ⟨(vk_S.moved hW.alike (h.1.kept hq)).narrow hAB, (va_Z.moved hW.alike (h.2.1.kept hq)).narrow hAB, (va_Zq.moved hW.alike (h.2.2.1.kept hq)).narrow hAB, fun i q hi => vk_R.warm hW (h.2.2.2.1 i q hi), by obtain ⟨t, h1, h2⟩ := h.2.2.2.2; exact ⟨t, (va_Z.moved hW.alike (h1.kept hq)).narrow hAB, (va_T.moved hW.alike (h2.kept hq)).narrow hAB⟩⟩
theorem SC.call {G : eG} {A : Nat → Prop} {U : State} (g : JFrame) (mk : MethodId) (a : Array Value) (h : SC G A U U.heap) : SC G A (U.calling g mk a) (U.calling g mk a).heap :=
  ⟨vk_S.moved (u := U) (U := U.calling g mk a) (Vm.Alike.refl U.vm) h.1, va_Z.moved (u := U) (U := U.calling g mk a) (Vm.Alike.refl U.vm) h.2.1, va_Zq.moved (u := U) (U := U.calling g mk a) (Vm.Alike.refl U.vm) h.2.2.1, fun i q hi => vk_R.same (u := U) rfl (h.2.2.2.1 i q hi), by obtain ⟨t, h1, h2⟩ := h.2.2.2.2; exact ⟨t, va_Z.moved (u := U) (U := U.calling g mk a) (Vm.Alike.refl U.vm) h1, va_T.moved (u := U) (U := U.calling g mk a) (Vm.Alike.refl U.vm) h2⟩⟩
/-- a method that reads texts -/
def cX (l : Launch) (E : eE) (G : eG) (y : MethodName) (b : ByteArray) (n : Nat) (ret : Option FieldType) (rm : Room) (av : List Value) (v : Option Value) : Prop :=
  Met l y (ws_ y b n ret) rm (va_Pc av (fun U => KX E U ∧ SC G (fun _ => False) U U.heap)) (qP ret v) 0 0 (fun _ => False)
/-- a writer that reads texts too -/
def cWS (l : Launch) (E : eE) (G : eG) (y : MethodName) (b : ByteArray) (n : Nat) (ret : Option FieldType) (rm : Room) (av : List Value) (wc : va_W) (v : Option Value) (w1 : va_W) : Prop :=
  Met l y (ws_ y b n ret) rm (va_Pc av (fun U => va_P E.1 vwCl wc U.heap ∧ KX E U ∧ va_D (fun _ => True) wc ∧ SC G (adr wc) U U.heap)) (qW E ret v wc w1) 0 0 (adr wc)
section STR
variable {p : Program} {l : Launch} {e : Env} {R : Room} {s : State} {m : MethodId} {args : Array Value} {below : List Frame} {meth : Method} {c : Code} {H : Heap} {locs : List Loc} {cells slots : Nat} {Q : State → Prop}
variable {cc b0 : ByteArray} {nL maxL index n pc : Nat} {own host : String} {y : MethodName} {ret : Option FieldType} {rm : Room} {E : eE} {G : eG} {a : Addr} {As rest st : List Value} {wc w1 W0 W1 Y : va_W} {v : Option Value} {ls : Array Slot} {A : Nat → Prop} {H0 : Heap} {A9 : Array Value}
theorem pre_X (hK : KX E s) (hSC : SC G A s s.heap) (hS : va_S A s.heap H locs) {av : List Value} : FrameBlind (va_Pc av (fun U => KX E U ∧ SC G (fun _ => False) U U.heap)) ∧ ∀ U : State, U.heap = H → s.WarmedH U.vm → va_Pc av (fun U => KX E U ∧ SC G (fun _ => False) U U.heap) av.toArray U :=
  ⟨fun a U g mk h => ⟨h.1, h.2.1.call g mk a, h.2.2.call g mk a⟩, fun U hU hW => ⟨rfl, hK.warm hW, by rw [hU]; exact hSC.to hW (fun a h1 h2 => hS.2.1 a h1 h2) (fun q h => h.elim)⟩⟩
theorem k_XV {i : Nat} (hC : Cx p s m args c cc nL own E) (L : LV own index y b0 maxL ret n) (hR : rm.frames + 1 ≤ R.frames ∧ 8 + (maxL + 11) + rm.locals ≤ R.locals) (hcs : cells + 0 ≤ R.cells ∧ slots + 0 ≤ R.slots) (hM : cX l E G y b0 maxL ret rm (.ref (G.1 i) :: As) v) (hrc : rm.cells = 0) (hrs : rm.slots = 0) (hSC : SC G A s s.heap) (hS : va_S A s.heap H locs) (hi : i < 15) (hy : y.cls = "java/lang/String")
    (hsz : ls.size = nL) (hn : As.length = n) (hroom : (rest.map fun v => v.category).sum ≤ 8) (hst : st = As.reverse ++ .ref (G.1 i) :: rest) (hdg : decode cc pc = .ok (.invokevirtual index, 3))
    (kk : rtOK ret v → W p l e R s m args below meth c H locs cells slots Q (F0 m (pc + 3) ls (v.toList ++ rest))) : W p l e R s m args below meth c H locs cells slots Q (F0 m pc ls st) := by
  obtain ⟨hx, hb, hml, hown, hta, hK⟩ := hC
  have hp := pre_X (av := .ref (G.1 i) :: As) hK hSC hS
  exact go_P (W.runV ⟨hx, hb, hml, hown, hta⟩ hM (L.cw hta hrc hrs hR) ⟨hp.1, by rw [hy]; exact vk_recv hSC.1 hi hS, hp.2⟩ rfl hn hsz hst (lv_room hroom) hdg hcs) kk
theorem k_XS (hC : Cx p s m args c cc nL own E) (L : LSt own index y b0 maxL ret n) (hR : rm.frames + 1 ≤ R.frames ∧ 8 + (maxL + 11) + rm.locals ≤ R.locals) (hcs : cells + 0 ≤ R.cells ∧ slots + 0 ≤ R.slots) (hM : cX l E G y b0 maxL ret rm As v) (hrc : rm.cells = 0) (hrs : rm.slots = 0) (hSC : SC G A s s.heap) (hS : va_S A s.heap H locs)
    (hsz : ls.size = nL) (hn : As.length = n) (hroom : (rest.map fun v => v.category).sum ≤ 8) (hst : st = As.reverse ++ rest) (hdg : decode cc pc = .ok (.invokestatic index, 3))
    (kk : rtOK ret v → W p l e R s m args below meth c H locs cells slots Q (F0 m (pc + 3) ls (v.toList ++ rest))) : W p l e R s m args below meth c H locs cells slots Q (F0 m pc ls st) := by
  obtain ⟨hx, hb, hml, hown, hta, hK⟩ := hC
  exact go_P (W.runS ⟨hx, hb, hml, hown, hta⟩ hM (L.cw hta hrc hrs hR) (pre_X hK hSC hS) rfl hn hsz hst (lv_room hroom) hdg hcs) kk
theorem k_XVi {i : Nat} {r : Int32} (hC : Cx p s m args c cc nL own E) (L : LV own index y b0 maxL ret n) (hR : rm.frames + 1 ≤ R.frames ∧ 8 + (maxL + 11) + rm.locals ≤ R.locals) (hcs : cells + 0 ≤ R.cells ∧ slots + 0 ≤ R.slots) (hM : cX l E G y b0 maxL ret rm (.ref (G.1 i) :: As) (some (.int r))) (hrc : rm.cells = 0) (hrs : rm.slots = 0) (hSC : SC G A s s.heap) (hS : va_S A s.heap H locs) (hi : i < 15) (hy : y.cls = "java/lang/String")
    (hsz : ls.size = nL) (hn : As.length = n) (hroom : (rest.map fun v => v.category).sum ≤ 8) (hst : st = As.reverse ++ .ref (G.1 i) :: rest) (hdg : decode cc pc = .ok (.invokevirtual index, 3))
    (kk : rtOK ret (some (.int r)) → W p l e R s m args below meth c H locs cells slots Q (F0 m (pc + 3) ls (.int r :: rest))) : W p l e R s m args below meth c H locs cells slots Q (F0 m pc ls st) := k_XV hC L hR hcs hM hrc hrs hSC hS hi hy hsz hn hroom hst hdg kk
theorem k_XSi {r : Int32} (hC : Cx p s m args c cc nL own E) (L : LSt own index y b0 maxL ret n) (hR : rm.frames + 1 ≤ R.frames ∧ 8 + (maxL + 11) + rm.locals ≤ R.locals) (hcs : cells + 0 ≤ R.cells ∧ slots + 0 ≤ R.slots) (hM : cX l E G y b0 maxL ret rm As (some (.int r))) (hrc : rm.cells = 0) (hrs : rm.slots = 0) (hSC : SC G A s s.heap) (hS : va_S A s.heap H locs)
    (hsz : ls.size = nL) (hn : As.length = n) (hroom : (rest.map fun v => v.category).sum ≤ 8) (hst : st = As.reverse ++ rest) (hdg : decode cc pc = .ok (.invokestatic index, 3))
    (kk : rtOK ret (some (.int r)) → W p l e R s m args below meth c H locs cells slots Q (F0 m (pc + 3) ls (.int r :: rest))) : W p l e R s m args below meth c H locs cells slots Q (F0 m pc ls st) := k_XS hC L hR hcs hM hrc hrs hSC hS hsz hn hroom hst hdg kk
theorem k_XSr {r : Value} (hC : Cx p s m args c cc nL own E) (L : LSt own index y b0 maxL ret n) (hR : rm.frames + 1 ≤ R.frames ∧ 8 + (maxL + 11) + rm.locals ≤ R.locals) (hcs : cells + 0 ≤ R.cells ∧ slots + 0 ≤ R.slots) (hM : cX l E G y b0 maxL ret rm As (some r)) (hrc : rm.cells = 0) (hrs : rm.slots = 0) (hSC : SC G A s s.heap) (hS : va_S A s.heap H locs)
    (hsz : ls.size = nL) (hn : As.length = n) (hroom : (rest.map fun v => v.category).sum ≤ 8) (hst : st = As.reverse ++ rest) (hdg : decode cc pc = .ok (.invokestatic index, 3))
    (kk : rtOK ret (some r) → W p l e R s m args below meth c H locs cells slots Q (F0 m (pc + 3) ls (r :: rest))) : W p l e R s m args below meth c H locs cells slots Q (F0 m pc ls st) := k_XS hC L hR hcs hM hrc hrs hSC hS hsz hn hroom hst hdg kk
/-- a call of a writer that reads texts: cells of the first part of a world -/
theorem k_WX (hC : Cx p s m args c cc nL own E) (L : LV own index y b0 maxL ret n) (hR : rm.frames + 1 ≤ R.frames ∧ 8 + (maxL + 11) + rm.locals ≤ R.locals) (hcs : cells + 0 ≤ R.cells ∧ slots + 0 ≤ R.slots) (hM : cWS l E G y b0 maxL ret rm (.ref a :: As) wc v w1) (hrc : rm.cells = 0) (hrs : rm.slots = 0) (hSC : SC G A s s.heap) (hH0 : Hp E A W0 s.heap H locs) (hp0 : W0.Perm (wc ++ Y)) (hp1 : (w1 ++ Y).Perm W1) (had : w1.map Prod.fst = wc.map Prod.fst)
    {ci : Nat} {fs : List Value} {T : u_T} {N : Nat} (he : wc[0]? = some (a, .inr (ci, fs))) (hc : vwCl[ci]? = some (y.cls, T, N)) (hsz : ls.size = nL) (hn : As.length = n) (hroom : (rest.map fun v => v.category).sum ≤ 8) (hst : st = As.reverse ++ .ref a :: rest) (hdg : decode cc pc = .ok (.invokevirtual index, 3))
    (kk : ∀ (H1 : Heap) (locs1 : List Loc), rtOK ret v → Hp E A W1 s.heap H1 locs1 → W p l e R s m args below meth c H1 locs1 cells slots Q (F0 m (pc + 3) ls (v.toList ++ rest))) : W p l e R s m args below meth c H locs cells slots Q (F0 m pc ls st) := by
  obtain ⟨hx, hb, hml, hown, hta, hK⟩ := hC
  have hH := hH0.perm hp0
  have hPc : va_P E.1 vwCl wc H := vP_perm hH.1 (List.Perm.refl _)
  have hDc : va_D A wc := ⟨fun i j x z hi hj h => hH.2.1.1 i j x z (by rw [List.getElem?_append_left (List.getElem?_eq_some_iff.mp hi).1]; exact hi) (by rw [List.getElem?_append_left (List.getElem?_eq_some_iff.mp hj).1]; exact hj) h, fun i x hi => hH.2.1.2 i x (by rw [List.getElem?_append_left (List.getElem?_eq_some_iff.mp hi).1]; exact hi)⟩
  have hA : ∀ q, adr wc q → A q := fun q ⟨e, he, hq⟩ => by
    obtain ⟨j, hj⟩ := List.getElem?_of_mem he
    rw [← hq]
    exact hDc.2 _ _ hj
  have hp : FrameBlind (va_Pc (.ref a :: As) (fun U => va_P E.1 vwCl wc U.heap ∧ KX E U ∧ va_D (fun _ => True) wc ∧ SC G (adr wc) U U.heap)) ∧ ∀ U : State, U.heap = H → s.WarmedH U.vm → va_Pc (.ref a :: As) (fun U => va_P E.1 vwCl wc U.heap ∧ KX E U ∧ va_D (fun _ => True) wc ∧ SC G (adr wc) U U.heap) (Value.ref a :: As).toArray U :=
    ⟨fun a U g mk h => ⟨h.1, h.2.1, h.2.2.1.call g mk a, h.2.2.2.1, h.2.2.2.2.call g mk a⟩, fun U hU hW => ⟨rfl, by rw [hU]; exact hPc, hK.warm hW, hDc.weaken (fun _ _ _ _ => trivial), by rw [hU]; exact hSC.to hW (fun a h1 h2 => hH.2.2.2.1 a h1 h2) hA⟩⟩
  have hr := W.runV ⟨hx, hb, hml, hown, hta⟩ hM (L.cw hta hrc hrs hR) ⟨hp.1, recv_ hK hPc 0 he hc, hp.2⟩ (cells := cells) (slots := slots) (locs := locs) (below := below) (meth := meth) (e := e) (p := p) (l := l) (g := F0 m pc ls st) rfl hn hsz hst (lv_room hroom) hdg hcs
  intro T9 hT X
  obtain ⟨v', st₀, t, T', L9, h0, X', hL, e1, ⟨hv, hz, hP1, hs1, hk1⟩, stp⟩ := hr T9 hT X
  cases hv
  rw [h0] at hs1 hk1
  obtain ⟨t2, a1, b1⟩ := kk T'.heap (locs ++ L9) hz ((hH.app had (by rw [e1]; exact hP1) (by rw [e1]; exact hs1) (by rw [e1]; exact hk1) hL).perm hp1) T' rfl X'
  exact ⟨t2, stp t2 a1, b1⟩
theorem k_WXi {r : Int32} (hC : Cx p s m args c cc nL own E) (L : LV own index y b0 maxL ret n) (hR : rm.frames + 1 ≤ R.frames ∧ 8 + (maxL + 11) + rm.locals ≤ R.locals) (hcs : cells + 0 ≤ R.cells ∧ slots + 0 ≤ R.slots) (hM : cWS l E G y b0 maxL ret rm (.ref a :: As) wc (some (.int r)) w1) (hrc : rm.cells = 0) (hrs : rm.slots = 0) (hSC : SC G A s s.heap) (hH0 : Hp E A W0 s.heap H locs) (hp0 : W0.Perm (wc ++ Y)) (hp1 : (w1 ++ Y).Perm W1) (had : w1.map Prod.fst = wc.map Prod.fst)
    {ci : Nat} {fs : List Value} {T : u_T} {N : Nat} (he : wc[0]? = some (a, .inr (ci, fs))) (hc : vwCl[ci]? = some (y.cls, T, N)) (hsz : ls.size = nL) (hn : As.length = n) (hroom : (rest.map fun v => v.category).sum ≤ 8) (hst : st = As.reverse ++ .ref a :: rest) (hdg : decode cc pc = .ok (.invokevirtual index, 3))
    (kk : ∀ (H1 : Heap) (locs1 : List Loc), rtOK ret (some (.int r)) → Hp E A W1 s.heap H1 locs1 → W p l e R s m args below meth c H1 locs1 cells slots Q (F0 m (pc + 3) ls (.int r :: rest))) : W p l e R s m args below meth c H locs cells slots Q (F0 m pc ls st) := k_WX hC L hR hcs hM hrc hrs hSC hH0 hp0 hp1 had he hc hsz hn hroom hst hdg kk
theorem app_nil_perm {α : Type} (l : List α) : l.Perm (l ++ []) := by rw [List.append_nil]
theorem perm_app_nil {α : Type} (l : List α) : (l ++ []).Perm l := by rw [List.append_nil]
theorem a_tld {t N : Nat} {f : Nat → Value} (hC : Cx p s m args c cc nL own E) (hT : va_T (.object "java/lang/String") t N f A s s.heap) (hS : va_S A s.heap H locs) {i : Int32} (hin : vp_in i N) {v : Value} (hv : f i.toNatClampNeg = v) (hr : v = .null ∨ ∃ a, v = .ref a) (hdg : decode cc pc = .ok (.aaload, 1))
    (kk : W p l e R s m args below meth c H locs cells slots Q (F0 m (pc + 1) ls (v :: rest))) : W p l e R s m args below meth c H locs cells slots Q (F0 m pc ls (.int i :: .ref t :: rest)) := by
  obtain ⟨cell, h1, h2, h3, h4, h5, h6, h7⟩ := hT
  have hlt : i.toNatClampNeg < N := Nat.not_le.mp fun q => hin (Or.inr q)
  have hin' : ¬ (i < 0 ∨ cell.slots.size ≤ i.toNatClampNeg) := by
    intro q
    rcases q with q | q
    · exact hin (Or.inl q)
    · omega
  exact W.aald (v := v) (ty := .object "java/lang/String") hC.1 hC.2.1 (by rw [hS.2.1 t (Array.getElem?_eq_some_iff.mp h1).1 h7]; exact h1) h2 rfl h3 hin' (by rw [h6 _ hlt, hv]) rfl rfl hdg kk
/-- a call of a static writer that reads texts, on the whole world -/
theorem k_WXS (hC : Cx p s m args c cc nL own E) (L : LSt own index y b0 maxL ret n) (hR : rm.frames + 1 ≤ R.frames ∧ 8 + (maxL + 11) + rm.locals ≤ R.locals) (hcs : cells + 0 ≤ R.cells ∧ slots + 0 ≤ R.slots) (hM : cWS l E G y b0 maxL ret rm As wc v w1) (hrc : rm.cells = 0) (hrs : rm.slots = 0) (hSC : SC G A s s.heap) (hH : Hp E A wc s.heap H locs) (had : w1.map Prod.fst = wc.map Prod.fst)
    (hsz : ls.size = nL) (hn : As.length = n) (hroom : (rest.map fun v => v.category).sum ≤ 8) (hst : st = As.reverse ++ rest) (hdg : decode cc pc = .ok (.invokestatic index, 3))
    (kk : ∀ (H1 : Heap) (locs1 : List Loc), rtOK ret v → Hp E A w1 s.heap H1 locs1 → W p l e R s m args below meth c H1 locs1 cells slots Q (F0 m (pc + 3) ls (v.toList ++ rest))) : W p l e R s m args below meth c H locs cells slots Q (F0 m pc ls st) := by
  obtain ⟨hx, hb, hml, hown, hta, hK⟩ := hC
  have hA : ∀ q, adr wc q → A q := fun q ⟨e, he, hq⟩ => by
    obtain ⟨j, hj⟩ := List.getElem?_of_mem he
    rw [← hq]
    exact hH.2.1.2 _ _ hj
  have hp : FrameBlind (va_Pc As (fun U => va_P E.1 vwCl wc U.heap ∧ KX E U ∧ va_D (fun _ => True) wc ∧ SC G (adr wc) U U.heap)) ∧ ∀ U : State, U.heap = H → s.WarmedH U.vm → va_Pc As (fun U => va_P E.1 vwCl wc U.heap ∧ KX E U ∧ va_D (fun _ => True) wc ∧ SC G (adr wc) U U.heap) As.toArray U :=
    ⟨fun a U g mk h => ⟨h.1, h.2.1, h.2.2.1.call g mk a, h.2.2.2.1, h.2.2.2.2.call g mk a⟩, fun U hU hW => ⟨rfl, by rw [hU]; exact hH.1, hK.warm hW, hH.2.1.weaken (fun _ _ _ _ => trivial), by rw [hU]; exact hSC.to hW (fun a h1 h2 => hH.2.2.2.1 a h1 h2) hA⟩⟩
  have hr := W.runS ⟨hx, hb, hml, hown, hta⟩ hM (L.cw hta hrc hrs hR) hp (cells := cells) (slots := slots) (locs := locs) (below := below) (meth := meth) (e := e) (p := p) (l := l) (g := F0 m pc ls st) rfl hn hsz hst (lv_room hroom) hdg hcs
  intro T9 hT X
  obtain ⟨v', st₀, t, T', L9, h0, X', hL, e1, ⟨hv, hz, hP1, hs1, hk1⟩, stp⟩ := hr T9 hT X
  cases hv
  rw [h0] at hs1 hk1
  obtain ⟨t2, a1, b1⟩ := kk T'.heap (locs ++ L9) hz (hH.all had (by rw [e1]; exact hP1) (by rw [e1]; exact hs1) (by rw [e1]; exact hk1) hL) T' rfl X'
  exact ⟨t2, stp t2 a1, b1⟩
theorem k_WXSl {r : Int64} (hC : Cx p s m args c cc nL own E) (L : LSt own index y b0 maxL ret n) (hR : rm.frames + 1 ≤ R.frames ∧ 8 + (maxL + 11) + rm.locals ≤ R.locals) (hcs : cells + 0 ≤ R.cells ∧ slots + 0 ≤ R.slots) (hM : cWS l E G y b0 maxL ret rm As wc (some (.long r)) w1) (hrc : rm.cells = 0) (hrs : rm.slots = 0) (hSC : SC G A s s.heap) (hH : Hp E A wc s.heap H locs) (had : w1.map Prod.fst = wc.map Prod.fst)
    (hsz : ls.size = nL) (hn : As.length = n) (hroom : (rest.map fun v => v.category).sum ≤ 8) (hst : st = As.reverse ++ rest) (hdg : decode cc pc = .ok (.invokestatic index, 3))
    (kk : ∀ (H1 : Heap) (locs1 : List Loc), rtOK ret (some (.long r)) → Hp E A w1 s.heap H1 locs1 → W p l e R s m args below meth c H1 locs1 cells slots Q (F0 m (pc + 3) ls (.long r :: rest))) : W p l e R s m args below meth c H locs cells slots Q (F0 m pc ls st) := k_WXS hC L hR hcs hM hrc hrs hSC hH had hsz hn hroom hst hdg kk
end STR
theorem LJ0_335 : LV RJ0 335 yJ0_coder_7d493 cJ0_coder_7d493 1 (some .byte) 0 := ⟨q3_61, q3_62, q3_63, q1_12, q3_64, by decide +kernel⟩
theorem LJ0_492 : LV RJ0 492 yJ0_isLatin1_aae02 cJ0_isLatin1_aae02 1 (some .boolean) 0 := ⟨q3_71, q3_72, q3_73, q1_12, q3_74, by decide +kernel⟩
theorem LJ0_495 : LSt RJ0 495 yJ1_charAt_3b067 cJ1_charAt_3b067 2 (some .char) 2 := ⟨q3_75, q3_76, q1_13, q3_77, by decide +kernel⟩
theorem LJ1_9 : LSt RJ1 9 yJ0_checkIndex_df160 cJ0_checkIndex_df160 2 none 2 := ⟨q3_78, q3_79, q1_12, q3_80, by decide +kernel⟩
theorem LJ0_1059 : LSt RJ0 1059 yJ3_checkIndex_8e157 cJ3_checkIndex_8e157 3 (some .int) 3 := ⟨q3_83, q3_84, q1_14, q3_85, by decide +kernel⟩
abbrev rmJ_coder : Room := { frames := 0, cells := 0, slots := 0, locals := 0 }
set_option maxHeartbeats 4000000 in
set_option maxRecDepth 100000 in
theorem cJ_coder (l : Launch) (E : eE) (G : eG) (i : Nat) (hi : i < 15) : cX l E G yJ0_coder_7d493 cJ0_coder_7d493 1 (some .byte) rmJ_coder [.ref (G.1 i)] (some (.int 0)) := by
  refine Met.ofW (cc := cJ0_coder_7d493) (maxL := 1) (ret := (some .byte)) (by decide) rfl ?_
  intro p e s m args below meth c s₁ B hml hv
  obtain ⟨hargs, hK, hSC⟩ := hv
  have hx := B.exec
  have hb := B.bytes
  have hr := B.returns
  have hts := atoms_spec (ws := ws_ yJ0_coder_7d493 cJ0_coder_7d493 1 (some .byte)) B.pre
  have hta : ∀ w ∈ lw_all, w.before args s = true := fun w h => hts w (List.mem_cons_of_mem _ h)
  have hown : s.vm.findClass RJ0 = some m.cls := findClass_of_methodNamed B.named
  have hlocks := B.notSynchronized
  have hC : Cx p s m args c cJ0_coder_7d493 1 RJ0 E := ⟨hx, hb, hml, hown, hta, hK⟩
  obtain ⟨ls, he, hl⟩ := entry_ (m := m) (n := 1) hargs (Nat.le_of_ble_eq_true rfl)
  rw [he]
  have hl : lv_has ls 1 [(0, .ref (G.1 i))] := hl
  show W p l e rmJ_coder s m args below meth c s.heap [] 0 0 (MQ below (qP (some .byte) (some (.int 0))) args s 0 0 (fun _ => False)) (F0 m 0 ls [])
  refine va_gets hx hb hSC.2.1 (va_S.rf (A := fun _ => False)) hown (hta _ q3_65) (fun _ h => h) dJ0_coder_7d493_0 ?_
  refine lv_if_eq (tgt := 13) hx hb dJ0_coder_7d493_3 (by decide) (fun c => absurd c (by decide)) (fun _ => ?_)
  refine lv_aload_n hx hb dJ0_coder_7d493_6 rfl (lv_at hl 0 rfl) ?_
  refine vk_getf hx hb (hSC.1.1 i hi).2.1 (va_S.rf (A := fun _ => False)) hown (hta _ q4_212) (fun _ h => h) dJ0_coder_7d493_7 ?_
  refine lv_goto (tgt := 14) hx hb dJ0_coder_7d493_10 (by decide) ?_
  exact W.zret hx hb hr rfl (fun t ht hW => ⟨rfl, rt_y rfl, ht⟩) (fun q h => absurd h List.not_mem_nil) dJ0_coder_7d493_14 hlocks
abbrev rmJ_isLatin1 : Room := { frames := 0, cells := 0, slots := 0, locals := 0 }
set_option maxHeartbeats 4000000 in
set_option maxRecDepth 100000 in
theorem cJ_isLatin1 (l : Launch) (E : eE) (G : eG) (i : Nat) (hi : i < 15) : cX l E G yJ0_isLatin1_aae02 cJ0_isLatin1_aae02 1 (some .boolean) rmJ_isLatin1 [.ref (G.1 i)] (some (.int 1)) := by
  refine Met.ofW (cc := cJ0_isLatin1_aae02) (maxL := 1) (ret := (some .boolean)) (by decide) rfl ?_
  intro p e s m args below meth c s₁ B hml hv
  obtain ⟨hargs, hK, hSC⟩ := hv
  have hx := B.exec
  have hb := B.bytes
  have hr := B.returns
  have hts := atoms_spec (ws := ws_ yJ0_isLatin1_aae02 cJ0_isLatin1_aae02 1 (some .boolean)) B.pre
  have hta : ∀ w ∈ lw_all, w.before args s = true := fun w h => hts w (List.mem_cons_of_mem _ h)
  have hown : s.vm.findClass RJ0 = some m.cls := findClass_of_methodNamed B.named
  have hlocks := B.notSynchronized
  have hC : Cx p s m args c cJ0_isLatin1_aae02 1 RJ0 E := ⟨hx, hb, hml, hown, hta, hK⟩
  obtain ⟨ls, he, hl⟩ := entry_ (m := m) (n := 1) hargs (Nat.le_of_ble_eq_true rfl)
  rw [he]
  have hl : lv_has ls 1 [(0, .ref (G.1 i))] := hl
  show W p l e rmJ_isLatin1 s m args below meth c s.heap [] 0 0 (MQ below (qP (some .boolean) (some (.int 1))) args s 0 0 (fun _ => False)) (F0 m 0 ls [])
  refine va_gets hx hb hSC.2.1 (va_S.rf (A := fun _ => False)) hown (hta _ q3_65) (fun _ h => h) dJ0_isLatin1_aae02_0 ?_
  refine lv_if_eq (tgt := 17) hx hb dJ0_isLatin1_aae02_3 (by decide) (fun c => absurd c (by decide)) (fun _ => ?_)
  refine lv_aload_n hx hb dJ0_isLatin1_aae02_6 rfl (lv_at hl 0 rfl) ?_
  refine vk_getf hx hb (hSC.1.1 i hi).2.1 (va_S.rf (A := fun _ => False)) hown (hta _ q4_212) (fun _ h => h) dJ0_isLatin1_aae02_7 ?_
  refine lv_if_ne (tgt := 17) hx hb dJ0_isLatin1_aae02_10 (by decide) (fun c => absurd rfl c) (fun _ => ?_)
  refine lv_iconst (v := 1) hx hb dJ0_isLatin1_aae02_13 (by decide) ?_
  refine lv_goto (tgt := 18) hx hb dJ0_isLatin1_aae02_14 (by decide) ?_
  exact e_Pz hC hr hlocks rfl rfl dJ0_isLatin1_aae02_18
abbrev rmJ_length : Room := { frames := 1, cells := 0, slots := 0, locals := 20 }
set_option maxHeartbeats 4000000 in
set_option maxRecDepth 100000 in
theorem cJ_length (l : Launch) (E : eE) (G : eG) (i : Nat) (hi : i < 15) : cX l E G yJ0_length_8abf5 cJ0_length_8abf5 1 (some .int) rmJ_length [.ref (G.1 i)] (some (.int (strLen i))) := by
  refine Met.ofW (cc := cJ0_length_8abf5) (maxL := 1) (ret := (some .int)) (by decide) rfl ?_
  intro p e s m args below meth c s₁ B hml hv
  obtain ⟨hargs, hK, hSC⟩ := hv
  have hx := B.exec
  have hb := B.bytes
  have hr := B.returns
  have hts := atoms_spec (ws := ws_ yJ0_length_8abf5 cJ0_length_8abf5 1 (some .int)) B.pre
  have hta : ∀ w ∈ lw_all, w.before args s = true := fun w h => hts w (List.mem_cons_of_mem _ h)
  have hown : s.vm.findClass RJ0 = some m.cls := findClass_of_methodNamed B.named
  have hlocks := B.notSynchronized
  have hC : Cx p s m args c cJ0_length_8abf5 1 RJ0 E := ⟨hx, hb, hml, hown, hta, hK⟩
  obtain ⟨ls, he, hl⟩ := entry_ (m := m) (n := 1) hargs (Nat.le_of_ble_eq_true rfl)
  rw [he]
  have hl : lv_has ls 1 [(0, .ref (G.1 i))] := hl
  show W p l e rmJ_length s m args below meth c s.heap [] 0 0 (MQ below (qP (some .int) (some (.int (strLen i)))) args s 0 0 (fun _ => False)) (F0 m 0 ls [])
  refine lv_aload_n hx hb dJ0_length_8abf5_0 rfl (lv_at hl 0 rfl) ?_
  refine vk_getf hx hb (hSC.1.1 i hi).2.2.1 (va_S.rf (A := fun _ => False)) hown (hta _ q4_211) (fun _ h => h) dJ0_length_8abf5_1 ?_
  refine va_tlen hx hb (hSC.1.1 i hi).2.2.2 (va_S.rf (A := fun _ => False)) (v := strLen i) rfl dJ0_length_8abf5_4 ?_
  refine lv_aload_n hx hb dJ0_length_8abf5_5 rfl (lv_at hl 0 rfl) ?_
  refine k_XVi hC LJ0_335 ⟨Nat.le_of_ble_eq_true rfl, Nat.le_of_ble_eq_true rfl⟩ ⟨Nat.zero_le _, Nat.zero_le _⟩ (cJ_coder l E G i hi) rfl rfl hSC va_S.rf hi rfl hl.1 rfl (Nat.le_of_ble_eq_true rfl) rfl dJ0_length_8abf5_6 (fun _ => ?_)
  refine lv_ishr hx hb dJ0_length_8abf5_9 ?_
  exact e_Pi hC hr hlocks (sc_shr0 (by have := strL_lt i; omega)) dJ0_length_8abf5_10
abbrev rmJ_isEmpty : Room := { frames := 0, cells := 0, slots := 0, locals := 0 }
set_option maxHeartbeats 4000000 in
set_option maxRecDepth 100000 in
theorem cJ_isEmpty (l : Launch) (E : eE) (G : eG) (i : Nat) (hi : i < 15) : cX l E G yJ0_isEmpty_aae02 cJ0_isEmpty_aae02 1 (some .boolean) rmJ_isEmpty [.ref (G.1 i)] (some (.int (strEmp i))) := by
  refine Met.ofW (cc := cJ0_isEmpty_aae02) (maxL := 1) (ret := (some .boolean)) (by decide) rfl ?_
  intro p e s m args below meth c s₁ B hml hv
  obtain ⟨hargs, hK, hSC⟩ := hv
  have hx := B.exec
  have hb := B.bytes
  have hr := B.returns
  have hts := atoms_spec (ws := ws_ yJ0_isEmpty_aae02 cJ0_isEmpty_aae02 1 (some .boolean)) B.pre
  have hta : ∀ w ∈ lw_all, w.before args s = true := fun w h => hts w (List.mem_cons_of_mem _ h)
  have hown : s.vm.findClass RJ0 = some m.cls := findClass_of_methodNamed B.named
  have hlocks := B.notSynchronized
  have hC : Cx p s m args c cJ0_isEmpty_aae02 1 RJ0 E := ⟨hx, hb, hml, hown, hta, hK⟩
  obtain ⟨ls, he, hl⟩ := entry_ (m := m) (n := 1) hargs (Nat.le_of_ble_eq_true rfl)
  rw [he]
  have hl : lv_has ls 1 [(0, .ref (G.1 i))] := hl
  show W p l e rmJ_isEmpty s m args below meth c s.heap [] 0 0 (MQ below (qP (some .boolean) (some (.int (strEmp i)))) args s 0 0 (fun _ => False)) (F0 m 0 ls [])
  have hL := strL_lt i
  refine lv_aload_n hx hb dJ0_isEmpty_aae02_0 rfl (lv_at hl 0 rfl) ?_
  refine vk_getf hx hb (hSC.1.1 i hi).2.2.1 (va_S.rf (A := fun _ => False)) hown (hta _ q4_211) (fun _ h => h) dJ0_isEmpty_aae02_1 ?_
  refine va_tlen hx hb (hSC.1.1 i hi).2.2.2 (va_S.rf (A := fun _ => False)) (v := strLen i) rfl dJ0_isEmpty_aae02_4 ?_
  refine lv_if_ne (tgt := 12) hx hb dJ0_isEmpty_aae02_5 (by decide) (fun c => ?_) (fun c => ?_)
  · refine lv_iconst (v := 0) hx hb dJ0_isEmpty_aae02_12 (by decide) ?_
    exact e_Pz hC hr hlocks (by unfold strEmp; rw [if_neg (fun z => c (by unfold strLen; rw [z]; rfl))]) rfl dJ0_isEmpty_aae02_13
  · refine lv_iconst (v := 1) hx hb dJ0_isEmpty_aae02_8 (by decide) ?_
    refine lv_goto (tgt := 13) hx hb dJ0_isEmpty_aae02_9 (by decide) ?_
    exact e_Pz hC hr hlocks (by unfold strEmp; rw [if_pos (by have h := (nI_eq (a := strL.getD i 0) (b := 0) (by omega) (by omega)).mp (by rw [nI_0]; exact c); exact h)]) rfl dJ0_isEmpty_aae02_13
abbrev rmJ_preCheck : Room := { frames := 0, cells := 0, slots := 0, locals := 0 }
set_option maxHeartbeats 4000000 in
set_option maxRecDepth 100000 in
theorem cJ_preCheck_n (l : Launch) (E : eE) (k n : Int32) (h0 : ¬ k < 0) (h1 : k < n) : cP l E yJ3_checkIndex_8e157 cJ3_checkIndex_8e157 3 (some .int) rmJ_preCheck [.int k, .int n, .null] [] (some (.int k)) := by
  refine Met.ofW (cc := cJ3_checkIndex_8e157) (maxL := 3) (ret := (some .int)) (by decide) rfl ?_
  intro p e s m args below meth c s₁ B hml hv
  obtain ⟨hargs, hP, hK⟩ := hv
  have hx := B.exec
  have hb := B.bytes
  have hr := B.returns
  have hts := atoms_spec (ws := ws_ yJ3_checkIndex_8e157 cJ3_checkIndex_8e157 3 (some .int)) B.pre
  have hta : ∀ w ∈ lw_all, w.before args s = true := fun w h => hts w (List.mem_cons_of_mem _ h)
  have hown : s.vm.findClass RJ3 = some m.cls := findClass_of_methodNamed B.named
  have hlocks := B.notSynchronized
  have hC : Cx p s m args c cJ3_checkIndex_8e157 3 RJ3 E := ⟨hx, hb, hml, hown, hta, hK⟩
  obtain ⟨ls, he, hl⟩ := entry_ (m := m) (n := 3) hargs (Nat.le_of_ble_eq_true rfl)
  rw [he]
  have hl : lv_has ls 3 [(0, .int k), (1, .int n), (2, .null)] := hl
  show W p l e rmJ_preCheck s m args below meth c s.heap [] 0 0 (MQ below (qP (some .int) (some (.int k))) args s 0 0 (fun _ => False)) (F0 m 0 ls [])
  refine lv_iload_n hx hb dJ3_checkIndex_8e157_0 rfl (lv_at hl 0 rfl) ?_
  refine lv_if_lt (tgt := 9) hx hb dJ3_checkIndex_8e157_1 (by decide) (fun c => absurd c h0) (fun _ => ?_)
  refine lv_iload_n hx hb dJ3_checkIndex_8e157_4 rfl (lv_at hl 0 rfl) ?_
  refine lv_iload_n hx hb dJ3_checkIndex_8e157_5 rfl (lv_at hl 1 rfl) ?_
  refine lv_icmp_lt (tgt := 16) hx hb dJ3_checkIndex_8e157_6 (by decide) (fun _ => ?_) (fun c => absurd h1 c)
  refine lv_iload_n hx hb dJ3_checkIndex_8e157_16 rfl (lv_at hl 0 rfl) ?_
  exact e_Pi hC hr hlocks rfl dJ3_checkIndex_8e157_17
set_option maxHeartbeats 4000000 in
set_option maxRecDepth 100000 in
theorem cJ_preCheck_r (l : Launch) (E : eE) (k n : Int32) (q : Nat) (h0 : ¬ k < 0) (h1 : k < n) : cP l E yJ3_checkIndex_8e157 cJ3_checkIndex_8e157 3 (some .int) rmJ_preCheck [.int k, .int n, .ref q] [] (some (.int k)) := by
  refine Met.ofW (cc := cJ3_checkIndex_8e157) (maxL := 3) (ret := (some .int)) (by decide) rfl ?_
  intro p e s m args below meth c s₁ B hml hv
  obtain ⟨hargs, hP, hK⟩ := hv
  have hx := B.exec
  have hb := B.bytes
  have hr := B.returns
  have hts := atoms_spec (ws := ws_ yJ3_checkIndex_8e157 cJ3_checkIndex_8e157 3 (some .int)) B.pre
  have hta : ∀ w ∈ lw_all, w.before args s = true := fun w h => hts w (List.mem_cons_of_mem _ h)
  have hown : s.vm.findClass RJ3 = some m.cls := findClass_of_methodNamed B.named
  have hlocks := B.notSynchronized
  have hC : Cx p s m args c cJ3_checkIndex_8e157 3 RJ3 E := ⟨hx, hb, hml, hown, hta, hK⟩
  obtain ⟨ls, he, hl⟩ := entry_ (m := m) (n := 3) hargs (Nat.le_of_ble_eq_true rfl)
  rw [he]
  have hl : lv_has ls 3 [(0, .int k), (1, .int n), (2, .ref q)] := hl
  show W p l e rmJ_preCheck s m args below meth c s.heap [] 0 0 (MQ below (qP (some .int) (some (.int k))) args s 0 0 (fun _ => False)) (F0 m 0 ls [])
  refine lv_iload_n hx hb dJ3_checkIndex_8e157_0 rfl (lv_at hl 0 rfl) ?_
  refine lv_if_lt (tgt := 9) hx hb dJ3_checkIndex_8e157_1 (by decide) (fun c => absurd c h0) (fun _ => ?_)
  refine lv_iload_n hx hb dJ3_checkIndex_8e157_4 rfl (lv_at hl 0 rfl) ?_
  refine lv_iload_n hx hb dJ3_checkIndex_8e157_5 rfl (lv_at hl 1 rfl) ?_
  refine lv_icmp_lt (tgt := 16) hx hb dJ3_checkIndex_8e157_6 (by decide) (fun _ => ?_) (fun c => absurd h1 c)
  refine lv_iload_n hx hb dJ3_checkIndex_8e157_16 rfl (lv_at hl 0 rfl) ?_
  exact e_Pi hC hr hlocks rfl dJ3_checkIndex_8e157_17
abbrev rmJ_checkIndex : Room := { frames := 1, cells := 0, slots := 0, locals := 22 }
set_option maxHeartbeats 4000000 in
set_option maxRecDepth 100000 in
theorem cJ_checkIndex (l : Launch) (E : eE) (G : eG) (k n : Int32) (h0 : ¬ k < 0) (h1 : k < n) : cX l E G yJ0_checkIndex_df160 cJ0_checkIndex_df160 2 none rmJ_checkIndex [.int k, .int n] none := by
  refine Met.ofW (cc := cJ0_checkIndex_df160) (maxL := 2) (ret := none) (by decide) rfl ?_
  intro p e s m args below meth c s₁ B hml hv
  obtain ⟨hargs, hK, hSC⟩ := hv
  have hx := B.exec
  have hb := B.bytes
  have hr := B.returns
  have hts := atoms_spec (ws := ws_ yJ0_checkIndex_df160 cJ0_checkIndex_df160 2 none) B.pre
  have hta : ∀ w ∈ lw_all, w.before args s = true := fun w h => hts w (List.mem_cons_of_mem _ h)
  have hown : s.vm.findClass RJ0 = some m.cls := findClass_of_methodNamed B.named
  have hlocks := B.notSynchronized
  have hC : Cx p s m args c cJ0_checkIndex_df160 2 RJ0 E := ⟨hx, hb, hml, hown, hta, hK⟩
  obtain ⟨ls, he, hl⟩ := entry_ (m := m) (n := 2) hargs (Nat.le_of_ble_eq_true rfl)
  rw [he]
  have hl : lv_has ls 2 [(0, .int k), (1, .int n)] := hl
  show W p l e rmJ_checkIndex s m args below meth c s.heap [] 0 0 (MQ below (qP none none) args s 0 0 (fun _ => False)) (F0 m 0 ls [])
  refine lv_iload_n hx hb dJ0_checkIndex_df160_0 rfl (lv_at hl 0 rfl) ?_
  refine lv_iload_n hx hb dJ0_checkIndex_df160_1 rfl (lv_at hl 1 rfl) ?_
  rcases hSC.2.2.1 with hZ | ⟨q, hZ⟩
  · refine va_gets hx hb hZ (va_S.rf (A := fun _ => False)) hown (hta _ q3_81) (fun _ h => h) dJ0_checkIndex_df160_2 ?_
    refine k_PSi hC LJ0_1059 ⟨Nat.le_of_ble_eq_true rfl, Nat.le_of_ble_eq_true rfl⟩ ⟨Nat.zero_le _, Nat.zero_le _⟩ (cJ_preCheck_n l E k n h0 h1) rfl rfl vP_nil hl.1 rfl (Nat.le_of_ble_eq_true rfl) rfl dJ0_checkIndex_df160_5 (fun _ => ?_)
    refine lv_pop hx hb dJ0_checkIndex_df160_8 rfl ?_
    exact W.vret hx hb hr (fun t ht hW => ⟨rfl, rt_v, ht⟩) (fun q h => absurd h List.not_mem_nil) dJ0_checkIndex_df160_9 hlocks
  · refine va_gets hx hb hZ (va_S.rf (A := fun _ => False)) hown (hta _ q3_81) (fun _ h => h) dJ0_checkIndex_df160_2 ?_
    refine k_PSi hC LJ0_1059 ⟨Nat.le_of_ble_eq_true rfl, Nat.le_of_ble_eq_true rfl⟩ ⟨Nat.zero_le _, Nat.zero_le _⟩ (cJ_preCheck_r l E k n q h0 h1) rfl rfl vP_nil hl.1 rfl (Nat.le_of_ble_eq_true rfl) rfl dJ0_checkIndex_df160_5 (fun _ => ?_)
    refine lv_pop hx hb dJ0_checkIndex_df160_8 rfl ?_
    exact W.vret hx hb hr (fun t ht hW => ⟨rfl, rt_v, ht⟩) (fun q h => absurd h List.not_mem_nil) dJ0_checkIndex_df160_9 hlocks
abbrev rmJ_latinAt : Room := { frames := 2, cells := 0, slots := 0, locals := 43 }
set_option maxHeartbeats 4000000 in
set_option maxRecDepth 100000 in
theorem cJ_latinAt (l : Launch) (E : eE) (G : eG) (i : Nat) (k v : Int32) (hi : i < 15) (hf : strAt i k = some v) : cX l E G yJ1_charAt_3b067 cJ1_charAt_3b067 2 (some .char) rmJ_latinAt [.ref (G.2 i), .int k] (some (.int v)) := by
  refine Met.ofW (cc := cJ1_charAt_3b067) (maxL := 2) (ret := (some .char)) (by decide) rfl ?_
  intro p e s m args below meth c s₁ B hml hv
  obtain ⟨hargs, hK, hSC⟩ := hv
  have hx := B.exec
  have hb := B.bytes
  have hr := B.returns
  have hts := atoms_spec (ws := ws_ yJ1_charAt_3b067 cJ1_charAt_3b067 2 (some .char)) B.pre
  have hta : ∀ w ∈ lw_all, w.before args s = true := fun w h => hts w (List.mem_cons_of_mem _ h)
  have hown : s.vm.findClass RJ1 = some m.cls := findClass_of_methodNamed B.named
  have hlocks := B.notSynchronized
  have hC : Cx p s m args c cJ1_charAt_3b067 2 RJ1 E := ⟨hx, hb, hml, hown, hta, hK⟩
  obtain ⟨ls, he, hl⟩ := entry_ (m := m) (n := 2) hargs (Nat.le_of_ble_eq_true rfl)
  rw [he]
  have hl : lv_has ls 2 [(0, .ref (G.2 i)), (1, .int k)] := hl
  show W p l e rmJ_latinAt s m args below meth c s.heap [] 0 0 (MQ below (qP (some .char) (some (.int v))) args s 0 0 (fun _ => False)) (F0 m 0 ls [])
  obtain ⟨hin, hv⟩ := strAt_ok hf
  have hL := strL_lt i
  obtain ⟨j, hj, rfl⟩ := vp_in_of hin (by omega)
  refine lv_iload_n hx hb dJ1_charAt_3b067_0 rfl (lv_at hl 1 rfl) ?_
  refine lv_aload_n hx hb dJ1_charAt_3b067_1 rfl (lv_at hl 0 rfl) ?_
  refine va_tlen hx hb (hSC.1.1 i hi).2.2.2 (va_S.rf (A := fun _ => False)) (v := strLen i) rfl dJ1_charAt_3b067_2 ?_
  refine k_XS hC LJ1_9 ⟨Nat.le_of_ble_eq_true rfl, Nat.le_of_ble_eq_true rfl⟩ ⟨Nat.zero_le _, Nat.zero_le _⟩ (cJ_checkIndex l E G (nI j) (strLen i) (nI_pos (by omega)) (nI_lt hj (by omega))) rfl rfl hSC va_S.rf hl.1 rfl (Nat.le_of_ble_eq_true rfl) rfl dJ1_charAt_3b067_3 (fun _ => ?_)
  refine W.eq (g2 := F0 m 6 ls []) rfl ?_
  refine lv_aload_n hx hb dJ1_charAt_3b067_6 rfl (lv_at hl 0 rfl) ?_
  refine lv_iload_n hx hb dJ1_charAt_3b067_7 rfl (lv_at hl 1 rfl) ?_
  refine va_tb hx hb (hSC.1.1 i hi).2.2.2 (va_S.rf (A := fun _ => False)) hin (v := .int ((strB.getD i []).getD j 0)) (by rw [nI_clamp (by omega)]) dJ1_charAt_3b067_8 ?_
  refine lv_sipush (v := 255) hx hb dJ1_charAt_3b067_9 (by decide) ?_
  refine lv_iand hx hb dJ1_charAt_3b067_12 ?_
  refine lv_i2c hx hb dJ1_charAt_3b067_13 rfl ?_
  rw [nI_clamp (by omega)] at hv
  exact e_Pc hC hr hlocks ((str_byte i hi j (by omega)).1.trans hv) (str_byte i hi j (by omega)).2 dJ1_charAt_3b067_14
abbrev rmJ_charAt : Room := { frames := 3, cells := 0, slots := 0, locals := 64 }
set_option maxHeartbeats 4000000 in
set_option maxRecDepth 100000 in
theorem cJ_charAt (l : Launch) (E : eE) (G : eG) (i : Nat) (k v : Int32) (hi : i < 15) (hf : strAt i k = some v) : cX l E G yJ0_charAt_5068e cJ0_charAt_5068e 2 (some .char) rmJ_charAt [.ref (G.1 i), .int k] (some (.int v)) := by
  refine Met.ofW (cc := cJ0_charAt_5068e) (maxL := 2) (ret := (some .char)) (by decide) rfl ?_
  intro p e s m args below meth c s₁ B hml hv
  obtain ⟨hargs, hK, hSC⟩ := hv
  have hx := B.exec
  have hb := B.bytes
  have hr := B.returns
  have hts := atoms_spec (ws := ws_ yJ0_charAt_5068e cJ0_charAt_5068e 2 (some .char)) B.pre
  have hta : ∀ w ∈ lw_all, w.before args s = true := fun w h => hts w (List.mem_cons_of_mem _ h)
  have hown : s.vm.findClass RJ0 = some m.cls := findClass_of_methodNamed B.named
  have hlocks := B.notSynchronized
  have hC : Cx p s m args c cJ0_charAt_5068e 2 RJ0 E := ⟨hx, hb, hml, hown, hta, hK⟩
  obtain ⟨ls, he, hl⟩ := entry_ (m := m) (n := 2) hargs (Nat.le_of_ble_eq_true rfl)
  rw [he]
  have hl : lv_has ls 2 [(0, .ref (G.1 i)), (1, .int k)] := hl
  show W p l e rmJ_charAt s m args below meth c s.heap [] 0 0 (MQ below (qP (some .char) (some (.int v))) args s 0 0 (fun _ => False)) (F0 m 0 ls [])
  refine lv_aload_n hx hb dJ0_charAt_5068e_0 rfl (lv_at hl 0 rfl) ?_
  refine k_XVi hC LJ0_492 ⟨Nat.le_of_ble_eq_true rfl, Nat.le_of_ble_eq_true rfl⟩ ⟨Nat.zero_le _, Nat.zero_le _⟩ (cJ_isLatin1 l E G i hi) rfl rfl hSC va_S.rf hi rfl hl.1 rfl (Nat.le_of_ble_eq_true rfl) rfl dJ0_charAt_5068e_1 (fun _ => ?_)
  refine lv_if_eq (tgt := 16) hx hb dJ0_charAt_5068e_4 (by decide) (fun c => absurd c (by decide)) (fun _ => ?_)
  refine lv_aload_n hx hb dJ0_charAt_5068e_7 rfl (lv_at hl 0 rfl) ?_
  refine vk_getf hx hb (hSC.1.1 i hi).2.2.1 (va_S.rf (A := fun _ => False)) hown (hta _ q4_211) (fun _ h => h) dJ0_charAt_5068e_8 ?_
  refine lv_iload_n hx hb dJ0_charAt_5068e_11 rfl (lv_at hl 1 rfl) ?_
  refine k_XSi hC LJ0_495 ⟨Nat.le_of_ble_eq_true rfl, Nat.le_of_ble_eq_true rfl⟩ ⟨Nat.zero_le _, Nat.zero_le _⟩ (cJ_latinAt l E G i k v hi hf) rfl rfl hSC va_S.rf hl.1 rfl (Nat.le_of_ble_eq_true rfl) rfl dJ0_charAt_5068e_12 (fun hz => ?_)
  exact e_Pc hC hr hlocks rfl (rt_of hz) dJ0_charAt_5068e_15
