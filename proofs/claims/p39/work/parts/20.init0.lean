abbrev iLs : TL := ((fun _ => 0), (0 : Int32), (0 : Int64), (0 : Int32), (0 : Int32), (0 : Int32))
abbrev iNs : TN := ((fun _ => 0), (0 : Int32))
abbrev iZs : TZ := ((fun _ => 0), (0 : Int32))
abbrev iYs : TY := (fun _ => 0)
abbrev iBs : TB := ((fun _ => 0), (fun _ => 0), (0 : Int32), (0 : Int32))
abbrev iTs : TT := ((fun _ => 0), (0 : Int32), (fun _ => 0), (fun _ => 0), (fun _ => 0), (0 : Int32), (0 : Int32), (0 : Int32))
abbrev iRs : TR := ((fun _ => 0), (fun _ _ => 0), (fun _ => 0), (fun _ => 0), (fun _ => 0), (0 : Int32))
abbrev iPs : TP := ((fun _ => iLs), (0 : Int32), (0 : Int32))
abbrev iSs : TS := (iLs, iLs, iLs, (0 : Int32), iPs, iRs, iBs, iYs, iZs, iTs, iNs, (0 : Int32), (0 : Int32))
/-- what is known of the classes of arrays of references -/
def aoA (t : FieldType) (U : State) : Prop := (Cond.arrayOver (.array t)).before #[] U = true
theorem aoA.moved {t : FieldType} {u U : State} (hvm : u.vm.Alike U.vm) (h : aoA t u) : aoA t U := by
  unfold aoA Cond.before Cond.holds at h ⊢
  simp only [Cond.value] at h ⊢
  rw [hvm.findClass]
  cases hc : u.vm.findClass (FieldType.array t).toString with
  | none => rw [hc] at h; simp at h
  | some comp =>
    rw [hc] at h
    simp only [Option.bind_some, beq_iff_eq, Option.bind_eq_some_iff, Option.map_eq_some_iff] at h ⊢
    obtain ⟨c, hx, k, hk, hm⟩ := h
    have hv : (U.vm.bare.classes.findIdx? fun (x : Class) => match x.kind with | .array component _ => component == comp | _ => false) = (u.vm.bare.classes.findIdx? fun (x : Class) => match x.kind with | .array component _ => component == comp | _ => false) := by
      first | rw [hvm.bare_eq] | rw [← hvm.bare_eq]
    have hi := ((va_idx_bare U.vm comp).symm.trans hv).trans (va_idx_bare u.vm comp)
    obtain ⟨k', hk', he⟩ := hvm.2.2 _ _ hk
    refine ⟨c, hi.trans hx, k', hk', ?_⟩
    rw [hvm.findClass, show k'.kind = k.kind by rw [he]]
    exact hm
theorem arrV_cong (c : ClassId) (N : Nat) (f g : Nat → Value) (h : ∀ j, j < N → f j = g j) : arrV c N f = arrV c N g := by
  unfold arrV
  congr 1
  refine Array.ext (by rw [Array.size_ofFn, Array.size_ofFn]) (fun i h1 h2 => ?_)
  rw [Array.getElem_ofFn, Array.getElem_ofFn]
  exact h i (by rw [Array.size_ofFn] at h1; exact h1)
def KI (E : eE) (U : State) : Prop := KX E U ∧ va_AO "LetterShelves$Letters" U ∧ aoA .int U
theorem KI.warm {E : eE} {s U : State} (hW : s.WarmedH U.vm) (h : KI E s) : KI E U := ⟨h.1.warm hW, va_AO.moved hW.alike h.2.1, aoA.moved hW.alike h.2.2⟩
theorem KI.call {E : eE} {U : State} (g : JFrame) (mk : MethodId) (a : Array Value) (h : KI E U) : KI E (U.calling g mk a) := ⟨h.1.call g mk a, va_AO.moved (u := U) (U := U.calling g mk a) (Vm.Alike.refl U.vm) h.2.1, aoA.moved (u := U) (U := U.calling g mk a) (Vm.Alike.refl U.vm) h.2.2⟩
theorem id_int {E : eE} {s : State} {c : ClassId} (hK : KX E s) (h : va_K E.1 vwCl (eT E ++ [(c, .int)]) s) : c = E.2 0 := by
  have h1 : s.vm.findClass ("[" ++ FieldType.int.toString) = some c := (h.2 5 _ rfl).2
  have h2 : s.vm.findClass ("[" ++ FieldType.int.toString) = some (E.2 0) := (hK.1.2 0 _ rfl).2
  exact Option.some.inj (h1.symm.trans h2)
theorem id_long {E : eE} {s : State} {c : ClassId} (hK : KX E s) (h : va_K E.1 vwCl (eT E ++ [(c, .long)]) s) : c = E.2 1 := by
  have h1 : s.vm.findClass ("[" ++ FieldType.long.toString) = some c := (h.2 5 _ rfl).2
  have h2 : s.vm.findClass ("[" ++ FieldType.long.toString) = some (E.2 1) := (hK.1.2 1 _ rfl).2
  exact Option.some.inj (h1.symm.trans h2)
theorem id_obj {E : eE} {s : State} {c : ClassId} (hK : KX E s) (h : va_K E.1 vwCl (eT E ++ [(c, .object "LetterShelves$Letters")]) s) : c = E.2 3 := by
  obtain ⟨_, _, _, _, _, h1⟩ := (h.2 5 _ rfl).2
  obtain ⟨_, _, _, _, _, h2⟩ := (hK.1.2 3 _ rfl).2
  exact Option.some.inj (h1.symm.trans h2)
theorem id_arr {E : eE} {s : State} {c : ClassId} (hK : KX E s) (h : va_K E.1 vwCl (eT E ++ [(c, .array .int)]) s) : c = E.2 4 := by
  have h1 : s.vm.findClass ("[" ++ (FieldType.array .int).toString) = some c := (h.2 5 _ rfl).2
  have h2 : s.vm.findClass ("[" ++ (FieldType.array .int).toString) = some (E.2 4) := (hK.1.2 4 _ rfl).2
  exact Option.some.inj (h1.symm.trans h2)
/-- a row of references says no more than its places -/
theorem vP_q {D : va_G} {cl : List vw_C} {W0 : va_W} {H : Heap} (hP : va_P D cl W0 H) (k : Nat) {a : Nat} {c : ClassId} {n : Nat} {f g : Nat → Option Nat} (he : W0[k]? = some (a, .inl (c, n, .inr (.inr (.inr (.inr f)))))) (hfg : ∀ j, j < n → f j = g j) : va_P D cl (W0.set k (a, .inl (c, n, .inr (.inr (.inr (.inr g)))))) H := by
  intro i q hi
  by_cases hik : i = k
  · subst hik
    rw [List.getElem?_set_self (List.getElem?_eq_some_iff.mp he).1] at hi
    cases hi
    have h := hP _ _ he
    show H[a]? = some (vp_cell c _)
    have h2 : H[a]? = some (vp_cell c (n, .inr (.inr (.inr (.inr f))))) := h
    rw [h2, vp_cell_q, vp_cell_q]
    exact congrArg some (arrV_cong _ _ _ _ fun j hj => by rw [hfg j hj])
  · rw [List.getElem?_set_ne (Ne.symm hik)] at hi
    exact hP i q hi
theorem vD_q {A : Nat → Prop} {W0 : va_W} (hD : va_D A W0) (k : Nat) {a : Nat} {e0 e : va_E} (he : W0[k]? = some (a, e0)) : va_D A (W0.set k (a, e)) := hD.set he
/-- a constructor: from its new object on, the class' cells as they begin -/
def cI (l : Launch) (E : eE) (y : MethodName) (b : ByteArray) (n : Nat) (rm : Room) (h0 sz : Nat) (o : va_E) (w : (Nat → Nat) → va_W) (mc ms : Nat) : Prop :=
  Met l y (ws_ y b n none) rm (va_Pc [.ref h0] (fun U => U.heap.size = sz ∧ va_P E.1 vwCl [(h0, o)] U.heap ∧ KI E U ∧ va_D (fun _ => True) [(h0, o)])) (va_Qv (fun _ : Unit => True) (fun _ t => ∃ ad : Nat → Nat, ad 0 = h0 ∧ va_P E.1 vwCl (w ad) t.heap ∧ va_D (va_A [(h0, o)] sz) (w ad)) (va_A [(h0, o)] sz)) mc ms (va_A [(h0, o)] sz)
