/-! the judgement that this proof uses: pure contracts cP, writers' contracts cW, over the world of a class -/
abbrev ws_ (y : MethodName) (b : ByteArray) (n : Nat) (r : Option FieldType) : List Cond := Cond.code y b n r :: lw_all
theorem gi_ {y : MethodName} {b : ByteArray} {n : Nat} {r : Option FieldType} (h : Cond.code y b n r ∈ lw_all) : GoodIn lw_all (ws_ y b n r) := by
  intro w hw
  rcases List.mem_cons.mp hw with rfl | h1
  · exact ⟨h, good_of_word (List.mem_filter.mp h).2⟩
  · exact ⟨h1, good_of_word (List.mem_filter.mp h1).2⟩
/-- the links to private members of nest mates -/
def nst : List (String × Nat × MethodName × String) := [(RX8, 9, yX1_init, RX8), (RX3, 17, yX1_init, RX8), (RX8, 31, yX4_init, RX8), (RX8, 38, yX0_init, RX8), (RX8, 45, yX6_init, RX8), (RX8, 52, yX5_init, RX8), (RX8, 59, yX7_init, RX8), (RX8, 66, yX2_init, RX8), (RX1, 46, yX8_isWeight, RX8), (RX4, 50, yX8_isRow, RX8), (RX4, 54, yX8_hasBit, RX8), (RX1, 38, yX8_isMarkPlace, RX8)]
abbrev eE : Type := va_G × (Nat → ClassId)
abbrev eT (E : eE) : List (ClassId × FieldType) := [(E.2 0, .int), (E.2 1, .long), (E.2 2, .int), (E.2 3, .object "LetterShelves$Letters"), (E.2 4, .array .int)]
def KX (E : eE) (U : State) : Prop := va_K E.1 vwCl (eT E) U ∧ ∀ q ∈ nst, va_Nw (.methodLinkNest q.1 q.2.1 q.2.2.1 q.2.2.2) U
theorem KX.warm {E : eE} {s U : State} (hW : s.WarmedH U.vm) (h : KX E s) : KX E U := ⟨va_K.moved hW.alike h.1, fun q hq => va_Nw.warmM hW (h.2 q hq)⟩
theorem KX.call {E : eE} {U : State} (g : JFrame) (mk : MethodId) (a : Array Value) (h : KX E U) : KX E (U.calling g mk a) := ⟨va_K.moved (u := U) (U := U.calling g mk a) (Vm.Alike.refl U.vm) h.1, fun q hq => va_Nw.same rfl (rfl : U.vm = (U.calling g mk a).vm) (h.2 q hq)⟩
/-- an answer that its type keeps -/
def rtOK (ret : Option FieldType) (v : Option Value) : Prop := ∀ ty w, ret = some ty → v = some w → narrow ty w = w
theorem rt_v : rtOK none none := fun ty w h => by cases h
theorem rt_i {x : Int32} : rtOK (some .int) (some (.int x)) := fun ty w h1 h2 => by cases h1; cases h2; rfl
theorem rt_l {x : Int64} : rtOK (some .long) (some (.long x)) := fun ty w h1 h2 => by cases h1; cases h2; rfl
theorem rt_z {x : Int32} (h : narrow .boolean (.int x) = .int x) : rtOK (some .boolean) (some (.int x)) := fun ty w h1 h2 => by cases h1; cases h2; exact h
theorem rt_c {x : Int32} (h : narrow .char (.int x) = .int x) : rtOK (some .char) (some (.int x)) := fun ty w h1 h2 => by cases h1; cases h2; exact h
theorem rt_y {x : Int32} (h : narrow .byte (.int x) = .int x) : rtOK (some .byte) (some (.int x)) := fun ty w h1 h2 => by cases h1; cases h2; exact h
theorem rt_of {ty : FieldType} {x : Int32} (h : rtOK (some ty) (some (.int x))) : narrow ty (.int x) = .int x := h _ _ rfl rfl
def qP (ret : Option FieldType) (v : Option Value) : Array Value → State → Outcome → State → Prop := fun _ st o t => o = .returned v ∧ rtOK ret v ∧ t.heap = st.heap
def adr (ws : va_W) : Nat → Prop := fun q => ∃ e ∈ ws, e.1 = q
def qW (E : eE) (ret : Option FieldType) (v : Option Value) (wc w1 : va_W) : Array Value → State → Outcome → State → Prop := fun _ st o t => o = .returned v ∧ rtOK ret v ∧ va_P E.1 vwCl w1 t.heap ∧ st.heap.size ≤ t.heap.size ∧ ∀ q, q < st.heap.size → ¬ adr wc q → t.heap[q]? = st.heap[q]?
/-- a method that reads: from a heap with the world wc it answers v; the heap stays -/
def cP (l : Launch) (E : eE) (y : MethodName) (b : ByteArray) (n : Nat) (ret : Option FieldType) (rm : Room) (av : List Value) (wc : va_W) (v : Option Value) : Prop :=
  Met l y (ws_ y b n ret) rm (va_Pc av (fun U => va_P E.1 vwCl wc U.heap ∧ KX E U)) (qP ret v) 0 0 (fun _ => False)
/-- a method that writes: from a heap with the world wc it answers v, the world is w1 then, no other old cell has changed -/
def cW (l : Launch) (E : eE) (y : MethodName) (b : ByteArray) (n : Nat) (ret : Option FieldType) (rm : Room) (av : List Value) (wc : va_W) (v : Option Value) (w1 : va_W) : Prop :=
  Met l y (ws_ y b n ret) rm (va_Pc av (fun U => va_P E.1 vwCl wc U.heap ∧ KX E U ∧ va_D (fun _ => True) wc)) (qW E ret v wc w1) 0 0 (adr wc)
/-- a walk's world: the cells, apart and in A, no other old cell has changed -/
def Hp (E : eE) (A : Nat → Prop) (W0 : va_W) (H0 H : Heap) (locs : List Loc) : Prop := va_P E.1 vwCl W0 H ∧ va_D A W0 ∧ va_S A H0 H locs
def putAt : va_W → List Nat → va_W → va_W
  | W0, i :: is, w :: ws => putAt (W0.set i w) is ws
  | W0, [], _ => W0
  | W0, _ :: _, [] => W0
theorem putAt_get : ∀ (is : List Nat) (w1 W0 : va_W), va_nd is = true → is.length = w1.length → (∀ i ∈ is, i < W0.length) → (∀ k : Nat, k ∉ is → (putAt W0 is w1)[k]? = W0[k]?) ∧ (∀ (j i : Nat), is[j]? = some i → (putAt W0 is w1)[i]? = w1[j]?)
  | [], w1, W0, _, _, _ => ⟨fun k _ => by cases w1 <;> rfl, fun j i h => by simp at h⟩
  | i0 :: is, [], W0, _, h, _ => by simp at h
  | i0 :: is, e :: w1, W0, hn, hl, hb => by
    simp only [va_nd, Bool.and_eq_true, decide_eq_true_eq] at hn
    obtain ⟨a1, a2⟩ := putAt_get is w1 (W0.set i0 e) hn.2 (by simpa using hl) (fun i hi => by rw [List.length_set]; exact hb i (List.mem_cons_of_mem _ hi))
    refine ⟨fun k hk => ?_, fun j i h => ?_⟩
    · rw [List.mem_cons, not_or] at hk
      show (putAt (W0.set i0 e) is w1)[k]? = _
      rw [a1 k hk.2, List.getElem?_set_ne (Ne.symm hk.1)]
    · show (putAt (W0.set i0 e) is w1)[i]? = _
      cases j with
      | zero =>
        rw [List.getElem?_cons_zero] at h ⊢
        cases h
        rw [a1 i0 hn.1, List.getElem?_set_self (hb i0 List.mem_cons_self)]
      | succ j =>
        rw [List.getElem?_cons_succ] at h ⊢
        exact a2 j i h
theorem sub_in {W0 wc : va_W} {is : List Nat} (hc : is.map (fun i => W0[i]?) = wc.map some) : is.length = wc.length ∧ ∀ (j i : Nat), is[j]? = some i → ∃ e, wc[j]? = some e ∧ W0[i]? = some e := by
  have hl : is.length = wc.length := by have := congrArg List.length hc; simpa using this
  refine ⟨hl, fun j i h => ?_⟩
  have h1 : (is.map (fun i => W0[i]?))[j]? = (wc.map some)[j]? := by rw [hc]
  rw [List.getElem?_map, h, List.getElem?_map] at h1
  cases hw : wc[j]? with
  | none => rw [hw] at h1; simp at h1
  | some e => rw [hw] at h1; exact ⟨e, rfl, by simpa using h1⟩
/-- behind a writer's call: its cells put back where they stood -/
theorem Hp.back {E : eE} {A : Nat → Prop} {W0 wc w1 W1 : va_W} {H0 H H1 : Heap} {locs L : List Loc} (hH : Hp E A W0 H0 H locs) (is : List Nat) (hc : is.map (fun i => W0[i]?) = wc.map some) (hnd : va_nd is = true) (had : w1.map Prod.fst = wc.map Prod.fst) (hW1 : putAt W0 is w1 = W1)
    (hP1 : va_P E.1 vwCl w1 H1) (hz : H.size ≤ H1.size) (hk : ∀ q, q < H.size → ¬ adr wc q → H1[q]? = H[q]?) (hL : ∀ q ∈ L, adr wc q.base) : Hp E A W1 H0 H1 (locs ++ L) := by
  subst hW1
  obtain ⟨hP, hD, hS⟩ := hH
  obtain ⟨hl, hin⟩ := sub_in hc
  have hl1 : is.length = w1.length := by have := congrArg List.length had; simp at this; omega
  have hb : ∀ i ∈ is, i < W0.length := fun i hi => by
    obtain ⟨j, hj⟩ := List.getElem?_of_mem hi
    obtain ⟨e, -, h2⟩ := hin j i hj
    exact (List.getElem?_eq_some_iff.mp h2).1
  obtain ⟨g1, g2⟩ := putAt_get is w1 W0 hnd hl1 hb
  have hA : ∀ q, adr wc q → A q := fun q ⟨e, he, hq⟩ => by
    obtain ⟨j, hj⟩ := List.getElem?_of_mem he
    have hj2 : j < is.length := by rw [hl]; exact (List.getElem?_eq_some_iff.mp hj).1
    obtain ⟨e2, h1, h2⟩ := hin j _ (List.getElem?_eq_getElem hj2)
    rw [hj] at h1
    cases h1
    rw [← hq]
    exact hD.2 _ _ h2
  -- every new cell has the address of the old one at its place
  have key : ∀ (k : Nat) (q : Nat × va_E), (putAt W0 is w1)[k]? = some q → ∃ q0, W0[k]? = some q0 ∧ q0.1 = q.1 ∧ ((k ∉ is ∧ q0 = q) ∨ ∃ j, is[j]? = some k ∧ w1[j]? = some q ∧ wc[j]? = some q0) := fun k q hk => by
    by_cases hm : k ∈ is
    · obtain ⟨j, hj⟩ := List.getElem?_of_mem hm
      obtain ⟨e, h1, h2⟩ := hin j k hj
      rw [g2 j k hj] at hk
      refine ⟨e, h2, ?_, Or.inr ⟨j, hj, hk, h1⟩⟩
      have h3 : (w1.map Prod.fst)[j]? = (wc.map Prod.fst)[j]? := by rw [had]
      rw [List.getElem?_map, List.getElem?_map, hk, h1] at h3
      exact (Option.some.inj h3).symm
    · rw [g1 k hm] at hk
      exact ⟨q, hk, rfl, Or.inl ⟨hm, rfl⟩⟩
  have hk' : ∀ (q0 : Nat × va_E) (k : Nat), k ∉ is → W0[k]? = some q0 → H1[q0.1]? = H[q0.1]? := fun q0 k hm h1 => by
    refine hk _ (hP k q0 h1).lt (fun ⟨e, he, hq⟩ => hm ?_)
    obtain ⟨j, hj⟩ := List.getElem?_of_mem he
    have hj2 : j < is.length := by rw [hl]; exact (List.getElem?_eq_some_iff.mp hj).1
    obtain ⟨e2, h3, h4⟩ := hin j _ (List.getElem?_eq_getElem hj2)
    rw [hj] at h3
    cases h3
    rw [hD.1 k _ q0 e h1 h4 hq.symm]
    exact List.getElem_mem hj2
  refine ⟨fun k q hk => ?_, ⟨fun i j x z hi hj hxz => ?_, fun k q hk => ?_⟩, ⟨Nat.le_trans hS.1 hz, fun q h1 h2 => ?_, fun q hq => ?_⟩⟩
  · obtain ⟨q0, h1, h2, h3 | ⟨j, h3, h4, h5⟩⟩ := key k q hk
    · obtain ⟨hm, rfl⟩ := h3
      exact (hP k q0 h1).kept (hk' q0 k hm h1)
    · exact hP1 j q h4
  · obtain ⟨x0, h1, h2, -⟩ := key i x hi
    obtain ⟨z0, h3, h4, -⟩ := key j z hj
    exact hD.1 i j x0 z0 h1 h3 (h2.trans (hxz.trans h4.symm))
  · obtain ⟨q0, h1, h2, -⟩ := key k q hk
    rw [← h2]
    exact hD.2 k q0 h1
  · rw [hk q (Nat.lt_of_lt_of_le h1 hS.1) (fun z => h2 (hA q z))]
    exact hS.2.1 q h1 h2
  · rcases List.mem_append.mp hq with h | h
    · exact hS.2.2 q h
    · exact hA _ (hL q h)
/-- behind a writer's call on the whole world -/
theorem Hp.all {E : eE} {A : Nat → Prop} {wc w1 : va_W} {H0 H H1 : Heap} {locs L : List Loc} (hH : Hp E A wc H0 H locs) (had : w1.map Prod.fst = wc.map Prod.fst)
    (hP1 : va_P E.1 vwCl w1 H1) (hz : H.size ≤ H1.size) (hk : ∀ q, q < H.size → ¬ adr wc q → H1[q]? = H[q]?) (hL : ∀ q ∈ L, adr wc q.base) : Hp E A w1 H0 H1 (locs ++ L) := by
  obtain ⟨hP, hD, hS⟩ := hH
  have hA : ∀ q, adr wc q → A q := fun q ⟨e, he, hq⟩ => by
    obtain ⟨j, hj⟩ := List.getElem?_of_mem he
    rw [← hq]
    exact hD.2 _ _ hj
  have key : ∀ (k : Nat) (q : Nat × va_E), w1[k]? = some q → ∃ q0, wc[k]? = some q0 ∧ q0.1 = q.1 := fun k q hk => by
    have h3 : (w1.map Prod.fst)[k]? = (wc.map Prod.fst)[k]? := by rw [had]
    rw [List.getElem?_map, List.getElem?_map, hk] at h3
    cases hw : wc[k]? with
    | none => rw [hw] at h3; simp at h3
    | some q0 => rw [hw] at h3; exact ⟨q0, rfl, (by simpa using h3.symm)⟩
  refine ⟨hP1, ⟨fun i j x z hi hj hxz => ?_, fun k q hk => ?_⟩, ⟨Nat.le_trans hS.1 hz, fun q h1 h2 => ?_, fun q hq => ?_⟩⟩
  · obtain ⟨x0, h1, h2⟩ := key i x hi
    obtain ⟨z0, h3, h4⟩ := key j z hj
    exact hD.1 i j x0 z0 h1 h3 (h2.trans (hxz.trans h4.symm))
  · obtain ⟨q0, h1, h2⟩ := key k q hk
    rw [← h2]
    exact hD.2 k q0 h1
  · rw [hk q (Nat.lt_of_lt_of_le h1 hS.1) (fun z => h2 (hA q z))]
    exact hS.2.1 q h1 h2
  · rcases List.mem_append.mp hq with h | h
    · exact hS.2.2 q h
    · exact hA _ (hL q h)
/-- a world's order is no matter -/
theorem pw_of {W : va_W} (h : ∀ (i j : Nat) (p q : Nat × va_E), W[i]? = some p → W[j]? = some q → p.1 = q.1 → i = j) : W.Pairwise (fun a b => a.1 ≠ b.1) :=
  List.pairwise_iff_getElem.mpr (fun i j hi hj hij e => by
    have := h i j _ _ (List.getElem?_eq_getElem hi) (List.getElem?_eq_getElem hj) e
    omega)
theorem of_pw {W : va_W} (h : W.Pairwise (fun a b => a.1 ≠ b.1)) : ∀ (i j : Nat) (p q : Nat × va_E), W[i]? = some p → W[j]? = some q → p.1 = q.1 → i = j := by
  intro i j p q hi hj e
  have g := List.pairwise_iff_getElem.mp h
  obtain ⟨h1, rfl⟩ := List.getElem?_eq_some_iff.mp hi
  obtain ⟨h2, rfl⟩ := List.getElem?_eq_some_iff.mp hj
  rcases Nat.lt_trichotomy i j with q | q | q
  · exact absurd e (g i j h1 h2 q)
  · exact q
  · exact absurd e.symm (g j i h2 h1 q)
theorem Hp.perm {E : eE} {A : Nat → Prop} {W0 W1 : va_W} {H0 H : Heap} {locs : List Loc} (hH : Hp E A W0 H0 H locs) (p : W0.Perm W1) : Hp E A W1 H0 H locs := by
  obtain ⟨hP, hD, hS⟩ := hH
  have hm : ∀ (k : Nat) (q : Nat × va_E), W1[k]? = some q → ∃ i, W0[i]? = some q := fun k q hk => List.getElem?_of_mem (p.mem_iff.mpr (List.mem_of_getElem? hk))
  exact ⟨fun k q hk => by
    obtain ⟨i, hi⟩ := hm k q hk
    exact hP i q hi, ⟨of_pw ((p.pairwise_iff (fun h => Ne.symm h)).mp (pw_of hD.1)), fun k q hk => by
    obtain ⟨i, hi⟩ := hm k q hk
    exact hD.2 i q hi⟩, hS⟩
theorem vP_perm {D : va_G} {cl : List vw_C} {W0 W1 Y : va_W} {H : Heap} (hP : va_P D cl W0 H) (p : W0.Perm (W1 ++ Y)) : va_P D cl W1 H := fun k q hk => by
  obtain ⟨i, hi⟩ := List.getElem?_of_mem (p.mem_iff.mpr (List.mem_append_left Y (List.mem_of_getElem? hk)))
  exact hP i q hi
/-- behind a writer's call on the first part of a world -/
theorem Hp.app {E : eE} {A : Nat → Prop} {wc w1 Y : va_W} {H0 H H1 : Heap} {locs L : List Loc} (hH : Hp E A (wc ++ Y) H0 H locs) (had : w1.map Prod.fst = wc.map Prod.fst)
    (hP1 : va_P E.1 vwCl w1 H1) (hz : H.size ≤ H1.size) (hk : ∀ q, q < H.size → ¬ adr wc q → H1[q]? = H[q]?) (hL : ∀ q ∈ L, adr wc q.base) : Hp E A (w1 ++ Y) H0 H1 (locs ++ L) := by
  obtain ⟨hP, hD, hS⟩ := hH
  have hl : w1.length = wc.length := by have := congrArg List.length had; simpa using this
  have hmf : (w1 ++ Y).map Prod.fst = (wc ++ Y).map Prod.fst := by rw [List.map_append, List.map_append, had]
  have hA : ∀ q, adr wc q → A q := fun q ⟨e, he, hq⟩ => by
    obtain ⟨j, hj⟩ := List.getElem?_of_mem (List.mem_append_left Y he)
    rw [← hq]
    exact hD.2 _ _ hj
  have key : ∀ (k : Nat) (q : Nat × va_E), (w1 ++ Y)[k]? = some q → ∃ q0, (wc ++ Y)[k]? = some q0 ∧ q0.1 = q.1 := fun k q hk => by
    have h3 : ((w1 ++ Y).map Prod.fst)[k]? = ((wc ++ Y).map Prod.fst)[k]? := by rw [hmf]
    rw [List.getElem?_map, List.getElem?_map, hk] at h3
    cases hw : (wc ++ Y)[k]? with
    | none => rw [hw] at h3; simp at h3
    | some q0 => rw [hw] at h3; exact ⟨q0, rfl, (by simpa using h3.symm)⟩
  refine ⟨fun k q hq => ?_, ⟨fun i j x z hi hj hxz => ?_, fun k q hq => ?_⟩, ⟨Nat.le_trans hS.1 hz, fun q h1 h2 => ?_, fun q hq => ?_⟩⟩
  · by_cases hkl : k < w1.length
    · rw [List.getElem?_append_left hkl] at hq
      exact hP1 k q hq
    · rw [List.getElem?_append_right (by omega)] at hq
      have hq2 : (wc ++ Y)[k]? = some q := by rw [List.getElem?_append_right (by omega), ← hl]; exact hq
      refine (hP k q hq2).kept (hk _ (hP k q hq2).lt (fun ⟨e, he, h9⟩ => ?_))
      obtain ⟨j, hj⟩ := List.getElem?_of_mem he
      have hjl : j < wc.length := (List.getElem?_eq_some_iff.mp hj).1
      have := hD.1 j k e q (by rw [List.getElem?_append_left hjl]; exact hj) hq2 h9
      omega
  · obtain ⟨x0, h1, h2⟩ := key i x hi
    obtain ⟨z0, h3, h4⟩ := key j z hj
    exact hD.1 i j x0 z0 h1 h3 (h2.trans (hxz.trans h4.symm))
  · obtain ⟨q0, h1, h2⟩ := key k q hq
    rw [← h2]
    exact hD.2 k q0 h1
  · rw [hk q (Nat.lt_of_lt_of_le h1 hS.1) (fun z => h2 (hA q z))]
    exact hS.2.1 q h1 h2
  · rcases List.mem_append.mp hq with h | h
    · exact hS.2.2 q h
    · exact hA _ (hL q h)

section GO
variable {p : Program} {l : Launch} {e : Env} {R : Room} {s : State} {m : MethodId} {args : Array Value} {below : List Frame} {meth : Method} {c : Code} {H : Heap} {locs : List Loc} {cells slots : Nat} {Q : State → Prop}
variable {cc b0 : ByteArray} {nL maxL index n pc : Nat} {own host : String} {y : MethodName} {ret : Option FieldType} {rm : Room} {E : eE} {a : Addr} {As rest st : List Value} {wc w1 W0 W1 : va_W} {v : Option Value} {ls : Array Slot} {A : Nat → Prop} {H0 : Heap} {A9 : Array Value}
/-- what is the same at every call of a method's body -/
def Cx (p : Program) (s : State) (m : MethodId) (args : Array Value) (c : Code) (cc : ByteArray) (nL : Nat) (own : String) (E : eE) : Prop :=
  p.tables.exec = Jvm.exec ∧ c.code = cc ∧ c.maxLocals = nL ∧ s.vm.findClass own = some m.cls ∧ (∀ w ∈ lw_all, w.before args s = true) ∧ KX E s
theorem go_P (hr : CallRun p l e R s m args below meth c H locs cells slots 0 0 (F0 m pc ls st) rest (qP ret v A9) (fun _ => False))
    (kk : rtOK ret v → W p l e R s m args below meth c H locs cells slots Q (F0 m (pc + 3) ls (v.toList ++ rest))) : W p l e R s m args below meth c H locs cells slots Q (F0 m pc ls st) := by
  refine W.callX hr (fun x h => h.elim) (fun v' st₀ t h0 hq => ?_)
  obtain ⟨hv, hz, hh⟩ := hq
  cases hv
  rw [hh, h0]
  exact kk hz
theorem go_W (hH : Hp E A W0 H0 H locs) (is : List Nat) (hc : is.map (fun i => W0[i]?) = wc.map some) (hnd : va_nd is = true) (had : w1.map Prod.fst = wc.map Prod.fst) (hW1 : putAt W0 is w1 = W1)
    (hr : CallRun p l e R s m args below meth c H locs cells slots 0 0 (F0 m pc ls st) rest (qW E ret v wc w1 A9) (adr wc))
    (kk : ∀ (H1 : Heap) (locs1 : List Loc), rtOK ret v → Hp E A W1 H0 H1 locs1 → W p l e R s m args below meth c H1 locs1 cells slots Q (F0 m (pc + 3) ls (v.toList ++ rest))) : W p l e R s m args below meth c H locs cells slots Q (F0 m pc ls st) := by
  intro T hT X
  obtain ⟨v', st₀, t, T', L, h0, X', hL, e1, ⟨hv, hz, hP1, hs1, hk1⟩, stp⟩ := hr T hT X
  cases hv
  rw [h0] at hs1 hk1
  obtain ⟨t2, a1, b1⟩ := kk T'.heap (locs ++ L) hz (hH.back is hc hnd had hW1 (by rw [e1]; exact hP1) (by rw [e1]; exact hs1) (by rw [e1]; exact hk1) hL) T' rfl X'
  exact ⟨t2, stp t2 a1, b1⟩
theorem pre_P (hK : KX E s) (hP : va_P E.1 vwCl wc H) {av : List Value} : FrameBlind (va_Pc av (fun U => va_P E.1 vwCl wc U.heap ∧ KX E U)) ∧ ∀ U : State, U.heap = H → s.WarmedH U.vm → va_Pc av (fun U => va_P E.1 vwCl wc U.heap ∧ KX E U) av.toArray U :=
  ⟨fun a U g mk h => ⟨h.1, h.2.1, h.2.2.call g mk a⟩, fun U hU hW => ⟨rfl, by rw [hU]; exact hP, hK.warm hW⟩⟩
theorem pre_W (hK : KX E s) (hP : va_P E.1 vwCl wc H) (hD : va_D A wc) {av : List Value} : FrameBlind (va_Pc av (fun U => va_P E.1 vwCl wc U.heap ∧ KX E U ∧ va_D (fun _ => True) wc)) ∧ ∀ U : State, U.heap = H → s.WarmedH U.vm → va_Pc av (fun U => va_P E.1 vwCl wc U.heap ∧ KX E U ∧ va_D (fun _ => True) wc) av.toArray U :=
  ⟨fun a U g mk h => ⟨h.1, h.2.1, h.2.2.1.call g mk a, h.2.2.2⟩, fun U hU hW => ⟨rfl, by rw [hU]; exact hP, hK.warm hW, hD.weaken (fun _ _ _ _ => trivial)⟩⟩
/-- the links of a call: virtual -/
def LV (own : String) (index : Nat) (y : MethodName) (b0 : ByteArray) (maxL : Nat) (ret : Option FieldType) (n : Nat) : Prop :=
  Cond.methodLink own index y ∈ lw_all ∧ Cond.instanceMethod y ∈ lw_all ∧ Cond.selects y.cls y y ∈ lw_all ∧ Cond.initialized y.cls ∈ lw_all ∧ Cond.code y b0 maxL ret ∈ lw_all ∧ (y.cls ≠ "java/lang/invoke/MethodHandle" ∧ y.cls ≠ "java/lang/invoke/VarHandle" ∧ (parseMethodDescriptor y.desc).map (fun d => d.parameters.length) = some n)
/-- of a static one of its own class -/
def LSt (own : String) (index : Nat) (y : MethodName) (b0 : ByteArray) (maxL : Nat) (ret : Option FieldType) (n : Nat) : Prop :=
  Cond.methodLink own index y ∈ lw_all ∧ Cond.static y ∈ lw_all ∧ Cond.initialized y.cls ∈ lw_all ∧ Cond.code y b0 maxL ret ∈ lw_all ∧ (y.cls ≠ "java/lang/invoke/MethodHandle" ∧ y.cls ≠ "java/lang/invoke/VarHandle" ∧ (parseMethodDescriptor y.desc).map (fun d => d.parameters.length) = some n)
/-- of a static one of a nest mate -/
def LSN (own : String) (index : Nat) (y : MethodName) (host : String) (b0 : ByteArray) (maxL : Nat) (ret : Option FieldType) (n : Nat) : Prop :=
  (own, index, y, host) ∈ nst ∧ Cond.static y ∈ lw_all ∧ Cond.initialized y.cls ∈ lw_all ∧ Cond.code y b0 maxL ret ∈ lw_all ∧ (y.cls ≠ "java/lang/invoke/MethodHandle" ∧ y.cls ≠ "java/lang/invoke/VarHandle" ∧ (parseMethodDescriptor y.desc).map (fun d => d.parameters.length) = some n)
theorem LV.cw (h : LV own index y b0 maxL ret n) (hta : ∀ w ∈ lw_all, w.before args s = true) (hrc : rm.cells = 0) (hrs : rm.slots = 0) (hR : rm.frames + 1 ≤ R.frames ∧ 8 + (maxL + 11) + rm.locals ≤ R.locals) : CallW R s args own y.cls index y b0 maxL ret (ws_ y b0 maxL ret) rm 0 0 n :=
  ⟨callB_of n hta (gi_ h.2.2.2.2.1) rfl hrc hrs (hta _ h.2.2.2.1) (hta _ h.1) h.2.2.2.2.2 hR, hta _ h.2.1, hta _ h.2.2.1⟩
theorem LSt.cw (h : LSt own index y b0 maxL ret n) (hta : ∀ w ∈ lw_all, w.before args s = true) (hrc : rm.cells = 0) (hrs : rm.slots = 0) (hR : rm.frames + 1 ≤ R.frames ∧ 8 + (maxL + 11) + rm.locals ≤ R.locals) : CallB R s args own index y b0 maxL ret (ws_ y b0 maxL ret) rm 0 0 n ∧ (Cond.static y).before args s = true :=
  ⟨callB_of n hta (gi_ h.2.2.2.1) rfl hrc hrs (hta _ h.2.2.1) (hta _ h.1) h.2.2.2.2 hR, hta _ h.2.1⟩
theorem LSN.cw (h : LSN own index y host b0 maxL ret n) (hta : ∀ w ∈ lw_all, w.before args s = true) (hK : KX E s) (hrc : rm.cells = 0) (hrs : rm.slots = 0) (hR : rm.frames + 1 ≤ R.frames ∧ 8 + (maxL + 11) + rm.locals ≤ R.locals) : va_CN R s args own index y host b0 maxL ret (ws_ y b0 maxL ret) rm 0 0 n ∧ (Cond.static y).before args s = true ∧ True :=
  ⟨va_cnB n hta (gi_ h.2.2.2.1) rfl hrc hrs (hK.2 _ h.1) (hta _ h.2.2.1) h.2.2.2.2 hR, hta _ h.2.1, trivial⟩
theorem recv_ (hK : KX E s) (hP : va_P E.1 vwCl wc H) {ci : Nat} {fs : List Value} {C : String} {T : u_T} {N : Nat} (q0 : Nat) (he : wc[q0]? = some (a, .inr (ci, fs))) (hc : vwCl[ci]? = some (C, T, N)) : ∃ cell : Cell, H[a]? = some cell ∧ cell.vm.isStatics = false ∧ s.vm.findClass C = some cell.cls := va_recv hK.1 hP hc he
/-- a reader's call, virtual -/
theorem k_PV (hC : Cx p s m args c cc nL own E) (L : LV own index y b0 maxL ret n) (hR : rm.frames + 1 ≤ R.frames ∧ 8 + (maxL + 11) + rm.locals ≤ R.locals) (hcs : cells + 0 ≤ R.cells ∧ slots + 0 ≤ R.slots) (hM : cP l E y b0 maxL ret rm (.ref a :: As) wc v) (hrc : rm.cells = 0) (hrs : rm.slots = 0) (hP : va_P E.1 vwCl wc H)
    {ci : Nat} {fs : List Value} {T : u_T} {N : Nat} (he : wc[0]? = some (a, .inr (ci, fs))) (hc : vwCl[ci]? = some (y.cls, T, N)) (hsz : ls.size = nL) (hn : As.length = n) (hroom : (rest.map fun v => v.category).sum ≤ 8) (hst : st = As.reverse ++ .ref a :: rest) (hdg : decode cc pc = .ok (.invokevirtual index, 3))
    (kk : rtOK ret v → W p l e R s m args below meth c H locs cells slots Q (F0 m (pc + 3) ls (v.toList ++ rest))) : W p l e R s m args below meth c H locs cells slots Q (F0 m pc ls st) := by
  obtain ⟨hx, hb, hml, hown, hta, hK⟩ := hC
  have hp := pre_P (av := .ref a :: As) hK hP
  exact go_P (W.runV ⟨hx, hb, hml, hown, hta⟩ hM (L.cw hta hrc hrs hR) ⟨hp.1, recv_ hK hP 0 he hc, hp.2⟩ rfl hn hsz hst (lv_room hroom) hdg hcs) kk
theorem k_PS (hC : Cx p s m args c cc nL own E) (L : LSt own index y b0 maxL ret n) (hR : rm.frames + 1 ≤ R.frames ∧ 8 + (maxL + 11) + rm.locals ≤ R.locals) (hcs : cells + 0 ≤ R.cells ∧ slots + 0 ≤ R.slots) (hM : cP l E y b0 maxL ret rm As wc v) (hrc : rm.cells = 0) (hrs : rm.slots = 0) (hP : va_P E.1 vwCl wc H)
    (hsz : ls.size = nL) (hn : As.length = n) (hroom : (rest.map fun v => v.category).sum ≤ 8) (hst : st = As.reverse ++ rest) (hdg : decode cc pc = .ok (.invokestatic index, 3))
    (kk : rtOK ret v → W p l e R s m args below meth c H locs cells slots Q (F0 m (pc + 3) ls (v.toList ++ rest))) : W p l e R s m args below meth c H locs cells slots Q (F0 m pc ls st) := by
  obtain ⟨hx, hb, hml, hown, hta, hK⟩ := hC
  exact go_P (W.runS ⟨hx, hb, hml, hown, hta⟩ hM (L.cw hta hrc hrs hR) (pre_P hK hP) rfl hn hsz hst (lv_room hroom) hdg hcs) kk
theorem k_PSN (hC : Cx p s m args c cc nL own E) (L : LSN own index y host b0 maxL ret n) (hR : rm.frames + 1 ≤ R.frames ∧ 8 + (maxL + 11) + rm.locals ≤ R.locals) (hcs : cells + 0 ≤ R.cells ∧ slots + 0 ≤ R.slots) (hM : cP l E y b0 maxL ret rm As wc v) (hrc : rm.cells = 0) (hrs : rm.slots = 0) (hP : va_P E.1 vwCl wc H)
    (hsz : ls.size = nL) (hn : As.length = n) (hroom : (rest.map fun v => v.category).sum ≤ 8) (hst : st = As.reverse ++ rest) (hdg : decode cc pc = .ok (.invokestatic index, 3))
    (kk : rtOK ret v → W p l e R s m args below meth c H locs cells slots Q (F0 m (pc + 3) ls (v.toList ++ rest))) : W p l e R s m args below meth c H locs cells slots Q (F0 m pc ls st) := by
  obtain ⟨hx, hb, hml, hown, hta, hK⟩ := hC
  exact go_P (va_Run.run (va_runSN ⟨hx, hb, hml, hown, hta⟩ hM (L.cw hta hK hrc hrs hR) (pre_P hK hP) rfl hn hsz hst (lv_room hroom) hdg hcs)) kk
/-- a writer's call, virtual -/
theorem k_WV (hC : Cx p s m args c cc nL own E) (L : LV own index y b0 maxL ret n) (hR : rm.frames + 1 ≤ R.frames ∧ 8 + (maxL + 11) + rm.locals ≤ R.locals) (hcs : cells + 0 ≤ R.cells ∧ slots + 0 ≤ R.slots) (hM : cW l E y b0 maxL ret rm (.ref a :: As) wc v w1) (hrc : rm.cells = 0) (hrs : rm.slots = 0) (hH : Hp E A W0 H0 H locs) (is : List Nat) (hic : is.map (fun i => W0[i]?) = wc.map some) (hnd : va_nd is = true) (had : w1.map Prod.fst = wc.map Prod.fst) (hW1 : putAt W0 is w1 = W1)
    {ci : Nat} {fs : List Value} {T : u_T} {N : Nat} (he : wc[0]? = some (a, .inr (ci, fs))) (hc : vwCl[ci]? = some (y.cls, T, N)) (hsz : ls.size = nL) (hn : As.length = n) (hroom : (rest.map fun v => v.category).sum ≤ 8) (hst : st = As.reverse ++ .ref a :: rest) (hdg : decode cc pc = .ok (.invokevirtual index, 3))
    (kk : ∀ (H1 : Heap) (locs1 : List Loc), rtOK ret v → Hp E A W1 H0 H1 locs1 → W p l e R s m args below meth c H1 locs1 cells slots Q (F0 m (pc + 3) ls (v.toList ++ rest))) : W p l e R s m args below meth c H locs cells slots Q (F0 m pc ls st) := by
  obtain ⟨hx, hb, hml, hown, hta, hK⟩ := hC
  have hD := hH.2.1.sub is hnd hic
  have hP : va_P E.1 vwCl wc H := fun k q hk => by
    obtain ⟨hl, hin⟩ := sub_in hic
    have hj2 : k < is.length := by rw [hl]; exact (List.getElem?_eq_some_iff.mp hk).1
    obtain ⟨e2, h1, h2⟩ := hin k _ (List.getElem?_eq_getElem hj2)
    rw [hk] at h1
    cases h1
    exact hH.1 _ _ h2
  have hp := pre_W (av := .ref a :: As) hK hP hD
  exact go_W hH is hic hnd had hW1 (W.runV ⟨hx, hb, hml, hown, hta⟩ hM (L.cw hta hrc hrs hR) ⟨hp.1, recv_ hK hP 0 he hc, hp.2⟩ rfl hn hsz hst (lv_room hroom) hdg hcs) kk
theorem k_WVs (hC : Cx p s m args c cc nL own E) (L : LV own index y b0 maxL ret n) (hR : rm.frames + 1 ≤ R.frames ∧ 8 + (maxL + 11) + rm.locals ≤ R.locals) (hcs : cells + 0 ≤ R.cells ∧ slots + 0 ≤ R.slots) (hM : cW l E y b0 maxL ret rm (.ref a :: As) wc v w1) (hrc : rm.cells = 0) (hrs : rm.slots = 0) (hH : Hp E A wc H0 H locs) (had : w1.map Prod.fst = wc.map Prod.fst)
    {ci : Nat} {fs : List Value} {T : u_T} {N : Nat} (he : wc[0]? = some (a, .inr (ci, fs))) (hc : vwCl[ci]? = some (y.cls, T, N)) (hsz : ls.size = nL) (hn : As.length = n) (hroom : (rest.map fun v => v.category).sum ≤ 8) (hst : st = As.reverse ++ .ref a :: rest) (hdg : decode cc pc = .ok (.invokevirtual index, 3))
    (kk : ∀ (H1 : Heap) (locs1 : List Loc), rtOK ret v → Hp E A w1 H0 H1 locs1 → W p l e R s m args below meth c H1 locs1 cells slots Q (F0 m (pc + 3) ls (v.toList ++ rest))) : W p l e R s m args below meth c H locs cells slots Q (F0 m pc ls st) := by
  obtain ⟨hx, hb, hml, hown, hta, hK⟩ := hC
  have hp := pre_W (av := .ref a :: As) hK hH.1 hH.2.1
  have hr := W.runV ⟨hx, hb, hml, hown, hta⟩ hM (L.cw hta hrc hrs hR) ⟨hp.1, recv_ hK hH.1 0 he hc, hp.2⟩ (cells := cells) (slots := slots) (locs := locs) (below := below) (meth := meth) (e := e) (p := p) (l := l) (g := F0 m pc ls st) rfl hn hsz hst (lv_room hroom) hdg hcs
  intro T9 hT X
  obtain ⟨v', st₀, t, T', L9, h0, X', hL, e1, ⟨hv, hz, hP1, hs1, hk1⟩, stp⟩ := hr T9 hT X
  cases hv
  rw [h0] at hs1 hk1
  obtain ⟨t2, a1, b1⟩ := kk T'.heap (locs ++ L9) hz (hH.all had (by rw [e1]; exact hP1) (by rw [e1]; exact hs1) (by rw [e1]; exact hk1) hL) T' rfl X'
  exact ⟨t2, stp t2 a1, b1⟩
theorem k_WVp (hC : Cx p s m args c cc nL own E) (L : LV own index y b0 maxL ret n) (hR : rm.frames + 1 ≤ R.frames ∧ 8 + (maxL + 11) + rm.locals ≤ R.locals) (hcs : cells + 0 ≤ R.cells ∧ slots + 0 ≤ R.slots) (hM : cW l E y b0 maxL ret rm (.ref a :: As) wc v w1) (hrc : rm.cells = 0) (hrs : rm.slots = 0) (hH0 : Hp E A W0 H0 H locs) {Y : va_W} (hp0 : W0.Perm (wc ++ Y)) (hp1 : (w1 ++ Y).Perm W1) (had : w1.map Prod.fst = wc.map Prod.fst)
    {ci : Nat} {fs : List Value} {T : u_T} {N : Nat} (he : wc[0]? = some (a, .inr (ci, fs))) (hc : vwCl[ci]? = some (y.cls, T, N)) (hsz : ls.size = nL) (hn : As.length = n) (hroom : (rest.map fun v => v.category).sum ≤ 8) (hst : st = As.reverse ++ .ref a :: rest) (hdg : decode cc pc = .ok (.invokevirtual index, 3))
    (kk : ∀ (H1 : Heap) (locs1 : List Loc), rtOK ret v → Hp E A W1 H0 H1 locs1 → W p l e R s m args below meth c H1 locs1 cells slots Q (F0 m (pc + 3) ls (v.toList ++ rest))) : W p l e R s m args below meth c H locs cells slots Q (F0 m pc ls st) := by
  obtain ⟨hx, hb, hml, hown, hta, hK⟩ := hC
  have hH := hH0.perm hp0
  have hPc : va_P E.1 vwCl wc H := vP_perm hH.1 (List.Perm.refl _)
  have hDc : va_D A wc := ⟨fun i j x z hi hj h => hH.2.1.1 i j x z (by rw [List.getElem?_append_left (List.getElem?_eq_some_iff.mp hi).1]; exact hi) (by rw [List.getElem?_append_left (List.getElem?_eq_some_iff.mp hj).1]; exact hj) h, fun i x hi => hH.2.1.2 i x (by rw [List.getElem?_append_left (List.getElem?_eq_some_iff.mp hi).1]; exact hi)⟩
  have hp := pre_W (av := .ref a :: As) hK hPc hDc
  have hr := W.runV ⟨hx, hb, hml, hown, hta⟩ hM (L.cw hta hrc hrs hR) ⟨hp.1, recv_ hK hPc 0 he hc, hp.2⟩ (cells := cells) (slots := slots) (locs := locs) (below := below) (meth := meth) (e := e) (p := p) (l := l) (g := F0 m pc ls st) rfl hn hsz hst (lv_room hroom) hdg hcs
  intro T9 hT X
  obtain ⟨v', st₀, t, T', L9, h0, X', hL, e1, ⟨hv, hz, hP1, hs1, hk1⟩, stp⟩ := hr T9 hT X
  cases hv
  rw [h0] at hs1 hk1
  obtain ⟨t2, a1, b1⟩ := kk T'.heap (locs ++ L9) hz ((hH.app had (by rw [e1]; exact hP1) (by rw [e1]; exact hs1) (by rw [e1]; exact hk1) hL).perm hp1) T' rfl X'
  exact ⟨t2, stp t2 a1, b1⟩
/-- a writer's call, static, on the whole world -/
theorem k_WSs (hC : Cx p s m args c cc nL own E) (L : LSt own index y b0 maxL ret n) (hR : rm.frames + 1 ≤ R.frames ∧ 8 + (maxL + 11) + rm.locals ≤ R.locals) (hcs : cells + 0 ≤ R.cells ∧ slots + 0 ≤ R.slots) (hM : cW l E y b0 maxL ret rm As wc v w1) (hrc : rm.cells = 0) (hrs : rm.slots = 0) (hH : Hp E A wc H0 H locs) (had : w1.map Prod.fst = wc.map Prod.fst)
    (hsz : ls.size = nL) (hn : As.length = n) (hroom : (rest.map fun v => v.category).sum ≤ 8) (hst : st = As.reverse ++ rest) (hdg : decode cc pc = .ok (.invokestatic index, 3))
    (kk : ∀ (H1 : Heap) (locs1 : List Loc), rtOK ret v → Hp E A w1 H0 H1 locs1 → W p l e R s m args below meth c H1 locs1 cells slots Q (F0 m (pc + 3) ls (v.toList ++ rest))) : W p l e R s m args below meth c H locs cells slots Q (F0 m pc ls st) := by
  obtain ⟨hx, hb, hml, hown, hta, hK⟩ := hC
  have hp := pre_W (av := As) hK hH.1 hH.2.1
  have hr := W.runS ⟨hx, hb, hml, hown, hta⟩ hM (L.cw hta hrc hrs hR) hp (cells := cells) (slots := slots) (locs := locs) (below := below) (meth := meth) (e := e) (p := p) (l := l) (g := F0 m pc ls st) rfl hn hsz hst (lv_room hroom) hdg hcs
  intro T9 hT X
  obtain ⟨v', st₀, t, T', L9, h0, X', hL, e1, ⟨hv, hz, hP1, hs1, hk1⟩, stp⟩ := hr T9 hT X
  cases hv
  rw [h0] at hs1 hk1
  obtain ⟨t2, a1, b1⟩ := kk T'.heap (locs ++ L9) hz (hH.all had (by rw [e1]; exact hP1) (by rw [e1]; exact hs1) (by rw [e1]; exact hk1) hL) T' rfl X'
  exact ⟨t2, stp t2 a1, b1⟩
theorem k_PVi {r : Int32} (hC : Cx p s m args c cc nL own E) (L : LV own index y b0 maxL ret n) (hR : rm.frames + 1 ≤ R.frames ∧ 8 + (maxL + 11) + rm.locals ≤ R.locals) (hcs : cells + 0 ≤ R.cells ∧ slots + 0 ≤ R.slots) (hM : cP l E y b0 maxL ret rm (.ref a :: As) wc (some (.int r))) (hrc : rm.cells = 0) (hrs : rm.slots = 0) (hP : va_P E.1 vwCl wc H)
    {ci : Nat} {fs : List Value} {T : u_T} {N : Nat} (he : wc[0]? = some (a, .inr (ci, fs))) (hc : vwCl[ci]? = some (y.cls, T, N)) (hsz : ls.size = nL) (hn : As.length = n) (hroom : (rest.map fun v => v.category).sum ≤ 8) (hst : st = As.reverse ++ .ref a :: rest) (hdg : decode cc pc = .ok (.invokevirtual index, 3))
    (kk : rtOK ret (some (.int r)) → W p l e R s m args below meth c H locs cells slots Q (F0 m (pc + 3) ls (.int r :: rest))) : W p l e R s m args below meth c H locs cells slots Q (F0 m pc ls st) := k_PV hC L hR hcs hM hrc hrs hP he hc hsz hn hroom hst hdg kk
theorem k_PVl {r : Int64} (hC : Cx p s m args c cc nL own E) (L : LV own index y b0 maxL ret n) (hR : rm.frames + 1 ≤ R.frames ∧ 8 + (maxL + 11) + rm.locals ≤ R.locals) (hcs : cells + 0 ≤ R.cells ∧ slots + 0 ≤ R.slots) (hM : cP l E y b0 maxL ret rm (.ref a :: As) wc (some (.long r))) (hrc : rm.cells = 0) (hrs : rm.slots = 0) (hP : va_P E.1 vwCl wc H)
    {ci : Nat} {fs : List Value} {T : u_T} {N : Nat} (he : wc[0]? = some (a, .inr (ci, fs))) (hc : vwCl[ci]? = some (y.cls, T, N)) (hsz : ls.size = nL) (hn : As.length = n) (hroom : (rest.map fun v => v.category).sum ≤ 8) (hst : st = As.reverse ++ .ref a :: rest) (hdg : decode cc pc = .ok (.invokevirtual index, 3))
    (kk : rtOK ret (some (.long r)) → W p l e R s m args below meth c H locs cells slots Q (F0 m (pc + 3) ls (.long r :: rest))) : W p l e R s m args below meth c H locs cells slots Q (F0 m pc ls st) := k_PV hC L hR hcs hM hrc hrs hP he hc hsz hn hroom hst hdg kk
theorem k_PVd {r : UInt64} (hC : Cx p s m args c cc nL own E) (L : LV own index y b0 maxL ret n) (hR : rm.frames + 1 ≤ R.frames ∧ 8 + (maxL + 11) + rm.locals ≤ R.locals) (hcs : cells + 0 ≤ R.cells ∧ slots + 0 ≤ R.slots) (hM : cP l E y b0 maxL ret rm (.ref a :: As) wc (some (.double r))) (hrc : rm.cells = 0) (hrs : rm.slots = 0) (hP : va_P E.1 vwCl wc H)
    {ci : Nat} {fs : List Value} {T : u_T} {N : Nat} (he : wc[0]? = some (a, .inr (ci, fs))) (hc : vwCl[ci]? = some (y.cls, T, N)) (hsz : ls.size = nL) (hn : As.length = n) (hroom : (rest.map fun v => v.category).sum ≤ 8) (hst : st = As.reverse ++ .ref a :: rest) (hdg : decode cc pc = .ok (.invokevirtual index, 3))
    (kk : rtOK ret (some (.double r)) → W p l e R s m args below meth c H locs cells slots Q (F0 m (pc + 3) ls (.double r :: rest))) : W p l e R s m args below meth c H locs cells slots Q (F0 m pc ls st) := k_PV hC L hR hcs hM hrc hrs hP he hc hsz hn hroom hst hdg kk
theorem k_PVf {r : UInt32} (hC : Cx p s m args c cc nL own E) (L : LV own index y b0 maxL ret n) (hR : rm.frames + 1 ≤ R.frames ∧ 8 + (maxL + 11) + rm.locals ≤ R.locals) (hcs : cells + 0 ≤ R.cells ∧ slots + 0 ≤ R.slots) (hM : cP l E y b0 maxL ret rm (.ref a :: As) wc (some (.float r))) (hrc : rm.cells = 0) (hrs : rm.slots = 0) (hP : va_P E.1 vwCl wc H)
    {ci : Nat} {fs : List Value} {T : u_T} {N : Nat} (he : wc[0]? = some (a, .inr (ci, fs))) (hc : vwCl[ci]? = some (y.cls, T, N)) (hsz : ls.size = nL) (hn : As.length = n) (hroom : (rest.map fun v => v.category).sum ≤ 8) (hst : st = As.reverse ++ .ref a :: rest) (hdg : decode cc pc = .ok (.invokevirtual index, 3))
    (kk : rtOK ret (some (.float r)) → W p l e R s m args below meth c H locs cells slots Q (F0 m (pc + 3) ls (.float r :: rest))) : W p l e R s m args below meth c H locs cells slots Q (F0 m pc ls st) := k_PV hC L hR hcs hM hrc hrs hP he hc hsz hn hroom hst hdg kk
theorem k_PVv (hC : Cx p s m args c cc nL own E) (L : LV own index y b0 maxL ret n) (hR : rm.frames + 1 ≤ R.frames ∧ 8 + (maxL + 11) + rm.locals ≤ R.locals) (hcs : cells + 0 ≤ R.cells ∧ slots + 0 ≤ R.slots) (hM : cP l E y b0 maxL ret rm (.ref a :: As) wc none) (hrc : rm.cells = 0) (hrs : rm.slots = 0) (hP : va_P E.1 vwCl wc H)
    {ci : Nat} {fs : List Value} {T : u_T} {N : Nat} (he : wc[0]? = some (a, .inr (ci, fs))) (hc : vwCl[ci]? = some (y.cls, T, N)) (hsz : ls.size = nL) (hn : As.length = n) (hroom : (rest.map fun v => v.category).sum ≤ 8) (hst : st = As.reverse ++ .ref a :: rest) (hdg : decode cc pc = .ok (.invokevirtual index, 3))
    (kk : rtOK ret none → W p l e R s m args below meth c H locs cells slots Q (F0 m (pc + 3) ls rest)) : W p l e R s m args below meth c H locs cells slots Q (F0 m pc ls st) := k_PV hC L hR hcs hM hrc hrs hP he hc hsz hn hroom hst hdg kk
theorem k_PVr {r : Value} (hC : Cx p s m args c cc nL own E) (L : LV own index y b0 maxL ret n) (hR : rm.frames + 1 ≤ R.frames ∧ 8 + (maxL + 11) + rm.locals ≤ R.locals) (hcs : cells + 0 ≤ R.cells ∧ slots + 0 ≤ R.slots) (hM : cP l E y b0 maxL ret rm (.ref a :: As) wc (some r)) (hrc : rm.cells = 0) (hrs : rm.slots = 0) (hP : va_P E.1 vwCl wc H)
    {ci : Nat} {fs : List Value} {T : u_T} {N : Nat} (he : wc[0]? = some (a, .inr (ci, fs))) (hc : vwCl[ci]? = some (y.cls, T, N)) (hsz : ls.size = nL) (hn : As.length = n) (hroom : (rest.map fun v => v.category).sum ≤ 8) (hst : st = As.reverse ++ .ref a :: rest) (hdg : decode cc pc = .ok (.invokevirtual index, 3))
    (kk : rtOK ret (some r) → W p l e R s m args below meth c H locs cells slots Q (F0 m (pc + 3) ls (r :: rest))) : W p l e R s m args below meth c H locs cells slots Q (F0 m pc ls st) := k_PV hC L hR hcs hM hrc hrs hP he hc hsz hn hroom hst hdg kk
theorem k_PSi {r : Int32} (hC : Cx p s m args c cc nL own E) (L : LSt own index y b0 maxL ret n) (hR : rm.frames + 1 ≤ R.frames ∧ 8 + (maxL + 11) + rm.locals ≤ R.locals) (hcs : cells + 0 ≤ R.cells ∧ slots + 0 ≤ R.slots) (hM : cP l E y b0 maxL ret rm As wc (some (.int r))) (hrc : rm.cells = 0) (hrs : rm.slots = 0) (hP : va_P E.1 vwCl wc H)
    (hsz : ls.size = nL) (hn : As.length = n) (hroom : (rest.map fun v => v.category).sum ≤ 8) (hst : st = As.reverse ++ rest) (hdg : decode cc pc = .ok (.invokestatic index, 3))
    (kk : rtOK ret (some (.int r)) → W p l e R s m args below meth c H locs cells slots Q (F0 m (pc + 3) ls (.int r :: rest))) : W p l e R s m args below meth c H locs cells slots Q (F0 m pc ls st) := k_PS hC L hR hcs hM hrc hrs hP hsz hn hroom hst hdg kk
theorem k_PSl {r : Int64} (hC : Cx p s m args c cc nL own E) (L : LSt own index y b0 maxL ret n) (hR : rm.frames + 1 ≤ R.frames ∧ 8 + (maxL + 11) + rm.locals ≤ R.locals) (hcs : cells + 0 ≤ R.cells ∧ slots + 0 ≤ R.slots) (hM : cP l E y b0 maxL ret rm As wc (some (.long r))) (hrc : rm.cells = 0) (hrs : rm.slots = 0) (hP : va_P E.1 vwCl wc H)
    (hsz : ls.size = nL) (hn : As.length = n) (hroom : (rest.map fun v => v.category).sum ≤ 8) (hst : st = As.reverse ++ rest) (hdg : decode cc pc = .ok (.invokestatic index, 3))
    (kk : rtOK ret (some (.long r)) → W p l e R s m args below meth c H locs cells slots Q (F0 m (pc + 3) ls (.long r :: rest))) : W p l e R s m args below meth c H locs cells slots Q (F0 m pc ls st) := k_PS hC L hR hcs hM hrc hrs hP hsz hn hroom hst hdg kk
theorem k_PSd {r : UInt64} (hC : Cx p s m args c cc nL own E) (L : LSt own index y b0 maxL ret n) (hR : rm.frames + 1 ≤ R.frames ∧ 8 + (maxL + 11) + rm.locals ≤ R.locals) (hcs : cells + 0 ≤ R.cells ∧ slots + 0 ≤ R.slots) (hM : cP l E y b0 maxL ret rm As wc (some (.double r))) (hrc : rm.cells = 0) (hrs : rm.slots = 0) (hP : va_P E.1 vwCl wc H)
    (hsz : ls.size = nL) (hn : As.length = n) (hroom : (rest.map fun v => v.category).sum ≤ 8) (hst : st = As.reverse ++ rest) (hdg : decode cc pc = .ok (.invokestatic index, 3))
    (kk : rtOK ret (some (.double r)) → W p l e R s m args below meth c H locs cells slots Q (F0 m (pc + 3) ls (.double r :: rest))) : W p l e R s m args below meth c H locs cells slots Q (F0 m pc ls st) := k_PS hC L hR hcs hM hrc hrs hP hsz hn hroom hst hdg kk
theorem k_PSf {r : UInt32} (hC : Cx p s m args c cc nL own E) (L : LSt own index y b0 maxL ret n) (hR : rm.frames + 1 ≤ R.frames ∧ 8 + (maxL + 11) + rm.locals ≤ R.locals) (hcs : cells + 0 ≤ R.cells ∧ slots + 0 ≤ R.slots) (hM : cP l E y b0 maxL ret rm As wc (some (.float r))) (hrc : rm.cells = 0) (hrs : rm.slots = 0) (hP : va_P E.1 vwCl wc H)
    (hsz : ls.size = nL) (hn : As.length = n) (hroom : (rest.map fun v => v.category).sum ≤ 8) (hst : st = As.reverse ++ rest) (hdg : decode cc pc = .ok (.invokestatic index, 3))
    (kk : rtOK ret (some (.float r)) → W p l e R s m args below meth c H locs cells slots Q (F0 m (pc + 3) ls (.float r :: rest))) : W p l e R s m args below meth c H locs cells slots Q (F0 m pc ls st) := k_PS hC L hR hcs hM hrc hrs hP hsz hn hroom hst hdg kk
theorem k_PSv (hC : Cx p s m args c cc nL own E) (L : LSt own index y b0 maxL ret n) (hR : rm.frames + 1 ≤ R.frames ∧ 8 + (maxL + 11) + rm.locals ≤ R.locals) (hcs : cells + 0 ≤ R.cells ∧ slots + 0 ≤ R.slots) (hM : cP l E y b0 maxL ret rm As wc none) (hrc : rm.cells = 0) (hrs : rm.slots = 0) (hP : va_P E.1 vwCl wc H)
    (hsz : ls.size = nL) (hn : As.length = n) (hroom : (rest.map fun v => v.category).sum ≤ 8) (hst : st = As.reverse ++ rest) (hdg : decode cc pc = .ok (.invokestatic index, 3))
    (kk : rtOK ret none → W p l e R s m args below meth c H locs cells slots Q (F0 m (pc + 3) ls rest)) : W p l e R s m args below meth c H locs cells slots Q (F0 m pc ls st) := k_PS hC L hR hcs hM hrc hrs hP hsz hn hroom hst hdg kk
theorem k_PSNi {r : Int32} (hC : Cx p s m args c cc nL own E) (L : LSN own index y host b0 maxL ret n) (hR : rm.frames + 1 ≤ R.frames ∧ 8 + (maxL + 11) + rm.locals ≤ R.locals) (hcs : cells + 0 ≤ R.cells ∧ slots + 0 ≤ R.slots) (hM : cP l E y b0 maxL ret rm As wc (some (.int r))) (hrc : rm.cells = 0) (hrs : rm.slots = 0) (hP : va_P E.1 vwCl wc H)
    (hsz : ls.size = nL) (hn : As.length = n) (hroom : (rest.map fun v => v.category).sum ≤ 8) (hst : st = As.reverse ++ rest) (hdg : decode cc pc = .ok (.invokestatic index, 3))
    (kk : rtOK ret (some (.int r)) → W p l e R s m args below meth c H locs cells slots Q (F0 m (pc + 3) ls (.int r :: rest))) : W p l e R s m args below meth c H locs cells slots Q (F0 m pc ls st) := k_PSN hC L hR hcs hM hrc hrs hP hsz hn hroom hst hdg kk
theorem k_PSNl {r : Int64} (hC : Cx p s m args c cc nL own E) (L : LSN own index y host b0 maxL ret n) (hR : rm.frames + 1 ≤ R.frames ∧ 8 + (maxL + 11) + rm.locals ≤ R.locals) (hcs : cells + 0 ≤ R.cells ∧ slots + 0 ≤ R.slots) (hM : cP l E y b0 maxL ret rm As wc (some (.long r))) (hrc : rm.cells = 0) (hrs : rm.slots = 0) (hP : va_P E.1 vwCl wc H)
    (hsz : ls.size = nL) (hn : As.length = n) (hroom : (rest.map fun v => v.category).sum ≤ 8) (hst : st = As.reverse ++ rest) (hdg : decode cc pc = .ok (.invokestatic index, 3))
    (kk : rtOK ret (some (.long r)) → W p l e R s m args below meth c H locs cells slots Q (F0 m (pc + 3) ls (.long r :: rest))) : W p l e R s m args below meth c H locs cells slots Q (F0 m pc ls st) := k_PSN hC L hR hcs hM hrc hrs hP hsz hn hroom hst hdg kk
theorem k_PSNd {r : UInt64} (hC : Cx p s m args c cc nL own E) (L : LSN own index y host b0 maxL ret n) (hR : rm.frames + 1 ≤ R.frames ∧ 8 + (maxL + 11) + rm.locals ≤ R.locals) (hcs : cells + 0 ≤ R.cells ∧ slots + 0 ≤ R.slots) (hM : cP l E y b0 maxL ret rm As wc (some (.double r))) (hrc : rm.cells = 0) (hrs : rm.slots = 0) (hP : va_P E.1 vwCl wc H)
    (hsz : ls.size = nL) (hn : As.length = n) (hroom : (rest.map fun v => v.category).sum ≤ 8) (hst : st = As.reverse ++ rest) (hdg : decode cc pc = .ok (.invokestatic index, 3))
    (kk : rtOK ret (some (.double r)) → W p l e R s m args below meth c H locs cells slots Q (F0 m (pc + 3) ls (.double r :: rest))) : W p l e R s m args below meth c H locs cells slots Q (F0 m pc ls st) := k_PSN hC L hR hcs hM hrc hrs hP hsz hn hroom hst hdg kk
theorem k_PSNf {r : UInt32} (hC : Cx p s m args c cc nL own E) (L : LSN own index y host b0 maxL ret n) (hR : rm.frames + 1 ≤ R.frames ∧ 8 + (maxL + 11) + rm.locals ≤ R.locals) (hcs : cells + 0 ≤ R.cells ∧ slots + 0 ≤ R.slots) (hM : cP l E y b0 maxL ret rm As wc (some (.float r))) (hrc : rm.cells = 0) (hrs : rm.slots = 0) (hP : va_P E.1 vwCl wc H)
    (hsz : ls.size = nL) (hn : As.length = n) (hroom : (rest.map fun v => v.category).sum ≤ 8) (hst : st = As.reverse ++ rest) (hdg : decode cc pc = .ok (.invokestatic index, 3))
    (kk : rtOK ret (some (.float r)) → W p l e R s m args below meth c H locs cells slots Q (F0 m (pc + 3) ls (.float r :: rest))) : W p l e R s m args below meth c H locs cells slots Q (F0 m pc ls st) := k_PSN hC L hR hcs hM hrc hrs hP hsz hn hroom hst hdg kk
theorem k_PSNv (hC : Cx p s m args c cc nL own E) (L : LSN own index y host b0 maxL ret n) (hR : rm.frames + 1 ≤ R.frames ∧ 8 + (maxL + 11) + rm.locals ≤ R.locals) (hcs : cells + 0 ≤ R.cells ∧ slots + 0 ≤ R.slots) (hM : cP l E y b0 maxL ret rm As wc none) (hrc : rm.cells = 0) (hrs : rm.slots = 0) (hP : va_P E.1 vwCl wc H)
    (hsz : ls.size = nL) (hn : As.length = n) (hroom : (rest.map fun v => v.category).sum ≤ 8) (hst : st = As.reverse ++ rest) (hdg : decode cc pc = .ok (.invokestatic index, 3))
    (kk : rtOK ret none → W p l e R s m args below meth c H locs cells slots Q (F0 m (pc + 3) ls rest)) : W p l e R s m args below meth c H locs cells slots Q (F0 m pc ls st) := k_PSN hC L hR hcs hM hrc hrs hP hsz hn hroom hst hdg kk
theorem k_WVi {r : Int32} (hC : Cx p s m args c cc nL own E) (L : LV own index y b0 maxL ret n) (hR : rm.frames + 1 ≤ R.frames ∧ 8 + (maxL + 11) + rm.locals ≤ R.locals) (hcs : cells + 0 ≤ R.cells ∧ slots + 0 ≤ R.slots) (hM : cW l E y b0 maxL ret rm (.ref a :: As) wc (some (.int r)) w1) (hrc : rm.cells = 0) (hrs : rm.slots = 0) (hH : Hp E A W0 H0 H locs) (is : List Nat) (hic : is.map (fun i => W0[i]?) = wc.map some) (hnd : va_nd is = true) (had : w1.map Prod.fst = wc.map Prod.fst) (hW1 : putAt W0 is w1 = W1)
    {ci : Nat} {fs : List Value} {T : u_T} {N : Nat} (he : wc[0]? = some (a, .inr (ci, fs))) (hc : vwCl[ci]? = some (y.cls, T, N)) (hsz : ls.size = nL) (hn : As.length = n) (hroom : (rest.map fun v => v.category).sum ≤ 8) (hst : st = As.reverse ++ .ref a :: rest) (hdg : decode cc pc = .ok (.invokevirtual index, 3))
    (kk : ∀ (H1 : Heap) (locs1 : List Loc), rtOK ret (some (.int r)) → Hp E A W1 H0 H1 locs1 → W p l e R s m args below meth c H1 locs1 cells slots Q (F0 m (pc + 3) ls (.int r :: rest))) : W p l e R s m args below meth c H locs cells slots Q (F0 m pc ls st) := k_WV hC L hR hcs hM hrc hrs hH is hic hnd had hW1 he hc hsz hn hroom hst hdg kk
theorem k_WVl {r : Int64} (hC : Cx p s m args c cc nL own E) (L : LV own index y b0 maxL ret n) (hR : rm.frames + 1 ≤ R.frames ∧ 8 + (maxL + 11) + rm.locals ≤ R.locals) (hcs : cells + 0 ≤ R.cells ∧ slots + 0 ≤ R.slots) (hM : cW l E y b0 maxL ret rm (.ref a :: As) wc (some (.long r)) w1) (hrc : rm.cells = 0) (hrs : rm.slots = 0) (hH : Hp E A W0 H0 H locs) (is : List Nat) (hic : is.map (fun i => W0[i]?) = wc.map some) (hnd : va_nd is = true) (had : w1.map Prod.fst = wc.map Prod.fst) (hW1 : putAt W0 is w1 = W1)
    {ci : Nat} {fs : List Value} {T : u_T} {N : Nat} (he : wc[0]? = some (a, .inr (ci, fs))) (hc : vwCl[ci]? = some (y.cls, T, N)) (hsz : ls.size = nL) (hn : As.length = n) (hroom : (rest.map fun v => v.category).sum ≤ 8) (hst : st = As.reverse ++ .ref a :: rest) (hdg : decode cc pc = .ok (.invokevirtual index, 3))
    (kk : ∀ (H1 : Heap) (locs1 : List Loc), rtOK ret (some (.long r)) → Hp E A W1 H0 H1 locs1 → W p l e R s m args below meth c H1 locs1 cells slots Q (F0 m (pc + 3) ls (.long r :: rest))) : W p l e R s m args below meth c H locs cells slots Q (F0 m pc ls st) := k_WV hC L hR hcs hM hrc hrs hH is hic hnd had hW1 he hc hsz hn hroom hst hdg kk
theorem k_WVd {r : UInt64} (hC : Cx p s m args c cc nL own E) (L : LV own index y b0 maxL ret n) (hR : rm.frames + 1 ≤ R.frames ∧ 8 + (maxL + 11) + rm.locals ≤ R.locals) (hcs : cells + 0 ≤ R.cells ∧ slots + 0 ≤ R.slots) (hM : cW l E y b0 maxL ret rm (.ref a :: As) wc (some (.double r)) w1) (hrc : rm.cells = 0) (hrs : rm.slots = 0) (hH : Hp E A W0 H0 H locs) (is : List Nat) (hic : is.map (fun i => W0[i]?) = wc.map some) (hnd : va_nd is = true) (had : w1.map Prod.fst = wc.map Prod.fst) (hW1 : putAt W0 is w1 = W1)
    {ci : Nat} {fs : List Value} {T : u_T} {N : Nat} (he : wc[0]? = some (a, .inr (ci, fs))) (hc : vwCl[ci]? = some (y.cls, T, N)) (hsz : ls.size = nL) (hn : As.length = n) (hroom : (rest.map fun v => v.category).sum ≤ 8) (hst : st = As.reverse ++ .ref a :: rest) (hdg : decode cc pc = .ok (.invokevirtual index, 3))
    (kk : ∀ (H1 : Heap) (locs1 : List Loc), rtOK ret (some (.double r)) → Hp E A W1 H0 H1 locs1 → W p l e R s m args below meth c H1 locs1 cells slots Q (F0 m (pc + 3) ls (.double r :: rest))) : W p l e R s m args below meth c H locs cells slots Q (F0 m pc ls st) := k_WV hC L hR hcs hM hrc hrs hH is hic hnd had hW1 he hc hsz hn hroom hst hdg kk
theorem k_WVf {r : UInt32} (hC : Cx p s m args c cc nL own E) (L : LV own index y b0 maxL ret n) (hR : rm.frames + 1 ≤ R.frames ∧ 8 + (maxL + 11) + rm.locals ≤ R.locals) (hcs : cells + 0 ≤ R.cells ∧ slots + 0 ≤ R.slots) (hM : cW l E y b0 maxL ret rm (.ref a :: As) wc (some (.float r)) w1) (hrc : rm.cells = 0) (hrs : rm.slots = 0) (hH : Hp E A W0 H0 H locs) (is : List Nat) (hic : is.map (fun i => W0[i]?) = wc.map some) (hnd : va_nd is = true) (had : w1.map Prod.fst = wc.map Prod.fst) (hW1 : putAt W0 is w1 = W1)
    {ci : Nat} {fs : List Value} {T : u_T} {N : Nat} (he : wc[0]? = some (a, .inr (ci, fs))) (hc : vwCl[ci]? = some (y.cls, T, N)) (hsz : ls.size = nL) (hn : As.length = n) (hroom : (rest.map fun v => v.category).sum ≤ 8) (hst : st = As.reverse ++ .ref a :: rest) (hdg : decode cc pc = .ok (.invokevirtual index, 3))
    (kk : ∀ (H1 : Heap) (locs1 : List Loc), rtOK ret (some (.float r)) → Hp E A W1 H0 H1 locs1 → W p l e R s m args below meth c H1 locs1 cells slots Q (F0 m (pc + 3) ls (.float r :: rest))) : W p l e R s m args below meth c H locs cells slots Q (F0 m pc ls st) := k_WV hC L hR hcs hM hrc hrs hH is hic hnd had hW1 he hc hsz hn hroom hst hdg kk
theorem k_WVv (hC : Cx p s m args c cc nL own E) (L : LV own index y b0 maxL ret n) (hR : rm.frames + 1 ≤ R.frames ∧ 8 + (maxL + 11) + rm.locals ≤ R.locals) (hcs : cells + 0 ≤ R.cells ∧ slots + 0 ≤ R.slots) (hM : cW l E y b0 maxL ret rm (.ref a :: As) wc none w1) (hrc : rm.cells = 0) (hrs : rm.slots = 0) (hH : Hp E A W0 H0 H locs) (is : List Nat) (hic : is.map (fun i => W0[i]?) = wc.map some) (hnd : va_nd is = true) (had : w1.map Prod.fst = wc.map Prod.fst) (hW1 : putAt W0 is w1 = W1)
    {ci : Nat} {fs : List Value} {T : u_T} {N : Nat} (he : wc[0]? = some (a, .inr (ci, fs))) (hc : vwCl[ci]? = some (y.cls, T, N)) (hsz : ls.size = nL) (hn : As.length = n) (hroom : (rest.map fun v => v.category).sum ≤ 8) (hst : st = As.reverse ++ .ref a :: rest) (hdg : decode cc pc = .ok (.invokevirtual index, 3))
    (kk : ∀ (H1 : Heap) (locs1 : List Loc), rtOK ret none → Hp E A W1 H0 H1 locs1 → W p l e R s m args below meth c H1 locs1 cells slots Q (F0 m (pc + 3) ls rest)) : W p l e R s m args below meth c H locs cells slots Q (F0 m pc ls st) := k_WV hC L hR hcs hM hrc hrs hH is hic hnd had hW1 he hc hsz hn hroom hst hdg kk
theorem k_WVsi {r : Int32} (hC : Cx p s m args c cc nL own E) (L : LV own index y b0 maxL ret n) (hR : rm.frames + 1 ≤ R.frames ∧ 8 + (maxL + 11) + rm.locals ≤ R.locals) (hcs : cells + 0 ≤ R.cells ∧ slots + 0 ≤ R.slots) (hM : cW l E y b0 maxL ret rm (.ref a :: As) wc (some (.int r)) w1) (hrc : rm.cells = 0) (hrs : rm.slots = 0) (hH : Hp E A wc H0 H locs) (had : w1.map Prod.fst = wc.map Prod.fst)
    {ci : Nat} {fs : List Value} {T : u_T} {N : Nat} (he : wc[0]? = some (a, .inr (ci, fs))) (hc : vwCl[ci]? = some (y.cls, T, N)) (hsz : ls.size = nL) (hn : As.length = n) (hroom : (rest.map fun v => v.category).sum ≤ 8) (hst : st = As.reverse ++ .ref a :: rest) (hdg : decode cc pc = .ok (.invokevirtual index, 3))
    (kk : ∀ (H1 : Heap) (locs1 : List Loc), rtOK ret (some (.int r)) → Hp E A w1 H0 H1 locs1 → W p l e R s m args below meth c H1 locs1 cells slots Q (F0 m (pc + 3) ls (.int r :: rest))) : W p l e R s m args below meth c H locs cells slots Q (F0 m pc ls st) := k_WVs hC L hR hcs hM hrc hrs hH had he hc hsz hn hroom hst hdg kk
theorem k_WVsl {r : Int64} (hC : Cx p s m args c cc nL own E) (L : LV own index y b0 maxL ret n) (hR : rm.frames + 1 ≤ R.frames ∧ 8 + (maxL + 11) + rm.locals ≤ R.locals) (hcs : cells + 0 ≤ R.cells ∧ slots + 0 ≤ R.slots) (hM : cW l E y b0 maxL ret rm (.ref a :: As) wc (some (.long r)) w1) (hrc : rm.cells = 0) (hrs : rm.slots = 0) (hH : Hp E A wc H0 H locs) (had : w1.map Prod.fst = wc.map Prod.fst)
    {ci : Nat} {fs : List Value} {T : u_T} {N : Nat} (he : wc[0]? = some (a, .inr (ci, fs))) (hc : vwCl[ci]? = some (y.cls, T, N)) (hsz : ls.size = nL) (hn : As.length = n) (hroom : (rest.map fun v => v.category).sum ≤ 8) (hst : st = As.reverse ++ .ref a :: rest) (hdg : decode cc pc = .ok (.invokevirtual index, 3))
    (kk : ∀ (H1 : Heap) (locs1 : List Loc), rtOK ret (some (.long r)) → Hp E A w1 H0 H1 locs1 → W p l e R s m args below meth c H1 locs1 cells slots Q (F0 m (pc + 3) ls (.long r :: rest))) : W p l e R s m args below meth c H locs cells slots Q (F0 m pc ls st) := k_WVs hC L hR hcs hM hrc hrs hH had he hc hsz hn hroom hst hdg kk
theorem k_WVsd {r : UInt64} (hC : Cx p s m args c cc nL own E) (L : LV own index y b0 maxL ret n) (hR : rm.frames + 1 ≤ R.frames ∧ 8 + (maxL + 11) + rm.locals ≤ R.locals) (hcs : cells + 0 ≤ R.cells ∧ slots + 0 ≤ R.slots) (hM : cW l E y b0 maxL ret rm (.ref a :: As) wc (some (.double r)) w1) (hrc : rm.cells = 0) (hrs : rm.slots = 0) (hH : Hp E A wc H0 H locs) (had : w1.map Prod.fst = wc.map Prod.fst)
    {ci : Nat} {fs : List Value} {T : u_T} {N : Nat} (he : wc[0]? = some (a, .inr (ci, fs))) (hc : vwCl[ci]? = some (y.cls, T, N)) (hsz : ls.size = nL) (hn : As.length = n) (hroom : (rest.map fun v => v.category).sum ≤ 8) (hst : st = As.reverse ++ .ref a :: rest) (hdg : decode cc pc = .ok (.invokevirtual index, 3))
    (kk : ∀ (H1 : Heap) (locs1 : List Loc), rtOK ret (some (.double r)) → Hp E A w1 H0 H1 locs1 → W p l e R s m args below meth c H1 locs1 cells slots Q (F0 m (pc + 3) ls (.double r :: rest))) : W p l e R s m args below meth c H locs cells slots Q (F0 m pc ls st) := k_WVs hC L hR hcs hM hrc hrs hH had he hc hsz hn hroom hst hdg kk
theorem k_WVsf {r : UInt32} (hC : Cx p s m args c cc nL own E) (L : LV own index y b0 maxL ret n) (hR : rm.frames + 1 ≤ R.frames ∧ 8 + (maxL + 11) + rm.locals ≤ R.locals) (hcs : cells + 0 ≤ R.cells ∧ slots + 0 ≤ R.slots) (hM : cW l E y b0 maxL ret rm (.ref a :: As) wc (some (.float r)) w1) (hrc : rm.cells = 0) (hrs : rm.slots = 0) (hH : Hp E A wc H0 H locs) (had : w1.map Prod.fst = wc.map Prod.fst)
    {ci : Nat} {fs : List Value} {T : u_T} {N : Nat} (he : wc[0]? = some (a, .inr (ci, fs))) (hc : vwCl[ci]? = some (y.cls, T, N)) (hsz : ls.size = nL) (hn : As.length = n) (hroom : (rest.map fun v => v.category).sum ≤ 8) (hst : st = As.reverse ++ .ref a :: rest) (hdg : decode cc pc = .ok (.invokevirtual index, 3))
    (kk : ∀ (H1 : Heap) (locs1 : List Loc), rtOK ret (some (.float r)) → Hp E A w1 H0 H1 locs1 → W p l e R s m args below meth c H1 locs1 cells slots Q (F0 m (pc + 3) ls (.float r :: rest))) : W p l e R s m args below meth c H locs cells slots Q (F0 m pc ls st) := k_WVs hC L hR hcs hM hrc hrs hH had he hc hsz hn hroom hst hdg kk
theorem k_WVsv (hC : Cx p s m args c cc nL own E) (L : LV own index y b0 maxL ret n) (hR : rm.frames + 1 ≤ R.frames ∧ 8 + (maxL + 11) + rm.locals ≤ R.locals) (hcs : cells + 0 ≤ R.cells ∧ slots + 0 ≤ R.slots) (hM : cW l E y b0 maxL ret rm (.ref a :: As) wc none w1) (hrc : rm.cells = 0) (hrs : rm.slots = 0) (hH : Hp E A wc H0 H locs) (had : w1.map Prod.fst = wc.map Prod.fst)
    {ci : Nat} {fs : List Value} {T : u_T} {N : Nat} (he : wc[0]? = some (a, .inr (ci, fs))) (hc : vwCl[ci]? = some (y.cls, T, N)) (hsz : ls.size = nL) (hn : As.length = n) (hroom : (rest.map fun v => v.category).sum ≤ 8) (hst : st = As.reverse ++ .ref a :: rest) (hdg : decode cc pc = .ok (.invokevirtual index, 3))
    (kk : ∀ (H1 : Heap) (locs1 : List Loc), rtOK ret none → Hp E A w1 H0 H1 locs1 → W p l e R s m args below meth c H1 locs1 cells slots Q (F0 m (pc + 3) ls rest)) : W p l e R s m args below meth c H locs cells slots Q (F0 m pc ls st) := k_WVs hC L hR hcs hM hrc hrs hH had he hc hsz hn hroom hst hdg kk
theorem k_WVpi {r : Int32} (hC : Cx p s m args c cc nL own E) (L : LV own index y b0 maxL ret n) (hR : rm.frames + 1 ≤ R.frames ∧ 8 + (maxL + 11) + rm.locals ≤ R.locals) (hcs : cells + 0 ≤ R.cells ∧ slots + 0 ≤ R.slots) (hM : cW l E y b0 maxL ret rm (.ref a :: As) wc (some (.int r)) w1) (hrc : rm.cells = 0) (hrs : rm.slots = 0) (hH0 : Hp E A W0 H0 H locs) {Y : va_W} (hp0 : W0.Perm (wc ++ Y)) (hp1 : (w1 ++ Y).Perm W1) (had : w1.map Prod.fst = wc.map Prod.fst)
    {ci : Nat} {fs : List Value} {T : u_T} {N : Nat} (he : wc[0]? = some (a, .inr (ci, fs))) (hc : vwCl[ci]? = some (y.cls, T, N)) (hsz : ls.size = nL) (hn : As.length = n) (hroom : (rest.map fun v => v.category).sum ≤ 8) (hst : st = As.reverse ++ .ref a :: rest) (hdg : decode cc pc = .ok (.invokevirtual index, 3))
    (kk : ∀ (H1 : Heap) (locs1 : List Loc), rtOK ret (some (.int r)) → Hp E A W1 H0 H1 locs1 → W p l e R s m args below meth c H1 locs1 cells slots Q (F0 m (pc + 3) ls (.int r :: rest))) : W p l e R s m args below meth c H locs cells slots Q (F0 m pc ls st) := k_WVp hC L hR hcs hM hrc hrs hH0 hp0 hp1 had he hc hsz hn hroom hst hdg kk
theorem k_WVpl {r : Int64} (hC : Cx p s m args c cc nL own E) (L : LV own index y b0 maxL ret n) (hR : rm.frames + 1 ≤ R.frames ∧ 8 + (maxL + 11) + rm.locals ≤ R.locals) (hcs : cells + 0 ≤ R.cells ∧ slots + 0 ≤ R.slots) (hM : cW l E y b0 maxL ret rm (.ref a :: As) wc (some (.long r)) w1) (hrc : rm.cells = 0) (hrs : rm.slots = 0) (hH0 : Hp E A W0 H0 H locs) {Y : va_W} (hp0 : W0.Perm (wc ++ Y)) (hp1 : (w1 ++ Y).Perm W1) (had : w1.map Prod.fst = wc.map Prod.fst)
    {ci : Nat} {fs : List Value} {T : u_T} {N : Nat} (he : wc[0]? = some (a, .inr (ci, fs))) (hc : vwCl[ci]? = some (y.cls, T, N)) (hsz : ls.size = nL) (hn : As.length = n) (hroom : (rest.map fun v => v.category).sum ≤ 8) (hst : st = As.reverse ++ .ref a :: rest) (hdg : decode cc pc = .ok (.invokevirtual index, 3))
    (kk : ∀ (H1 : Heap) (locs1 : List Loc), rtOK ret (some (.long r)) → Hp E A W1 H0 H1 locs1 → W p l e R s m args below meth c H1 locs1 cells slots Q (F0 m (pc + 3) ls (.long r :: rest))) : W p l e R s m args below meth c H locs cells slots Q (F0 m pc ls st) := k_WVp hC L hR hcs hM hrc hrs hH0 hp0 hp1 had he hc hsz hn hroom hst hdg kk
theorem k_WVpd {r : UInt64} (hC : Cx p s m args c cc nL own E) (L : LV own index y b0 maxL ret n) (hR : rm.frames + 1 ≤ R.frames ∧ 8 + (maxL + 11) + rm.locals ≤ R.locals) (hcs : cells + 0 ≤ R.cells ∧ slots + 0 ≤ R.slots) (hM : cW l E y b0 maxL ret rm (.ref a :: As) wc (some (.double r)) w1) (hrc : rm.cells = 0) (hrs : rm.slots = 0) (hH0 : Hp E A W0 H0 H locs) {Y : va_W} (hp0 : W0.Perm (wc ++ Y)) (hp1 : (w1 ++ Y).Perm W1) (had : w1.map Prod.fst = wc.map Prod.fst)
    {ci : Nat} {fs : List Value} {T : u_T} {N : Nat} (he : wc[0]? = some (a, .inr (ci, fs))) (hc : vwCl[ci]? = some (y.cls, T, N)) (hsz : ls.size = nL) (hn : As.length = n) (hroom : (rest.map fun v => v.category).sum ≤ 8) (hst : st = As.reverse ++ .ref a :: rest) (hdg : decode cc pc = .ok (.invokevirtual index, 3))
    (kk : ∀ (H1 : Heap) (locs1 : List Loc), rtOK ret (some (.double r)) → Hp E A W1 H0 H1 locs1 → W p l e R s m args below meth c H1 locs1 cells slots Q (F0 m (pc + 3) ls (.double r :: rest))) : W p l e R s m args below meth c H locs cells slots Q (F0 m pc ls st) := k_WVp hC L hR hcs hM hrc hrs hH0 hp0 hp1 had he hc hsz hn hroom hst hdg kk
theorem k_WVpf {r : UInt32} (hC : Cx p s m args c cc nL own E) (L : LV own index y b0 maxL ret n) (hR : rm.frames + 1 ≤ R.frames ∧ 8 + (maxL + 11) + rm.locals ≤ R.locals) (hcs : cells + 0 ≤ R.cells ∧ slots + 0 ≤ R.slots) (hM : cW l E y b0 maxL ret rm (.ref a :: As) wc (some (.float r)) w1) (hrc : rm.cells = 0) (hrs : rm.slots = 0) (hH0 : Hp E A W0 H0 H locs) {Y : va_W} (hp0 : W0.Perm (wc ++ Y)) (hp1 : (w1 ++ Y).Perm W1) (had : w1.map Prod.fst = wc.map Prod.fst)
    {ci : Nat} {fs : List Value} {T : u_T} {N : Nat} (he : wc[0]? = some (a, .inr (ci, fs))) (hc : vwCl[ci]? = some (y.cls, T, N)) (hsz : ls.size = nL) (hn : As.length = n) (hroom : (rest.map fun v => v.category).sum ≤ 8) (hst : st = As.reverse ++ .ref a :: rest) (hdg : decode cc pc = .ok (.invokevirtual index, 3))
    (kk : ∀ (H1 : Heap) (locs1 : List Loc), rtOK ret (some (.float r)) → Hp E A W1 H0 H1 locs1 → W p l e R s m args below meth c H1 locs1 cells slots Q (F0 m (pc + 3) ls (.float r :: rest))) : W p l e R s m args below meth c H locs cells slots Q (F0 m pc ls st) := k_WVp hC L hR hcs hM hrc hrs hH0 hp0 hp1 had he hc hsz hn hroom hst hdg kk
theorem k_WVpv (hC : Cx p s m args c cc nL own E) (L : LV own index y b0 maxL ret n) (hR : rm.frames + 1 ≤ R.frames ∧ 8 + (maxL + 11) + rm.locals ≤ R.locals) (hcs : cells + 0 ≤ R.cells ∧ slots + 0 ≤ R.slots) (hM : cW l E y b0 maxL ret rm (.ref a :: As) wc none w1) (hrc : rm.cells = 0) (hrs : rm.slots = 0) (hH0 : Hp E A W0 H0 H locs) {Y : va_W} (hp0 : W0.Perm (wc ++ Y)) (hp1 : (w1 ++ Y).Perm W1) (had : w1.map Prod.fst = wc.map Prod.fst)
    {ci : Nat} {fs : List Value} {T : u_T} {N : Nat} (he : wc[0]? = some (a, .inr (ci, fs))) (hc : vwCl[ci]? = some (y.cls, T, N)) (hsz : ls.size = nL) (hn : As.length = n) (hroom : (rest.map fun v => v.category).sum ≤ 8) (hst : st = As.reverse ++ .ref a :: rest) (hdg : decode cc pc = .ok (.invokevirtual index, 3))
    (kk : ∀ (H1 : Heap) (locs1 : List Loc), rtOK ret none → Hp E A W1 H0 H1 locs1 → W p l e R s m args below meth c H1 locs1 cells slots Q (F0 m (pc + 3) ls rest)) : W p l e R s m args below meth c H locs cells slots Q (F0 m pc ls st) := k_WVp hC L hR hcs hM hrc hrs hH0 hp0 hp1 had he hc hsz hn hroom hst hdg kk
theorem k_WSsi {r : Int32} (hC : Cx p s m args c cc nL own E) (L : LSt own index y b0 maxL ret n) (hR : rm.frames + 1 ≤ R.frames ∧ 8 + (maxL + 11) + rm.locals ≤ R.locals) (hcs : cells + 0 ≤ R.cells ∧ slots + 0 ≤ R.slots) (hM : cW l E y b0 maxL ret rm As wc (some (.int r)) w1) (hrc : rm.cells = 0) (hrs : rm.slots = 0) (hH : Hp E A wc H0 H locs) (had : w1.map Prod.fst = wc.map Prod.fst)
    (hsz : ls.size = nL) (hn : As.length = n) (hroom : (rest.map fun v => v.category).sum ≤ 8) (hst : st = As.reverse ++ rest) (hdg : decode cc pc = .ok (.invokestatic index, 3))
    (kk : ∀ (H1 : Heap) (locs1 : List Loc), rtOK ret (some (.int r)) → Hp E A w1 H0 H1 locs1 → W p l e R s m args below meth c H1 locs1 cells slots Q (F0 m (pc + 3) ls (.int r :: rest))) : W p l e R s m args below meth c H locs cells slots Q (F0 m pc ls st) := k_WSs hC L hR hcs hM hrc hrs hH had hsz hn hroom hst hdg kk
theorem k_WSsl {r : Int64} (hC : Cx p s m args c cc nL own E) (L : LSt own index y b0 maxL ret n) (hR : rm.frames + 1 ≤ R.frames ∧ 8 + (maxL + 11) + rm.locals ≤ R.locals) (hcs : cells + 0 ≤ R.cells ∧ slots + 0 ≤ R.slots) (hM : cW l E y b0 maxL ret rm As wc (some (.long r)) w1) (hrc : rm.cells = 0) (hrs : rm.slots = 0) (hH : Hp E A wc H0 H locs) (had : w1.map Prod.fst = wc.map Prod.fst)
    (hsz : ls.size = nL) (hn : As.length = n) (hroom : (rest.map fun v => v.category).sum ≤ 8) (hst : st = As.reverse ++ rest) (hdg : decode cc pc = .ok (.invokestatic index, 3))
    (kk : ∀ (H1 : Heap) (locs1 : List Loc), rtOK ret (some (.long r)) → Hp E A w1 H0 H1 locs1 → W p l e R s m args below meth c H1 locs1 cells slots Q (F0 m (pc + 3) ls (.long r :: rest))) : W p l e R s m args below meth c H locs cells slots Q (F0 m pc ls st) := k_WSs hC L hR hcs hM hrc hrs hH had hsz hn hroom hst hdg kk
theorem k_WSsd {r : UInt64} (hC : Cx p s m args c cc nL own E) (L : LSt own index y b0 maxL ret n) (hR : rm.frames + 1 ≤ R.frames ∧ 8 + (maxL + 11) + rm.locals ≤ R.locals) (hcs : cells + 0 ≤ R.cells ∧ slots + 0 ≤ R.slots) (hM : cW l E y b0 maxL ret rm As wc (some (.double r)) w1) (hrc : rm.cells = 0) (hrs : rm.slots = 0) (hH : Hp E A wc H0 H locs) (had : w1.map Prod.fst = wc.map Prod.fst)
    (hsz : ls.size = nL) (hn : As.length = n) (hroom : (rest.map fun v => v.category).sum ≤ 8) (hst : st = As.reverse ++ rest) (hdg : decode cc pc = .ok (.invokestatic index, 3))
    (kk : ∀ (H1 : Heap) (locs1 : List Loc), rtOK ret (some (.double r)) → Hp E A w1 H0 H1 locs1 → W p l e R s m args below meth c H1 locs1 cells slots Q (F0 m (pc + 3) ls (.double r :: rest))) : W p l e R s m args below meth c H locs cells slots Q (F0 m pc ls st) := k_WSs hC L hR hcs hM hrc hrs hH had hsz hn hroom hst hdg kk
theorem k_WSsf {r : UInt32} (hC : Cx p s m args c cc nL own E) (L : LSt own index y b0 maxL ret n) (hR : rm.frames + 1 ≤ R.frames ∧ 8 + (maxL + 11) + rm.locals ≤ R.locals) (hcs : cells + 0 ≤ R.cells ∧ slots + 0 ≤ R.slots) (hM : cW l E y b0 maxL ret rm As wc (some (.float r)) w1) (hrc : rm.cells = 0) (hrs : rm.slots = 0) (hH : Hp E A wc H0 H locs) (had : w1.map Prod.fst = wc.map Prod.fst)
    (hsz : ls.size = nL) (hn : As.length = n) (hroom : (rest.map fun v => v.category).sum ≤ 8) (hst : st = As.reverse ++ rest) (hdg : decode cc pc = .ok (.invokestatic index, 3))
    (kk : ∀ (H1 : Heap) (locs1 : List Loc), rtOK ret (some (.float r)) → Hp E A w1 H0 H1 locs1 → W p l e R s m args below meth c H1 locs1 cells slots Q (F0 m (pc + 3) ls (.float r :: rest))) : W p l e R s m args below meth c H locs cells slots Q (F0 m pc ls st) := k_WSs hC L hR hcs hM hrc hrs hH had hsz hn hroom hst hdg kk
theorem k_WSsv (hC : Cx p s m args c cc nL own E) (L : LSt own index y b0 maxL ret n) (hR : rm.frames + 1 ≤ R.frames ∧ 8 + (maxL + 11) + rm.locals ≤ R.locals) (hcs : cells + 0 ≤ R.cells ∧ slots + 0 ≤ R.slots) (hM : cW l E y b0 maxL ret rm As wc none w1) (hrc : rm.cells = 0) (hrs : rm.slots = 0) (hH : Hp E A wc H0 H locs) (had : w1.map Prod.fst = wc.map Prod.fst)
    (hsz : ls.size = nL) (hn : As.length = n) (hroom : (rest.map fun v => v.category).sum ≤ 8) (hst : st = As.reverse ++ rest) (hdg : decode cc pc = .ok (.invokestatic index, 3))
    (kk : ∀ (H1 : Heap) (locs1 : List Loc), rtOK ret none → Hp E A w1 H0 H1 locs1 → W p l e R s m args below meth c H1 locs1 cells slots Q (F0 m (pc + 3) ls rest)) : W p l e R s m args below meth c H locs cells slots Q (F0 m pc ls st) := k_WSs hC L hR hcs hM hrc hrs hH had hsz hn hroom hst hdg kk

theorem Hp.start (hP : va_P E.1 vwCl wc s.heap) (hD : va_D (fun _ => True) wc) : Hp E (adr wc) wc s.heap s.heap [] :=
  ⟨hP, ⟨hD.1, fun k q hk => ⟨q, List.mem_of_getElem? hk, rfl⟩⟩, va_S.rf⟩
theorem entry_ {av : List Value} (h : args = av.toArray) (hn : (lg_sl av).length ≤ n) : ∃ ls, entryFrame m args n = F0 m 0 ls [] ∧ lv_has ls n (lv_args 0 av) := by
  subst h
  exact ⟨_, lg_entry_eq m av n, lv_entry av hn⟩
/-! ends of readers -/
theorem e_Pi {x r : Int32} (hC : Cx p s m args c cc nL own E) (hr : meth.sig.returnType = some .int) (hlocks : meth.locks = false) (hf : x = r) (hdg : decode cc pc = .ok (.ireturn, 1)) : W p l e R s m args below meth c s.heap [] 0 0 (MQ below (qP (some .int) (some (.int r))) args s 0 0 (fun _ => False)) (F0 m pc ls [.int x]) := by
  subst hf
  exact W.iret hC.1 hC.2.1 hr (fun t ht hW => ⟨rfl, rt_i, ht⟩) (fun q h => absurd h List.not_mem_nil) hdg hlocks
theorem e_Pz {x r : Int32} (hC : Cx p s m args c cc nL own E) (hr : meth.sig.returnType = some .boolean) (hlocks : meth.locks = false) (hf : x = r) (hn : narrow .boolean (.int x) = .int x) (hdg : decode cc pc = .ok (.ireturn, 1)) : W p l e R s m args below meth c s.heap [] 0 0 (MQ below (qP (some .boolean) (some (.int r))) args s 0 0 (fun _ => False)) (F0 m pc ls [.int x]) := by
  subst hf
  exact W.zret hC.1 hC.2.1 hr hn (fun t ht hW => ⟨rfl, rt_z hn, ht⟩) (fun q h => absurd h List.not_mem_nil) hdg hlocks
theorem e_Pc {x r : Int32} (hC : Cx p s m args c cc nL own E) (hr : meth.sig.returnType = some .char) (hlocks : meth.locks = false) (hf : x = r) (hn : narrow .char (.int x) = .int x) (hdg : decode cc pc = .ok (.ireturn, 1)) : W p l e R s m args below meth c s.heap [] 0 0 (MQ below (qP (some .char) (some (.int r))) args s 0 0 (fun _ => False)) (F0 m pc ls [.int x]) := by
  subst hf
  exact W.zret hC.1 hC.2.1 hr hn (fun t ht hW => ⟨rfl, rt_c hn, ht⟩) (fun q h => absurd h List.not_mem_nil) hdg hlocks
theorem e_Pl {x r : Int64} (hC : Cx p s m args c cc nL own E) (hr : meth.sig.returnType = some .long) (hlocks : meth.locks = false) (hf : x = r) (hdg : decode cc pc = .ok (.lreturn, 1)) : W p l e R s m args below meth c s.heap [] 0 0 (MQ below (qP (some .long) (some (.long r))) args s 0 0 (fun _ => False)) (F0 m pc ls [.long x]) := by
  subst hf
  exact W.lret hC.1 hC.2.1 hr (fun t ht hW => ⟨rfl, rt_l, ht⟩) (fun q h => absurd h List.not_mem_nil) hdg hlocks
theorem e_Pr {v : Value} {C : String} {r : Value} (hC : Cx p s m args c cc nL own E) (hr : meth.sig.returnType = some (.object C)) (hlocks : meth.locks = false) (hv : v = .null ∨ ∃ a, v = .ref a) (hf : v = r) (hdg : decode cc pc = .ok (.areturn, 1)) : W p l e R s m args below meth c s.heap [] 0 0 (MQ below (qP (some (.object C)) (some r)) args s 0 0 (fun _ => False)) (F0 m pc ls [v]) := by
  subst hf
  exact W.aret hC.1 hC.2.1 hr (Or.inl ⟨_, rfl⟩) hv (fun t ht hW => ⟨rfl, (fun ty w h1 h2 => by cases h1; cases h2; rfl), ht⟩) (fun q h => absurd h List.not_mem_nil) hdg hlocks
/-! ends of writers -/
theorem Hp.post {ret : Option FieldType} {t : State} (hz : rtOK ret v) (hH : Hp E (adr wc) W1 s.heap H locs) (hw : W1 = w1) (ht : t.heap = H) : qW E ret v wc w1 A9 s (.returned v) t := by
  subst hw
  exact ⟨rfl, hz, by rw [ht]; exact hH.1, by rw [ht]; exact hH.2.2.1, fun q h1 h2 => by rw [ht]; exact hH.2.2.2.1 q h1 h2⟩
theorem e_Wi {x r : Int32} (hC : Cx p s m args c cc nL own E) (hH : Hp E (adr wc) W1 s.heap H locs) (hr : meth.sig.returnType = some .int) (hlocks : meth.locks = false) (hf : x = r) (hw : W1 = w1) (hdg : decode cc pc = .ok (.ireturn, 1)) : W p l e R s m args below meth c H locs 0 0 (MQ below (qW E (some .int) (some (.int r)) wc w1) args s 0 0 (adr wc)) (F0 m pc ls [.int x]) := by
  subst hf
  exact W.iret hC.1 hC.2.1 hr (fun t ht hW => hH.post rt_i hw ht) hH.2.2.2.2 hdg hlocks
theorem e_Wz {x r : Int32} (hC : Cx p s m args c cc nL own E) (hH : Hp E (adr wc) W1 s.heap H locs) (hr : meth.sig.returnType = some .boolean) (hlocks : meth.locks = false) (hf : x = r) (hw : W1 = w1) (hn : narrow .boolean (.int x) = .int x) (hdg : decode cc pc = .ok (.ireturn, 1)) : W p l e R s m args below meth c H locs 0 0 (MQ below (qW E (some .boolean) (some (.int r)) wc w1) args s 0 0 (adr wc)) (F0 m pc ls [.int x]) := by
  subst hf
  exact W.zret hC.1 hC.2.1 hr hn (fun t ht hW => hH.post (rt_z hn) hw ht) hH.2.2.2.2 hdg hlocks
theorem e_Wl {x r : Int64} (hC : Cx p s m args c cc nL own E) (hH : Hp E (adr wc) W1 s.heap H locs) (hr : meth.sig.returnType = some .long) (hlocks : meth.locks = false) (hf : x = r) (hw : W1 = w1) (hdg : decode cc pc = .ok (.lreturn, 1)) : W p l e R s m args below meth c H locs 0 0 (MQ below (qW E (some .long) (some (.long r)) wc w1) args s 0 0 (adr wc)) (F0 m pc ls [.long x]) := by
  subst hf
  exact W.lret hC.1 hC.2.1 hr (fun t ht hW => hH.post rt_l hw ht) hH.2.2.2.2 hdg hlocks
theorem e_Wv (hC : Cx p s m args c cc nL own E) (hH : Hp E (adr wc) W1 s.heap H locs) (hr : meth.sig.returnType = none) (hlocks : meth.locks = false) (hw : W1 = w1) (hdg : decode cc pc = .ok (.return_, 1)) : W p l e R s m args below meth c H locs 0 0 (MQ below (qW E none none wc w1) args s 0 0 (adr wc)) (F0 m pc ls []) :=
  W.vret hC.1 hC.2.1 hr (fun t ht hW => hH.post rt_v hw ht) hH.2.2.2.2 hdg hlocks
theorem e_Pd {x r : UInt64} (hC : Cx p s m args c cc nL own E) (hr : meth.sig.returnType = some .double) (hlocks : meth.locks = false) (hf : x = r) (hdg : decode cc pc = .ok (.dreturn, 1)) : W p l e R s m args below meth c s.heap [] 0 0 (MQ below (qP (some .double) (some (.double r))) args s 0 0 (fun _ => False)) (F0 m pc ls [.double x]) := by
  subst hf
  exact W.dret hC.1 hC.2.1 hr (fun t ht hW => ⟨rfl, (fun ty w h1 h2 => by cases h1; cases h2; rfl), ht⟩) (fun q h => absurd h List.not_mem_nil) hdg hlocks
theorem e_Wd {x r : UInt64} (hC : Cx p s m args c cc nL own E) (hH : Hp E (adr wc) W1 s.heap H locs) (hr : meth.sig.returnType = some .double) (hlocks : meth.locks = false) (hf : x = r) (hw : W1 = w1) (hdg : decode cc pc = .ok (.dreturn, 1)) : W p l e R s m args below meth c H locs 0 0 (MQ below (qW E (some .double) (some (.double r)) wc w1) args s 0 0 (adr wc)) (F0 m pc ls [.double x]) := by
  subst hf
  exact W.dret hC.1 hC.2.1 hr (fun t ht hW => hH.post (fun ty w h1 h2 => by cases h1; cases h2; rfl) hw ht) hH.2.2.2.2 hdg hlocks
theorem e_Pf {x r : UInt32} (hC : Cx p s m args c cc nL own E) (hr : meth.sig.returnType = some .float) (hlocks : meth.locks = false) (hf : x = r) (hdg : decode cc pc = .ok (.freturn, 1)) : W p l e R s m args below meth c s.heap [] 0 0 (MQ below (qP (some .float) (some (.float r))) args s 0 0 (fun _ => False)) (F0 m pc ls [.float x]) := by
  subst hf
  exact W.fret hC.1 hC.2.1 hr (fun t ht hW => ⟨rfl, (fun ty w h1 h2 => by cases h1; cases h2; rfl), ht⟩) (fun q h => absurd h List.not_mem_nil) hdg hlocks
theorem e_Wf {x r : UInt32} (hC : Cx p s m args c cc nL own E) (hH : Hp E (adr wc) W1 s.heap H locs) (hr : meth.sig.returnType = some .float) (hlocks : meth.locks = false) (hf : x = r) (hw : W1 = w1) (hdg : decode cc pc = .ok (.freturn, 1)) : W p l e R s m args below meth c H locs 0 0 (MQ below (qW E (some .float) (some (.float r)) wc w1) args s 0 0 (adr wc)) (F0 m pc ls [.float x]) := by
  subst hf
  exact W.fret hC.1 hC.2.1 hr (fun t ht hW => hH.post (fun ty w h1 h2 => by cases h1; cases h2; rfl) hw ht) hH.2.2.2.2 hdg hlocks
/-! places of rows -/
theorem a_ild (hC : Cx p s m args c cc nL own E) (hP : va_P E.1 vwCl W0 H) (q0 : Nat) {k : Nat} {f : Nat → Int32} (ha : W0[q0]? = some (a, .inl (E.2 0, k, .inl f))) {i v : Int32} (hin : vp_in i k) (hv : f i.toNatClampNeg = v) (hdg : decode cc pc = .ok (.iaload, 1))
    (kk : W p l e R s m args below meth c H locs cells slots Q (F0 m (pc + 1) ls (.int v :: rest))) : W p l e R s m args below meth c H locs cells slots Q (F0 m pc ls (.int i :: .ref a :: rest)) := by
  subst hv
  exact va_iald hC.1 hC.2.1 hC.2.2.2.2.2.1 hP q0 0 ha rfl hin hdg kk
theorem a_lld (hC : Cx p s m args c cc nL own E) (hP : va_P E.1 vwCl W0 H) (q0 : Nat) {k : Nat} {f : Nat → Int64} (ha : W0[q0]? = some (a, .inl (E.2 1, k, .inr (.inl f)))) {i : Int32} {v : Int64} (hin : vp_in i k) (hv : f i.toNatClampNeg = v) (hdg : decode cc pc = .ok (.laload, 1))
    (kk : W p l e R s m args below meth c H locs cells slots Q (F0 m (pc + 1) ls (.long v :: rest))) : W p l e R s m args below meth c H locs cells slots Q (F0 m pc ls (.int i :: .ref a :: rest)) := by
  subst hv
  exact va_lald hC.1 hC.2.1 hC.2.2.2.2.2.1 hP q0 1 ha rfl hin hdg kk
theorem a_qld (hC : Cx p s m args c cc nL own E) (hP : va_P E.1 vwCl W0 H) (q0 : Nat) {k : Nat} {f : Nat → Option Nat} (ha : W0[q0]? = some (a, .inl (E.2 3, k, .inr (.inr (.inr (.inr f)))))) {i : Int32} (hin : vp_in i k) (hdg : decode cc pc = .ok (.aaload, 1))
    (kk : W p l e R s m args below meth c H locs cells slots Q (F0 m (pc + 1) ls (va_rf (f i.toNatClampNeg) :: rest))) : W p l e R s m args below meth c H locs cells slots Q (F0 m pc ls (.int i :: .ref a :: rest)) :=
  va_aldq hC.1 hC.2.1 hC.2.2.2.2.2.1 hP q0 3 ha rfl hin hdg kk
theorem a_gld (hC : Cx p s m args c cc nL own E) (hP : va_P E.1 vwCl W0 H) (q0 : Nat) {k : Nat} {f : Nat → Option Nat} (ha : W0[q0]? = some (a, .inl (E.2 4, k, .inr (.inr (.inr (.inr f)))))) {i : Int32} (hin : vp_in i k) (hdg : decode cc pc = .ok (.aaload, 1))
    (kk : W p l e R s m args below meth c H locs cells slots Q (F0 m (pc + 1) ls (va_rf (f i.toNatClampNeg) :: rest))) : W p l e R s m args below meth c H locs cells slots Q (F0 m pc ls (.int i :: .ref a :: rest)) := by
  have hlt : i.toNatClampNeg < k := Nat.not_le.mp fun q => hin (Or.inr q)
  exact W.aald (v := va_rf (f i.toNatClampNeg)) (ty := .array .int) hC.1 hC.2.1 (hP q0 _ ha) ((hC.2.2.2.2.2.1.2 4 _ rfl).1 k (fun j => va_rf (f j))) rfl (fun q => by cases q) (by show ¬ (i < 0 ∨ (arrV _ _ _).slots.size ≤ _); rw [arrV_size]; exact hin) (by show (arrV _ _ _).slots[_]? = _; rw [arrV_read _ _ hlt]) rfl rfl hdg kk
theorem a_ist (hC : Cx p s m args c cc nL own E) (hH : Hp E A W0 H0 H locs) (q0 : Nat) {k : Nat} {f g : Nat → Int32} (ha : W0[q0]? = some (a, .inl (E.2 0, k, .inl f))) {i x : Int32} (hin : vp_in i k) (hg : (fun j => if j = i.toNatClampNeg then x else f j) = g) (hW : W0.set q0 (a, .inl (E.2 0, k, .inl g)) = W1) (hdg : decode cc pc = .ok (.iastore, 1))
    (kk : ∀ (H1 : Heap) (locs1 : List Loc), Hp E A W1 H0 H1 locs1 → W p l e R s m args below meth c H1 locs1 cells slots Q (F0 m (pc + 1) ls rest)) : W p l e R s m args below meth c H locs cells slots Q (F0 m pc ls (.int x :: .int i :: .ref a :: rest)) := by
  subst hg
  subst hW
  exact va_iast hC.1 hC.2.1 hC.2.2.2.2.2.1 hH.1 hH.2.1 hH.2.2 q0 0 ha rfl hin hdg (fun H1 locs1 a1 a2 a3 => kk H1 locs1 ⟨a1, a2, a3⟩)
theorem a_lst (hC : Cx p s m args c cc nL own E) (hH : Hp E A W0 H0 H locs) (q0 : Nat) {k : Nat} {f g : Nat → Int64} (ha : W0[q0]? = some (a, .inl (E.2 1, k, .inr (.inl f)))) {i : Int32} {x : Int64} (hin : vp_in i k) (hg : (fun j => if j = i.toNatClampNeg then x else f j) = g) (hW : W0.set q0 (a, .inl (E.2 1, k, .inr (.inl g))) = W1) (hdg : decode cc pc = .ok (.lastore, 1))
    (kk : ∀ (H1 : Heap) (locs1 : List Loc), Hp E A W1 H0 H1 locs1 → W p l e R s m args below meth c H1 locs1 cells slots Q (F0 m (pc + 1) ls rest)) : W p l e R s m args below meth c H locs cells slots Q (F0 m pc ls (.long x :: .int i :: .ref a :: rest)) := by
  subst hg
  subst hW
  exact va_last hC.1 hC.2.1 hC.2.2.2.2.2.1 hH.1 hH.2.1 hH.2.2 q0 1 ha rfl hin hdg (fun H1 locs1 a1 a2 a3 => kk H1 locs1 ⟨a1, a2, a3⟩)
end GO
/-! what a run of a function of options says -/
theorem ob {α β : Type} {x : Option α} {k : α → Option β} {r : β} (h : x.bind k = some r) : ∃ t, x = some t ∧ k t = some r := by
  cases x with
  | none => cases h
  | some t => exact ⟨t, rfl, h⟩
theorem ite_t {α : Type} {c : Prop} [Decidable c] {a b r : α} (h : (if c then a else b) = r) (hc : c) : a = r := by rw [if_pos hc] at h; exact h
theorem ite_f {α : Type} {c : Prop} [Decidable c] {a b r : α} (h : (if c then a else b) = r) (hc : ¬ c) : b = r := by rw [if_neg hc] at h; exact h
/-- a place of a row, read -/
def ldA {α : Type} (f : Nat → α) (n : Nat) (i : Int32) : Option α := if i < 0 ∨ n ≤ i.toNatClampNeg then none else some (f i.toNatClampNeg)
theorem ldA_ok {α : Type} {f : Nat → α} {n : Nat} {i : Int32} {v : α} (h : ldA f n i = some v) : vp_in i n ∧ f i.toNatClampNeg = v := by
  unfold ldA at h
  by_cases hc : i < 0 ∨ n ≤ i.toNatClampNeg
  · rw [if_pos hc] at h; cases h
  · rw [if_neg hc] at h; exact ⟨hc, Option.some.inj h⟩
/-- written -/
def stA {α : Type} (f : Nat → α) (n : Nat) (i : Int32) (x : α) : Option (Nat → α) := if i < 0 ∨ n ≤ i.toNatClampNeg then none else some (fun j => if j = i.toNatClampNeg then x else f j)
theorem stA_ok {α : Type} {f : Nat → α} {n : Nat} {i : Int32} {x : α} {g : Nat → α} (h : stA f n i x = some g) : vp_in i n ∧ (fun j => if j = i.toNatClampNeg then x else f j) = g := by
  unfold stA at h
  by_cases hc : i < 0 ∨ n ≤ i.toNatClampNeg
  · rw [if_pos hc] at h; cases h
  · rw [if_neg hc] at h; exact ⟨hc, Option.some.inj h⟩
/-- a divisor that isn't 0 -/
def dvI (x y : Int32) : Option Int32 := if y = 0 then none else some (x / y)
def rmI (x y : Int32) : Option Int32 := if y = 0 then none else some (x - x / y * y)
theorem dvI_ok {x y v : Int32} (h : dvI x y = some v) : ¬ y = 0 ∧ x / y = v := by
  unfold dvI at h
  by_cases hc : y = 0
  · rw [if_pos hc] at h; cases h
  · rw [if_neg hc] at h; exact ⟨hc, Option.some.inj h⟩
theorem rmI_ok {x y v : Int32} (h : rmI x y = some v) : ¬ y = 0 ∧ x - x / y * y = v := by
  unfold rmI at h
  by_cases hc : y = 0
  · rw [if_pos hc] at h; cases h
  · rw [if_neg hc] at h; exact ⟨hc, Option.some.inj h⟩
/-- rounds that every loop has -/
def FU : Nat := 4000

theorem all5 {P : Nat → Prop} {k : Nat} (h : k < 5) (h0 : P 0) (h1 : P 1) (h2 : P 2) (h3 : P 3) (h4 : P 4) : P k := by
  rcases (by omega : k = 0 ∨ k = 1 ∨ k = 2 ∨ k = 3 ∨ k = 4) with rfl | rfl | rfl | rfl | rfl <;> assumption
theorem all8 {P : Nat → Prop} {k : Nat} (h : k < 8) (h0 : P 0) (h1 : P 1) (h2 : P 2) (h3 : P 3) (h4 : P 4) (h5 : P 5) (h6 : P 6) (h7 : P 7) : P k := by
  rcases (by omega : k = 0 ∨ k = 1 ∨ k = 2 ∨ k = 3 ∨ k = 4 ∨ k = 5 ∨ k = 6 ∨ k = 7) with rfl | rfl | rfl | rfl | rfl | rfl | rfl | rfl <;> assumption
/-- a quotient that is a number -/
def dvD (x y : UInt64) : Option UInt64 := if FP.ddiv x y &&& 0x7fffffffffffffff ≤ 0x7ff0000000000000 then some (FP.ddiv x y) else none
def dvF (x y : UInt32) : Option UInt32 := if FP.fdiv x y &&& 0x7fffffff ≤ 0x7f800000 then some (FP.fdiv x y) else none
theorem dvD_ok {x y v : UInt64} (h : dvD x y = some v) : vf_n64 (FP.ddiv x y) ∧ FP.ddiv x y = v := by
  unfold dvD at h
  by_cases hc : FP.ddiv x y &&& 0x7fffffffffffffff ≤ 0x7ff0000000000000
  · rw [if_pos hc] at h; exact ⟨hc, Option.some.inj h⟩
  · rw [if_neg hc] at h; cases h
theorem dvF_ok {x y v : UInt32} (h : dvF x y = some v) : vf_n32 (FP.fdiv x y) ∧ FP.fdiv x y = v := by
  unfold dvF at h
  by_cases hc : FP.fdiv x y &&& 0x7fffffff ≤ 0x7f800000
  · rw [if_pos hc] at h; exact ⟨hc, Option.some.inj h⟩
  · rw [if_neg hc] at h; cases h
theorem sum_r {α β γ : Type} {f : α → γ} {g : β → γ} {y : β} {r : γ} (h : Sum.elim f g (Sum.inr y) = r) : g y = r := h
theorem opt_n {α β : Type} {a r : β} {f : α → β} (h : Option.elim none a f = r) : a = r := h
theorem opt_s {α β : Type} {a r : β} {f : α → β} {x : α} (h : Option.elim (some x) a f = r) : f x = r := h
