def tmS (i : Nat) : Term := if i < 7 then .string RX7 (strR.getD i (0, "")).1 else .string RL (270 + 2 * (i - 7))
theorem ar_prim {ty : FieldType} {args : Array Value} {s : State} (h : (Cond.arrayClass ty).before args s = true) : ∃ cA : ClassId, ArrOfT s cA ty ∧ s.vm.findClass ("[" ++ ty.toString) = some cA := by
  obtain ⟨cA, kA, comp, h1, h2, h3⟩ := Cond.arrayClass_spec h
  exact ⟨cA, fun n z => ⟨fun k h => (by cases h), kA, h2, comp, h3⟩, h1⟩
theorem se5_0 : ∀ j, j < 4 → Cond.eq (.elem (.field (tmS 0) "java/lang/String" "value" "[B") (.int (Int32.ofNat j))) (.int ((strB.getD 0 []).getD j 0)) ∈ flatC (Jvm.Cond.and given_1 narrow_1) := by decide +kernel
theorem se5_1 : ∀ j, j < 3 → Cond.eq (.elem (.field (tmS 1) "java/lang/String" "value" "[B") (.int (Int32.ofNat j))) (.int ((strB.getD 1 []).getD j 0)) ∈ flatC (Jvm.Cond.and given_1 narrow_1) := by decide +kernel
theorem se6_1 : ∀ j, j < 1 → Cond.not (Cond.eq (tmS 1) (tmS j)) ∈ flatC (Jvm.Cond.and given_1 narrow_1) ∨ Cond.not (Cond.eq (tmS j) (tmS 1)) ∈ flatC (Jvm.Cond.and given_1 narrow_1) := by decide +kernel
theorem se5_2 : ∀ j, j < 4 → Cond.eq (.elem (.field (tmS 2) "java/lang/String" "value" "[B") (.int (Int32.ofNat j))) (.int ((strB.getD 2 []).getD j 0)) ∈ flatC (Jvm.Cond.and given_1 narrow_1) := by decide +kernel
theorem se6_2 : ∀ j, j < 2 → Cond.not (Cond.eq (tmS 2) (tmS j)) ∈ flatC (Jvm.Cond.and given_1 narrow_1) ∨ Cond.not (Cond.eq (tmS j) (tmS 2)) ∈ flatC (Jvm.Cond.and given_1 narrow_1) := by decide +kernel
theorem se5_3 : ∀ j, j < 5 → Cond.eq (.elem (.field (tmS 3) "java/lang/String" "value" "[B") (.int (Int32.ofNat j))) (.int ((strB.getD 3 []).getD j 0)) ∈ flatC (Jvm.Cond.and given_1 narrow_1) := by decide +kernel
theorem se6_3 : ∀ j, j < 3 → Cond.not (Cond.eq (tmS 3) (tmS j)) ∈ flatC (Jvm.Cond.and given_1 narrow_1) ∨ Cond.not (Cond.eq (tmS j) (tmS 3)) ∈ flatC (Jvm.Cond.and given_1 narrow_1) := by decide +kernel
theorem se5_4 : ∀ j, j < 5 → Cond.eq (.elem (.field (tmS 4) "java/lang/String" "value" "[B") (.int (Int32.ofNat j))) (.int ((strB.getD 4 []).getD j 0)) ∈ flatC (Jvm.Cond.and given_1 narrow_1) := by decide +kernel
theorem se6_4 : ∀ j, j < 4 → Cond.not (Cond.eq (tmS 4) (tmS j)) ∈ flatC (Jvm.Cond.and given_1 narrow_1) ∨ Cond.not (Cond.eq (tmS j) (tmS 4)) ∈ flatC (Jvm.Cond.and given_1 narrow_1) := by decide +kernel
theorem se5_5 : ∀ j, j < 6 → Cond.eq (.elem (.field (tmS 5) "java/lang/String" "value" "[B") (.int (Int32.ofNat j))) (.int ((strB.getD 5 []).getD j 0)) ∈ flatC (Jvm.Cond.and given_1 narrow_1) := by decide +kernel
theorem se6_5 : ∀ j, j < 5 → Cond.not (Cond.eq (tmS 5) (tmS j)) ∈ flatC (Jvm.Cond.and given_1 narrow_1) ∨ Cond.not (Cond.eq (tmS j) (tmS 5)) ∈ flatC (Jvm.Cond.and given_1 narrow_1) := by decide +kernel
theorem se5_6 : ∀ j, j < 0 → Cond.eq (.elem (.field (tmS 6) "java/lang/String" "value" "[B") (.int (Int32.ofNat j))) (.int ((strB.getD 6 []).getD j 0)) ∈ flatC (Jvm.Cond.and given_1 narrow_1) := by decide +kernel
theorem se6_6 : ∀ j, j < 6 → Cond.not (Cond.eq (tmS 6) (tmS j)) ∈ flatC (Jvm.Cond.and given_1 narrow_1) ∨ Cond.not (Cond.eq (tmS j) (tmS 6)) ∈ flatC (Jvm.Cond.and given_1 narrow_1) := by decide +kernel
theorem se5_7 : ∀ j, j < 19 → Cond.eq (.elem (.field (tmS 7) "java/lang/String" "value" "[B") (.int (Int32.ofNat j))) (.int ((strB.getD 7 []).getD j 0)) ∈ flatC (Jvm.Cond.and given_1 narrow_1) := by decide +kernel
theorem se6_7 : ∀ j, j < 7 → Cond.not (Cond.eq (tmS 7) (tmS j)) ∈ flatC (Jvm.Cond.and given_1 narrow_1) ∨ Cond.not (Cond.eq (tmS j) (tmS 7)) ∈ flatC (Jvm.Cond.and given_1 narrow_1) := by decide +kernel
theorem se5_8 : ∀ j, j < 12 → Cond.eq (.elem (.field (tmS 8) "java/lang/String" "value" "[B") (.int (Int32.ofNat j))) (.int ((strB.getD 8 []).getD j 0)) ∈ flatC (Jvm.Cond.and given_1 narrow_1) := by decide +kernel
theorem se6_8 : ∀ j, j < 8 → Cond.not (Cond.eq (tmS 8) (tmS j)) ∈ flatC (Jvm.Cond.and given_1 narrow_1) ∨ Cond.not (Cond.eq (tmS j) (tmS 8)) ∈ flatC (Jvm.Cond.and given_1 narrow_1) := by decide +kernel
theorem se5_9 : ∀ j, j < 13 → Cond.eq (.elem (.field (tmS 9) "java/lang/String" "value" "[B") (.int (Int32.ofNat j))) (.int ((strB.getD 9 []).getD j 0)) ∈ flatC (Jvm.Cond.and given_1 narrow_1) := by decide +kernel
theorem se6_9 : ∀ j, j < 9 → Cond.not (Cond.eq (tmS 9) (tmS j)) ∈ flatC (Jvm.Cond.and given_1 narrow_1) ∨ Cond.not (Cond.eq (tmS j) (tmS 9)) ∈ flatC (Jvm.Cond.and given_1 narrow_1) := by decide +kernel
theorem se5_10 : ∀ j, j < 13 → Cond.eq (.elem (.field (tmS 10) "java/lang/String" "value" "[B") (.int (Int32.ofNat j))) (.int ((strB.getD 10 []).getD j 0)) ∈ flatC (Jvm.Cond.and given_1 narrow_1) := by decide +kernel
theorem se6_10 : ∀ j, j < 10 → Cond.not (Cond.eq (tmS 10) (tmS j)) ∈ flatC (Jvm.Cond.and given_1 narrow_1) ∨ Cond.not (Cond.eq (tmS j) (tmS 10)) ∈ flatC (Jvm.Cond.and given_1 narrow_1) := by decide +kernel
theorem se5_11 : ∀ j, j < 7 → Cond.eq (.elem (.field (tmS 11) "java/lang/String" "value" "[B") (.int (Int32.ofNat j))) (.int ((strB.getD 11 []).getD j 0)) ∈ flatC (Jvm.Cond.and given_1 narrow_1) := by decide +kernel
theorem se6_11 : ∀ j, j < 11 → Cond.not (Cond.eq (tmS 11) (tmS j)) ∈ flatC (Jvm.Cond.and given_1 narrow_1) ∨ Cond.not (Cond.eq (tmS j) (tmS 11)) ∈ flatC (Jvm.Cond.and given_1 narrow_1) := by decide +kernel
theorem se5_12 : ∀ j, j < 21 → Cond.eq (.elem (.field (tmS 12) "java/lang/String" "value" "[B") (.int (Int32.ofNat j))) (.int ((strB.getD 12 []).getD j 0)) ∈ flatC (Jvm.Cond.and given_1 narrow_1) := by decide +kernel
theorem se6_12 : ∀ j, j < 12 → Cond.not (Cond.eq (tmS 12) (tmS j)) ∈ flatC (Jvm.Cond.and given_1 narrow_1) ∨ Cond.not (Cond.eq (tmS j) (tmS 12)) ∈ flatC (Jvm.Cond.and given_1 narrow_1) := by decide +kernel
theorem se5_13 : ∀ j, j < 11 → Cond.eq (.elem (.field (tmS 13) "java/lang/String" "value" "[B") (.int (Int32.ofNat j))) (.int ((strB.getD 13 []).getD j 0)) ∈ flatC (Jvm.Cond.and given_1 narrow_1) := by decide +kernel
theorem se6_13 : ∀ j, j < 13 → Cond.not (Cond.eq (tmS 13) (tmS j)) ∈ flatC (Jvm.Cond.and given_1 narrow_1) ∨ Cond.not (Cond.eq (tmS j) (tmS 13)) ∈ flatC (Jvm.Cond.and given_1 narrow_1) := by decide +kernel
theorem se5_14 : ∀ j, j < 20 → Cond.eq (.elem (.field (tmS 14) "java/lang/String" "value" "[B") (.int (Int32.ofNat j))) (.int ((strB.getD 14 []).getD j 0)) ∈ flatC (Jvm.Cond.and given_1 narrow_1) := by decide +kernel
theorem se6_14 : ∀ j, j < 14 → Cond.not (Cond.eq (tmS 14) (tmS j)) ∈ flatC (Jvm.Cond.and given_1 narrow_1) ∨ Cond.not (Cond.eq (tmS j) (tmS 14)) ∈ flatC (Jvm.Cond.and given_1 narrow_1) := by decide +kernel
theorem se5 : ∀ i, i < 15 → ∀ j, j < strL.getD i 0 → Cond.eq (.elem (.field (tmS i) "java/lang/String" "value" "[B") (.int (Int32.ofNat j))) (.int ((strB.getD i []).getD j 0)) ∈ flatC (Jvm.Cond.and given_1 narrow_1) := by
  intro i hi
  match i, hi with
  | 0, _ => exact se5_0
  | 1, _ => exact se5_1
  | 2, _ => exact se5_2
  | 3, _ => exact se5_3
  | 4, _ => exact se5_4
  | 5, _ => exact se5_5
  | 6, _ => exact se5_6
  | 7, _ => exact se5_7
  | 8, _ => exact se5_8
  | 9, _ => exact se5_9
  | 10, _ => exact se5_10
  | 11, _ => exact se5_11
  | 12, _ => exact se5_12
  | 13, _ => exact se5_13
  | 14, _ => exact se5_14
  | n + 15, h => omega
theorem se6lt : ∀ i, i < 15 → ∀ j, j < i → Cond.not (Cond.eq (tmS i) (tmS j)) ∈ flatC (Jvm.Cond.and given_1 narrow_1) ∨ Cond.not (Cond.eq (tmS j) (tmS i)) ∈ flatC (Jvm.Cond.and given_1 narrow_1) := by
  intro i hi
  match i, hi with
  | 0, _ => intro j hj; omega
  | 1, _ => exact se6_1
  | 2, _ => exact se6_2
  | 3, _ => exact se6_3
  | 4, _ => exact se6_4
  | 5, _ => exact se6_5
  | 6, _ => exact se6_6
  | 7, _ => exact se6_7
  | 8, _ => exact se6_8
  | 9, _ => exact se6_9
  | 10, _ => exact se6_10
  | 11, _ => exact se6_11
  | 12, _ => exact se6_12
  | 13, _ => exact se6_13
  | 14, _ => exact se6_14
  | n + 15, h => omega
theorem se6 : ∀ i, i < 15 → ∀ j, j < 15 → i ≠ j → Cond.not (Cond.eq (tmS i) (tmS j)) ∈ flatC (Jvm.Cond.and given_1 narrow_1) ∨ Cond.not (Cond.eq (tmS j) (tmS i)) ∈ flatC (Jvm.Cond.and given_1 narrow_1) := by
  intro i hi j hj hne
  rcases Nat.lt_or_ge j i with c | c
  · exact se6lt i hi j c
  · exact (se6lt j hj i (by omega)).symm
abbrev tmT : Term := .static "LetterShelvesLaw" "TEXTS" "[Ljava/lang/String;"
/-- two terms that are said to be one reference -/
theorem eq_refs {t1 t2 : Term} {args : Array Value} {s : State} {a : Nat} (h : (Cond.eq t1 t2).before args s = true) (h2 : t2.eval args s none [] s = some (.ref a)) : t1.eval args s none [] s = some (.ref a) := by
  cases hv : t1.eval args s none [] s with
  | none => simp [Cond.before, Cond.holds, Cond.value, hv] at h
  | some w =>
    simp only [Cond.before, Cond.holds, Cond.value, hv, h2] at h
    cases w <;> simp_all
set_option maxHeartbeats 4000000 in
set_option maxRecDepth 100000 in
theorem start_known {p : Program} {s : State} {m : MethodId} {meth : Method} {c : Code} {b Ln : Nat} {xs : Nat → Int32} (C0 : lw_At p s m meth c b Ln xs) : ∃ (E : eE) (G : eG), KI E s ∧ SC G (AA s) s s.heap := by
  obtain ⟨hx, hb, hr, hml, hown, hts, hX, hbl, hlocks, hgv⟩ := C0
  have hta : ∀ w ∈ lw_all, w.before #[Value.ref b] s = true := fun w hw => hts w (List.mem_filter.mp hw).1
  have hs := flat_of_before _ hgv
  have hA : ∀ a : Nat, a < s.heap.size → ¬ AA s a := fun a h => Nat.not_le.mpr h
  obtain ⟨x0, y0, k0⟩ := u_known hta inX0 (hta _ q1_98)
  obtain ⟨x1, y1, k1⟩ := u_known hta inX1 (hta _ q1_25)
  obtain ⟨x2, y2, k2⟩ := u_known hta inX2 (hta _ q1_171)
  obtain ⟨x3, y3, k3⟩ := u_known hta inX3 (hta _ q1_51)
  obtain ⟨x4, y4, k4⟩ := u_known hta inX4 (hta _ q1_70)
  obtain ⟨x5, y5, k5⟩ := u_known hta inX5 (hta _ q1_127)
  obtain ⟨x6, y6, k6⟩ := u_known hta inX6 (hta _ q1_117)
  obtain ⟨x7, y7, k7⟩ := u_known hta inX7 (hta _ q1_140)
  obtain ⟨x8, y8, k8⟩ := u_known hta inX8 (hta _ q1_17)
  have h0 : ∀ c : Nat, ∃ d : ClassId × (Nat → Nat), ∀ q : vw_C, vwCl[c]? = some q → u_Kn s q.1 q.2.1 q.2.2 d.1 d.2 := by
    intro c
    match c with
    | 0 => exact ⟨(x0, y0), fun q hq => by cases hq; exact k0⟩
    | 1 => exact ⟨(x1, y1), fun q hq => by cases hq; exact k1⟩
    | 2 => exact ⟨(x2, y2), fun q hq => by cases hq; exact k2⟩
    | 3 => exact ⟨(x3, y3), fun q hq => by cases hq; exact k3⟩
    | 4 => exact ⟨(x4, y4), fun q hq => by cases hq; exact k4⟩
    | 5 => exact ⟨(x5, y5), fun q hq => by cases hq; exact k5⟩
    | 6 => exact ⟨(x6, y6), fun q hq => by cases hq; exact k6⟩
    | 7 => exact ⟨(x7, y7), fun q hq => by cases hq; exact k7⟩
    | 8 => exact ⟨(x8, y8), fun q hq => by cases hq; exact k8⟩
    | n + 9 => exact ⟨(0, fun _ => 0), fun q hq => by simp [vwCl] at hq⟩
  obtain ⟨f, hf⟩ := Classical.axiomOfChoice h0
  obtain ⟨a0, a0A, a0N⟩ := ar_prim (hta _ q1_49)
  obtain ⟨a1, a1A, a1N⟩ := ar_prim (hta _ q1_96)
  have ho : (Cond.arrayOver (.object "LetterShelves$Letters")).before #[Value.ref b] s = true := hts _ (by decide +kernel)
  have ha : (Cond.arrayOver (.array .int)).before #[Value.ref b] s = true := hts _ (by decide +kernel)
  obtain ⟨comp, a3, kA, o1, o2, o3, o4, o5⟩ := Cond.arrayOver_spec ho
  obtain ⟨comp4, a4, kA4, r1, r2, r3, r4, r5⟩ := arrayOverA_spec ha
  have hn : ∀ q ∈ nst, Cond.methodLinkNest q.1 q.2.1 q.2.2.1 q.2.2.2 ∈ lw_tbl := by decide +kernel
  have e1 : ∀ i, i < 15 → Cond.exactly (tmS i) "java/lang/String" ∈ flatC (Jvm.Cond.and given_1 narrow_1) := by decide +kernel
  have e2 : ∀ i, i < 15 → Cond.eq (.field (tmS i) "java/lang/String" "coder" "B") (.int 0) ∈ flatC (Jvm.Cond.and given_1 narrow_1) := by decide +kernel
  have e3 : ∀ i, i < 15 → Cond.arrayOf (.field (tmS i) "java/lang/String" "value" "[B") .byte ∈ flatC (Jvm.Cond.and given_1 narrow_1) := by decide +kernel
  have e4 : ∀ i, i < 15 → Cond.eq (.length (.field (tmS i) "java/lang/String" "value" "[B")) (.int (Int32.ofNat (strL.getD i 0))) ∈ flatC (Jvm.Cond.and given_1 narrow_1) := by decide +kernel
  have e5 := se5
  have e6 := se6
  obtain ⟨adK, adV, g1, g2⟩ := vk_Sof (N := 15) (tm := tmS) (len := strL) (byt := strB) (fun i hi => by have := strL_lt i; omega) (fun i hi => hs _ (e1 i hi)) (fun i hi => hs _ (e2 i hi)) (fun i hi => hs _ (e3 i hi)) (fun i hi => hs _ (e4 i hi)) (fun i hi j hj => hs _ (e5 i hi j hj)) (fun i j hi hj hij => (e6 i hi j hj hij).imp (hs _) (hs _)) hA
  have e7 : Cond.arrayOf tmT (.object "java/lang/String") ∈ flatC (Jvm.Cond.and given_1 narrow_1) := by decide +kernel
  have e8 : Cond.eq (.length tmT) (.int 8) ∈ flatC (Jvm.Cond.and given_1 narrow_1) := by decide +kernel
  have e9 : ∀ j, j < 8 → Cond.eq (.elem tmT (.int (Int32.ofNat j))) (tmS (7 + j)) ∈ flatC (Jvm.Cond.and given_1 narrow_1) := by decide +kernel
  obtain ⟨tq, hq1, hq2⟩ := va_Tof (tm := tmT) (ty := .object "java/lang/String") (N := 8) (f := fun j => .ref (adK (7 + j))) (A := AA s) (by omega) (hs _ e7) (va_eqt (hs _ e8)) (fun j hj => eq_refs (hs _ (e9 j hj)) (g2 (7 + j) (by omega))) hA
  have r7 : ∀ i, i < 7 → Cond.stringRef RX7 (strR.getD i (0, "")).1 (strR.getD i (0, "")).2 ∈ lw_tbl := by decide +kernel
  refine ⟨((fun c => (f c).1, fun c => (f c).2), fun k => match k with | 0 => a0 | 1 => a1 | 2 => a0 | 3 => a3 | _ => a4), (adK, adV), ⟨⟨⟨fun c q hq => hf c q hq, fun k q hk => ?_⟩, fun q hq => va_Nw.of rfl (hts _ (hn q hq))⟩, va_AO.of ho, ha⟩, g1, ?_, ?_, fun i q hi => ?_, tq, va_Zref (hts _ (by decide +kernel)) (hts _ (by decide +kernel)) hq1 hA, hq2⟩
  · match k, hk with
    | 0, hk => cases hk; exact ⟨a0A, a0N⟩
    | 1, hk => cases hk; exact ⟨a1A, a1N⟩
    | 2, hk => cases hk; exact ⟨a0A, a0N⟩
    | 3, hk => cases hk; exact ⟨fun n z => ⟨fun k h => (by cases h), kA, o3, comp, o4⟩, kA, comp, o3, o4, o1, o5⟩
    | 4, hk => cases hk; exact ⟨fun n z => ⟨fun k h => (by cases h), kA4, r3, comp4, r4⟩, r5⟩
    | n + 5, hk => simp [eT] at hk
  · exact va_Zof (hts _ (by decide +kernel)) (hts _ (by decide +kernel)) (va_eqt (hs _ (by decide +kernel))) hA
  · exact va_Zqof (hts _ (by decide +kernel)) (hts _ (by decide +kernel)) (hs _ (by decide +kernel)) hA
  · have hi7 : i < 7 := (List.getElem?_eq_some_iff.mp hi).1
    have hq : strR.getD i (0, "") = q := by simp [List.getD, hi]
    have h1 := r7 i hi7
    have h2 := g2 i (by omega)
    unfold tmS at h2
    rw [if_pos hi7, hq] at h2
    rw [hq] at h1
    exact vk_R.of (hts _ h1) h2
/-- the shelves as they begin -/
theorem IV.start : IV iLs iPs iRs iBs iTs (fun _ => 0) (fun _ => 0) (0 : Int32) (0 : Int32) := by
  have hw : ∀ k : Nat, (fun _ => 0 : Nat → Int32) k = 0 := fun _ => rfl
  have hm : LW iLs (fun _ => 0) 0 (fun _ => 0) (fun _ => false) := by
    refine ⟨⟨by omega, fun p hp => by omega, rfl, fun k hk => by omega⟩, rfl, fun k hk => by omega, ?_, rfl, fun k _ _ => rfl, rfl, rfl, rfl⟩
    decide +kernel
  refine ⟨⟨0, fun _ => 0, fun _ => false, hm, ⟨⟨by omega, fun r hr => ?_⟩, rfl⟩, ⟨by omega, rfl, rfl, fun j k hj => absurd hj (by rw [cn_0]; omega), fun j k k' hj => absurd hj (by rw [cn_0]; omega)⟩⟩, ⟨0, 0, 0, by omega, by omega, by omega, rfl, rfl, rfl, rfl, fun j hj => by omega⟩, rfl, (by show (0 : Int32) = 0 - 0; decide), fun j => (by show (0 : Int32) = 0 - 0; decide)⟩
  have e : rp (qb (fun _ => 0)) 0 r = [] := List.length_eq_zero_iff.mp (rp_len _ _ _)
  rw [e]
  refine ⟨rfl, fun b hb => ?_, rfl⟩
  simp [ca]
  rfl
set_option maxHeartbeats 4000000 in
set_option maxRecDepth 100000 in
/-- the law, from its entry -/
theorem whole_start {p : Program} {e : Env} {s : State} {m : MethodId} {below : List Frame} {meth : Method} {c : Code} (l : Launch) (hflags : l.flags = flags0) {b L : Nat} {xs : Nat → Int32} (hL : L ≤ 260) (C0 : lw_At p s m meth c b L xs) : W p l e room_1 s m #[Value.ref b] below meth c s.heap [] 0 0 (lw_Z below #[Value.ref b] s) (entryFrame m ([Value.ref b] : List Value).toArray 12) := by
  obtain ⟨E, G, hKI, hSC⟩ := start_known C0
  obtain ⟨hx, hb, hr, hml, hown, hts, hX, hbl, hlocks, hgv⟩ := id C0
  have hta : ∀ w ∈ lw_all, w.before #[Value.ref b] s = true := fun w hw => hts w (List.mem_filter.mp hw).1
  have hK := hKI.1
  have hC : Cx p s m #[Value.ref b] c cL_law 12 RL E := ⟨hx, hb, hml, hown, hta, hK⟩
  have hA : ∀ q : Nat, s.heap.size ≤ q → AA s q := fun q h => h
  have hP : va_P E.1 vwCl [] s.heap := vP_nil
  have hD : va_D (AA s) [] := ⟨fun i j p q h => by simp at h, fun k q h => by simp at h⟩
  have hS : va_S (AA s) s.heap s.heap [] := va_S.rf
  have hl := lv_entry ([.ref b]) (n := 12) (Nat.le_of_ble_eq_true rfl)
  rw [lg_entry_eq]
  generalize (lg_sl ([.ref b]) ++ List.replicate (12 - (lg_sl ([.ref b])).length) Slot.unset).toArray = ls at hl ⊢
  have hl : lv_has ls 12 [(0, .ref b)] := hl
  refine va_new (ci := 8) (fs := [.null, .null, .null, .int 0, .null, .null, .null, .null, .null, .null, .null, .int 0, .int 0]) (C := RX8) (T := TX8) (N := 13) hx hb hta inX8 tyX8 tyX8_ok hown (hta _ q1_16) (hta _ q1_17) (hta _ q1_1) hK.1 hP hD hS hA rfl (fun j hj => by rcases (show j = 0 ∨ j = 1 ∨ j = 2 ∨ j = 3 ∨ j = 4 ∨ j = 5 ∨ j = 6 ∨ j = 7 ∨ j = 8 ∨ j = 9 ∨ j = 10 ∨ j = 11 ∨ j = 12 by omega) with rfl | rfl | rfl | rfl | rfl | rfl | rfl | rfl | rfl | rfl | rfl | rfl | rfl <;> rfl) (Nat.le_of_ble_eq_true rfl) (Nat.le_of_ble_eq_true rfl) dL_law_0 (fun q0 H hP hD hS => ?_)
  have hP : va_P E.1 vwCl ([(q0, .inr (8, [.null, .null, .null, .int 0, .null, .null, .null, .null, .null, .null, .null, .int 0, .int 0]))]) H := hP
  have hD : va_D (AA s) ([(q0, .inr (8, [.null, .null, .null, .int 0, .null, .null, .null, .null, .null, .null, .null, .int 0, .int 0]))]) := hD
  refine lv_dup hx hb dL_law_3 rfl ?_
  have hPc := hP.sub (ws' := [(q0, .inr (8, [.null, .null, .null, .int 0, .null, .null, .null, .null, .null, .null, .null, .int 0, .int 0]))]) [0] rfl
  have hDc := hD.sub (ws' := [(q0, .inr (8, [.null, .null, .null, .int 0, .null, .null, .null, .null, .null, .null, .null, .int 0, .int 0]))]) [0] (by decide) rfl
  have hFc := va_free (wc := [(q0, .inr (8, [.null, .null, .null, .int 0, .null, .null, .null, .null, .null, .null, .null, .int 0, .int 0]))]) hD hS hA [0] rfl
  refine va_callv (va_runI (As := []) (rest := [.ref q0]) ⟨hx, hb, hml, hown, hta⟩ (iS_init l E q0 H.size) (cwI 0 hta (gi_ q1_20) rfl rfl rfl (hta _ q1_1) (hta _ q1_18) (hta _ q1_19) rfl (by decide +kernel) ⟨Nat.le_of_ble_eq_true rfl, Nat.le_of_ble_eq_true rfl⟩) ⟨fun a U g mk q => ⟨q.1, q.2.1, q.2.2.1, q.2.2.2.1.call g mk a, q.2.2.2.2⟩, fun U hU hW => ⟨rfl, by rw [hU], by rw [hU]; exact hPc, hKI.warm hW, hDc.weaken (fun _ _ _ _ => trivial)⟩⟩ rfl rfl hl.1 rfl (lv_room (Nat.le_of_ble_eq_true rfl)) dL_law_4 ⟨Nat.le_of_ble_eq_true rfl, Nat.le_of_ble_eq_true rfl⟩) hS (fun q _ h => hFc q h) hFc (fun u t H1 locs ht hvm hw hB hz1 hk1 hS => ?_)
  obtain ⟨ad1, rfl, hP1, hD1⟩ := hB
  rw [ht] at hP1
  obtain ⟨hP, hD⟩ := va_join (wr := []) (w1 := wS E ad1 iLs iLs iLs (0 : Int32) iPs iRs iBs iYs iZs iTs iNs (0 : Int32) (0 : Int32)) hP hD [0] [] rfl rfl (by decide) (by decide) hk1 hFc hP1 hD1
  generalize H1 = H at hP hS ⊢
  clear hPc hDc hFc hP1 hD1 hk1 hz1
  have hP : va_P E.1 vwCl (wS E ad1 iLs iLs iLs (0 : Int32) iPs iRs iBs iYs iZs iTs iNs (0 : Int32) (0 : Int32)) H := hP
  have hD : va_D (AA s) (wS E ad1 iLs iLs iLs (0 : Int32) iPs iRs iBs iYs iZs iTs iNs (0 : Int32) (0 : Int32)) := hD
  refine lv_astore_n (lv' := [(1, .ref (ad1 0)), (0, .ref b)]) hx hb dL_law_7 rfl hl (by decide) rfl (fun ls hl => ?_)
  refine lv_iconst (v := 0) hx hb dL_law_8 (by decide) ?_
  refine lv_istore_n (lv' := [(2, .int 0), (1, .ref (ad1 0)), (0, .ref b)]) hx hb dL_law_9 rfl hl (by decide) rfl (fun ls hl => ?_)
  exact four_loop hC hr hlocks ⟨Nat.le_of_ble_eq_true rfl, Nat.le_of_ble_eq_true rfl⟩ hX hbl hSC hL 4 0 (by omega) iLs iLs iLs 0 iPs iRs iBs iYs iZs iTs iNs 0 0 _ _ _ _ IV.start H _ ⟨hP, hD, hS⟩ ls hl
