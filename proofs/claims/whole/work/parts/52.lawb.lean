section LAW
variable {p : Program} {l : Launch} {e : Env} {s : State} {m : MethodId} {below : List Frame} {meth : Method} {c : Code} {E : eE} {G : eG} {b Ln : Nat} {xs : Nat → Int32} {ad adm : Nat → Nat} {cells slots : Nat} {Q : State → Prop} {i : Int32} {H : Heap} {locs : List Loc} {ls : Array Slot}
variable {L : TL} {tr : TL} {Sn : TL} {iS : Int32} {P : TP} {R : TR} {B : TB} {Y : TY} {Z : TZ} {T : TT} {N : TN} {lr : Int32} {ld : Int32} {rn : Int32} {dn : Int32} {w : Nat → Int32} {u : Nat → Int32} {sr : Nat → Int32} {mind : Nat → Int32} {chg : Int32} {fi : Int32} {at_ : Nat → Int32} {line2 : Nat → Int32} {ll : Int32} {text2 : Nat → Int32} {tn : Nat} {nx : Int32} {nums : Nat → Int32} {so : Int32} {dd : Int32}
set_option maxHeartbeats 4000000 in
set_option maxRecDepth 100000 in
theorem law_weight (hC : Cx p s m #[Value.ref b] c cL_law 8 RL E) (hcs : cells + 0 ≤ room_1.cells ∧ slots + 0 ≤ room_1.slots) (hX : va_X b Ln xs s s.heap) (hbl : b < s.heap.size) (hSC : SC G (AA s) s s.heap) (h1 : vp_in (i + 1) Ln) (h2 : vp_in (i + 2) Ln) (h3 : vp_in (i + 3) Ln) (hR : Rl L Sn iS P R B T N w u sr chg fi line2 ll text2 tn) (kk : KC p l e s m below meth c E b ad adm cells slots Q i) (hH : Hp E (AA s) (wS E ad L tr Sn iS P R B Y Z T N lr ld ++ wM E adm lr ld rn dn w u sr mind chg fi iS at_ line2 ll text2 (nI tn) nx nums so dd) s.heap H locs) (hl : lv_has ls 8 [(0, .ref b), (1, .ref (ad 0)), (2, .ref (adm 0)), (3, .int i)]) : W p l e room_1 s m #[Value.ref b] below meth c H locs cells slots Q (F0 m 343 ls []) := by
  have hx := hC.1
  have hb := hC.2.1
  have hbA : ¬ AA s b := Nat.not_le.mpr hbl
  obtain ⟨hST, hPA, hSv, hT1, hT2, hLI⟩ := hR
  obtain ⟨r, e1, e2⟩ := st_weight hST (xs (i + 1).toNatClampNeg)
  refine lv_aload_n hx hb dL_law_343 rfl (lv_at hl 1 rfl) ?_
  refine lv_aload_n hx hb dL_law_344 rfl (lv_at hl 0 rfl) ?_
  refine lv_iload_n hx hb dL_law_345 rfl (lv_at hl 3 rfl) ?_
  refine lv_iconst (v := 1) hx hb dL_law_346 (by decide) ?_
  refine lv_iadd hx hb dL_law_347 ?_
  refine va_sld hx hb hX hbl hbA hH.2.2 h1 dL_law_348 ?_
  refine k_PVi hC LL_36 ⟨Nat.le_of_ble_eq_true rfl, Nat.le_of_ble_eq_true rfl⟩ hcs (cS_weight l E ad L tr Sn iS P R B Y Z T N lr ld (xs (i + 1).toNatClampNeg) r e1) rfl rfl (vP_perm hH.1 (List.Perm.refl _)) rfl rfl hl.1 rfl (Nat.le_of_ble_eq_true rfl) rfl dL_law_349 (fun _ => ?_)
  refine lv_aload_n hx hb dL_law_352 rfl (lv_at hl 2 rfl) ?_
  refine lv_aload_n hx hb dL_law_353 rfl (lv_at hl 0 rfl) ?_
  refine lv_iload_n hx hb dL_law_354 rfl (lv_at hl 3 rfl) ?_
  refine lv_iconst (v := 1) hx hb dL_law_355 (by decide) ?_
  refine lv_iadd hx hb dL_law_356 ?_
  refine va_sld hx hb hX hbl hbA hH.2.2 h1 dL_law_357 ?_
  refine k_PVi hC LL_39 ⟨Nat.le_of_ble_eq_true rfl, Nat.le_of_ble_eq_true rfl⟩ hcs (cM_weight l E adm lr ld rn dn w u sr mind chg fi iS at_ line2 ll text2 (nI tn) nx nums so dd (xs (i + 1).toNatClampNeg) r e2) rfl rfl (vP_perm hH.1 List.perm_append_comm) rfl rfl hl.1 rfl (Nat.le_of_ble_eq_true rfl) rfl dL_law_358 (fun _ => ?_)
  refine lv_icmp_eq (tgt := 1329) hx hb dL_law_361 (by decide) (fun _ => ?_) (fun q => absurd rfl q)
  exact kk _ _ _ _ _ _ _ _ _ _ _ _ _ _ _ _ _ _ _ _ _ _ _ _ _ _ _ _ _ _ ⟨hST, hPA, hSv, hT1, hT2, hLI⟩ H locs hH ls (lv_sub hl [0, 1, 2, 3] rfl)
set_option maxHeartbeats 4000000 in
set_option maxRecDepth 100000 in
theorem law_weightAgain (hC : Cx p s m #[Value.ref b] c cL_law 8 RL E) (hcs : cells + 0 ≤ room_1.cells ∧ slots + 0 ≤ room_1.slots) (hX : va_X b Ln xs s s.heap) (hbl : b < s.heap.size) (hSC : SC G (AA s) s s.heap) (h1 : vp_in (i + 1) Ln) (h2 : vp_in (i + 2) Ln) (h3 : vp_in (i + 3) Ln) (hR : Rl L Sn iS P R B T N w u sr chg fi line2 ll text2 tn) (kk : KC p l e s m below meth c E b ad adm cells slots Q i) (hH : Hp E (AA s) (wS E ad L tr Sn iS P R B Y Z T N lr ld ++ wM E adm lr ld rn dn w u sr mind chg fi iS at_ line2 ll text2 (nI tn) nx nums so dd) s.heap H locs) (hl : lv_has ls 8 [(0, .ref b), (1, .ref (ad 0)), (2, .ref (adm 0)), (3, .int i)]) : W p l e room_1 s m #[Value.ref b] below meth c H locs cells slots Q (F0 m 366 ls []) := by
  have hx := hC.1
  have hb := hC.2.1
  have hbA : ¬ AA s b := Nat.not_le.mpr hbl
  obtain ⟨hST, hPA, hSv, hT1, hT2, hLI⟩ := hR
  obtain ⟨r, at2, e1, e2⟩ := st_weightAgain hST (xs (i + 1).toNatClampNeg) at_
  refine lv_aload_n hx hb dL_law_366 rfl (lv_at hl 1 rfl) ?_
  refine lv_aload_n hx hb dL_law_367 rfl (lv_at hl 0 rfl) ?_
  refine lv_iload_n hx hb dL_law_368 rfl (lv_at hl 3 rfl) ?_
  refine lv_iconst (v := 1) hx hb dL_law_369 (by decide) ?_
  refine lv_iadd hx hb dL_law_370 ?_
  refine va_sld hx hb hX hbl hbA hH.2.2 h1 dL_law_371 ?_
  refine k_PVi hC LL_40 ⟨Nat.le_of_ble_eq_true rfl, Nat.le_of_ble_eq_true rfl⟩ hcs (cS_weightAgain l E ad L tr Sn iS P R B Y Z T N lr ld (xs (i + 1).toNatClampNeg) r e1) rfl rfl (vP_perm hH.1 (List.Perm.refl _)) rfl rfl hl.1 rfl (Nat.le_of_ble_eq_true rfl) rfl dL_law_372 (fun _ => ?_)
  refine lv_aload_n hx hb dL_law_375 rfl (lv_at hl 2 rfl) ?_
  refine lv_aload_n hx hb dL_law_376 rfl (lv_at hl 0 rfl) ?_
  refine lv_iload_n hx hb dL_law_377 rfl (lv_at hl 3 rfl) ?_
  refine lv_iconst (v := 1) hx hb dL_law_378 (by decide) ?_
  refine lv_iadd hx hb dL_law_379 ?_
  refine va_sld hx hb hX hbl hbA hH.2.2 h1 dL_law_380 ?_
  refine k_WVpi hC LL_43 ⟨Nat.le_of_ble_eq_true rfl, Nat.le_of_ble_eq_true rfl⟩ hcs (cM_weightAgain l E adm lr ld rn dn w u sr mind chg fi iS at_ line2 ll text2 (nI tn) nx nums so dd (xs (i + 1).toNatClampNeg) (r, at2) e2) rfl rfl hH List.perm_append_comm List.perm_append_comm rfl rfl rfl hl.1 rfl (Nat.le_of_ble_eq_true rfl) rfl dL_law_381 (fun H locs _ hH => ?_)
  have hH : Hp E (AA s) (wS E ad L tr Sn iS P R B Y Z T N lr ld ++ wM E adm lr ld rn dn w u sr mind chg fi iS at2 line2 ll text2 (nI tn) nx nums so dd) s.heap H locs := hH
  refine lv_icmp_eq (tgt := 1329) hx hb dL_law_384 (by decide) (fun _ => ?_) (fun q => absurd rfl q)
  exact kk _ _ _ _ _ _ _ _ _ _ _ _ _ _ _ _ _ _ _ _ _ _ _ _ _ _ _ _ _ _ ⟨hST, hPA, hSv, hT1, hT2, hLI⟩ H locs hH ls (lv_sub hl [0, 1, 2, 3] rfl)
set_option maxHeartbeats 4000000 in
set_option maxRecDepth 100000 in
theorem law_bit (hC : Cx p s m #[Value.ref b] c cL_law 8 RL E) (hcs : cells + 0 ≤ room_1.cells ∧ slots + 0 ≤ room_1.slots) (hX : va_X b Ln xs s s.heap) (hbl : b < s.heap.size) (hSC : SC G (AA s) s s.heap) (h1 : vp_in (i + 1) Ln) (h2 : vp_in (i + 2) Ln) (h3 : vp_in (i + 3) Ln) (hR : Rl L Sn iS P R B T N w u sr chg fi line2 ll text2 tn) (kk : KC p l e s m below meth c E b ad adm cells slots Q i) (hH : Hp E (AA s) (wS E ad L tr Sn iS P R B Y Z T N lr ld ++ wM E adm lr ld rn dn w u sr mind chg fi iS at_ line2 ll text2 (nI tn) nx nums so dd) s.heap H locs) (hl : lv_has ls 8 [(0, .ref b), (1, .ref (ad 0)), (2, .ref (adm 0)), (3, .int i)]) : W p l e room_1 s m #[Value.ref b] below meth c H locs cells slots Q (F0 m 389 ls []) := by
  have hx := hC.1
  have hb := hC.2.1
  have hbA : ¬ AA s b := Nat.not_le.mpr hbl
  obtain ⟨hST, hPA, hSv, hT1, hT2, hLI⟩ := hR
  obtain ⟨r, at2, e1, e2⟩ := st_bit hST (xs (i + 1).toNatClampNeg) (xs (i + 2).toNatClampNeg) at_
  refine lv_aload_n hx hb dL_law_389 rfl (lv_at hl 1 rfl) ?_
  refine lv_aload_n hx hb dL_law_390 rfl (lv_at hl 0 rfl) ?_
  refine lv_iload_n hx hb dL_law_391 rfl (lv_at hl 3 rfl) ?_
  refine lv_iconst (v := 1) hx hb dL_law_392 (by decide) ?_
  refine lv_iadd hx hb dL_law_393 ?_
  refine va_sld hx hb hX hbl hbA hH.2.2 h1 dL_law_394 ?_
  refine lv_aload_n hx hb dL_law_395 rfl (lv_at hl 0 rfl) ?_
  refine lv_iload_n hx hb dL_law_396 rfl (lv_at hl 3 rfl) ?_
  refine lv_iconst (v := 2) hx hb dL_law_397 (by decide) ?_
  refine lv_iadd hx hb dL_law_398 ?_
  refine va_sld hx hb hX hbl hbA hH.2.2 h2 dL_law_399 ?_
  refine k_PVi hC LL_44 ⟨Nat.le_of_ble_eq_true rfl, Nat.le_of_ble_eq_true rfl⟩ hcs (cS_bit l E ad L tr Sn iS P R B Y Z T N lr ld (xs (i + 1).toNatClampNeg) (xs (i + 2).toNatClampNeg) r e1) rfl rfl (vP_perm hH.1 (List.Perm.refl _)) rfl rfl hl.1 rfl (Nat.le_of_ble_eq_true rfl) rfl dL_law_400 (fun _ => ?_)
  refine lv_aload_n hx hb dL_law_403 rfl (lv_at hl 2 rfl) ?_
  refine lv_aload_n hx hb dL_law_404 rfl (lv_at hl 0 rfl) ?_
  refine lv_iload_n hx hb dL_law_405 rfl (lv_at hl 3 rfl) ?_
  refine lv_iconst (v := 1) hx hb dL_law_406 (by decide) ?_
  refine lv_iadd hx hb dL_law_407 ?_
  refine va_sld hx hb hX hbl hbA hH.2.2 h1 dL_law_408 ?_
  refine lv_aload_n hx hb dL_law_409 rfl (lv_at hl 0 rfl) ?_
  refine lv_iload_n hx hb dL_law_410 rfl (lv_at hl 3 rfl) ?_
  refine lv_iconst (v := 2) hx hb dL_law_411 (by decide) ?_
  refine lv_iadd hx hb dL_law_412 ?_
  refine va_sld hx hb hX hbl hbA hH.2.2 h2 dL_law_413 ?_
  refine k_WVpi hC LL_47 ⟨Nat.le_of_ble_eq_true rfl, Nat.le_of_ble_eq_true rfl⟩ hcs (cM_bit l E adm lr ld rn dn w u sr mind chg fi iS at_ line2 ll text2 (nI tn) nx nums so dd (xs (i + 1).toNatClampNeg) (xs (i + 2).toNatClampNeg) (r, at2) e2) rfl rfl hH List.perm_append_comm List.perm_append_comm rfl rfl rfl hl.1 rfl (Nat.le_of_ble_eq_true rfl) rfl dL_law_414 (fun H locs _ hH => ?_)
  have hH : Hp E (AA s) (wS E ad L tr Sn iS P R B Y Z T N lr ld ++ wM E adm lr ld rn dn w u sr mind chg fi iS at2 line2 ll text2 (nI tn) nx nums so dd) s.heap H locs := hH
  refine lv_icmp_eq (tgt := 1329) hx hb dL_law_417 (by decide) (fun _ => ?_) (fun q => absurd rfl q)
  exact kk _ _ _ _ _ _ _ _ _ _ _ _ _ _ _ _ _ _ _ _ _ _ _ _ _ _ _ _ _ _ ⟨hST, hPA, hSv, hT1, hT2, hLI⟩ H locs hH ls (lv_sub hl [0, 1, 2, 3] rfl)
set_option maxHeartbeats 4000000 in
set_option maxRecDepth 100000 in
theorem law_bits (hC : Cx p s m #[Value.ref b] c cL_law 8 RL E) (hcs : cells + 0 ≤ room_1.cells ∧ slots + 0 ≤ room_1.slots) (hX : va_X b Ln xs s s.heap) (hbl : b < s.heap.size) (hSC : SC G (AA s) s s.heap) (h1 : vp_in (i + 1) Ln) (h2 : vp_in (i + 2) Ln) (h3 : vp_in (i + 3) Ln) (hR : Rl L Sn iS P R B T N w u sr chg fi line2 ll text2 tn) (kk : KC p l e s m below meth c E b ad adm cells slots Q i) (hH : Hp E (AA s) (wS E ad L tr Sn iS P R B Y Z T N lr ld ++ wM E adm lr ld rn dn w u sr mind chg fi iS at_ line2 ll text2 (nI tn) nx nums so dd) s.heap H locs) (hl : lv_has ls 8 [(0, .ref b), (1, .ref (ad 0)), (2, .ref (adm 0)), (3, .int i)]) : W p l e room_1 s m #[Value.ref b] below meth c H locs cells slots Q (F0 m 422 ls []) := by
  have hx := hC.1
  have hb := hC.2.1
  have hbA : ¬ AA s b := Nat.not_le.mpr hbl
  obtain ⟨hST, hPA, hSv, hT1, hT2, hLI⟩ := hR
  obtain ⟨r, at2, e1, e2⟩ := st_bits hST (xs (i + 1).toNatClampNeg) at_
  refine lv_aload_n hx hb dL_law_422 rfl (lv_at hl 1 rfl) ?_
  refine lv_aload_n hx hb dL_law_423 rfl (lv_at hl 0 rfl) ?_
  refine lv_iload_n hx hb dL_law_424 rfl (lv_at hl 3 rfl) ?_
  refine lv_iconst (v := 1) hx hb dL_law_425 (by decide) ?_
  refine lv_iadd hx hb dL_law_426 ?_
  refine va_sld hx hb hX hbl hbA hH.2.2 h1 dL_law_427 ?_
  refine k_PVl hC LL_48 ⟨Nat.le_of_ble_eq_true rfl, Nat.le_of_ble_eq_true rfl⟩ hcs (cS_bits l E ad L tr Sn iS P R B Y Z T N lr ld (xs (i + 1).toNatClampNeg) r e1) rfl rfl (vP_perm hH.1 (List.Perm.refl _)) rfl rfl hl.1 rfl (Nat.le_of_ble_eq_true rfl) rfl dL_law_428 (fun _ => ?_)
  refine lv_aload_n hx hb dL_law_431 rfl (lv_at hl 2 rfl) ?_
  refine lv_aload_n hx hb dL_law_432 rfl (lv_at hl 0 rfl) ?_
  refine lv_iload_n hx hb dL_law_433 rfl (lv_at hl 3 rfl) ?_
  refine lv_iconst (v := 1) hx hb dL_law_434 (by decide) ?_
  refine lv_iadd hx hb dL_law_435 ?_
  refine va_sld hx hb hX hbl hbA hH.2.2 h1 dL_law_436 ?_
  refine k_WVpl hC LL_52 ⟨Nat.le_of_ble_eq_true rfl, Nat.le_of_ble_eq_true rfl⟩ hcs (cM_bits l E adm lr ld rn dn w u sr mind chg fi iS at_ line2 ll text2 (nI tn) nx nums so dd (xs (i + 1).toNatClampNeg) (r, at2) e2) rfl rfl hH List.perm_append_comm List.perm_append_comm rfl rfl rfl hl.1 rfl (Nat.le_of_ble_eq_true rfl) rfl dL_law_437 (fun H locs _ hH => ?_)
  have hH : Hp E (AA s) (wS E ad L tr Sn iS P R B Y Z T N lr ld ++ wM E adm lr ld rn dn w u sr mind chg fi iS at2 line2 ll text2 (nI tn) nx nums so dd) s.heap H locs := hH
  refine W.lcmp hx hb dL_law_440 ?_
  refine lv_if_eq (tgt := 1329) hx hb dL_law_441 (by decide) (fun _ => ?_) (fun q => absurd ((lg_cmp_eq _ _).mpr rfl) q)
  exact kk _ _ _ _ _ _ _ _ _ _ _ _ _ _ _ _ _ _ _ _ _ _ _ _ _ _ _ _ _ _ ⟨hST, hPA, hSv, hT1, hT2, hLI⟩ H locs hH ls (lv_sub hl [0, 1, 2, 3] rfl)
set_option maxHeartbeats 4000000 in
set_option maxRecDepth 100000 in
theorem law_rank (hC : Cx p s m #[Value.ref b] c cL_law 8 RL E) (hcs : cells + 0 ≤ room_1.cells ∧ slots + 0 ≤ room_1.slots) (hX : va_X b Ln xs s s.heap) (hbl : b < s.heap.size) (hSC : SC G (AA s) s s.heap) (h1 : vp_in (i + 1) Ln) (h2 : vp_in (i + 2) Ln) (h3 : vp_in (i + 3) Ln) (hR : Rl L Sn iS P R B T N w u sr chg fi line2 ll text2 tn) (kk : KC p l e s m below meth c E b ad adm cells slots Q i) (hH : Hp E (AA s) (wS E ad L tr Sn iS P R B Y Z T N lr ld ++ wM E adm lr ld rn dn w u sr mind chg fi iS at_ line2 ll text2 (nI tn) nx nums so dd) s.heap H locs) (hl : lv_has ls 8 [(0, .ref b), (1, .ref (ad 0)), (2, .ref (adm 0)), (3, .int i)]) : W p l e room_1 s m #[Value.ref b] below meth c H locs cells slots Q (F0 m 446 ls []) := by
  have hx := hC.1
  have hb := hC.2.1
  have hbA : ¬ AA s b := Nat.not_le.mpr hbl
  obtain ⟨hST, hPA, hSv, hT1, hT2, hLI⟩ := hR
  obtain ⟨r, at2, e1, e2⟩ := st_rank hST (xs (i + 1).toNatClampNeg) (decide (¬ (xs (i + 2).toNatClampNeg) = 0)) (xs (i + 3).toNatClampNeg) at_
  refine lv_aload_n hx hb dL_law_446 rfl (lv_at hl 1 rfl) ?_
  refine lv_aload_n hx hb dL_law_447 rfl (lv_at hl 0 rfl) ?_
  refine lv_iload_n hx hb dL_law_448 rfl (lv_at hl 3 rfl) ?_
  refine lv_iconst (v := 1) hx hb dL_law_449 (by decide) ?_
  refine lv_iadd hx hb dL_law_450 ?_
  refine va_sld hx hb hX hbl hbA hH.2.2 h1 dL_law_451 ?_
  refine lv_aload_n hx hb dL_law_452 rfl (lv_at hl 0 rfl) ?_
  refine lv_iload_n hx hb dL_law_453 rfl (lv_at hl 3 rfl) ?_
  refine lv_iconst (v := 2) hx hb dL_law_454 (by decide) ?_
  refine lv_iadd hx hb dL_law_455 ?_
  refine va_sld hx hb hX hbl hbA hH.2.2 h2 dL_law_456 ?_
  refine law_bool (pc := 457) hx hb dL_law_457 dL_law_460 dL_law_461 dL_law_464 ?_
  refine lv_aload_n hx hb dL_law_465 rfl (lv_at hl 0 rfl) ?_
  refine lv_iload_n hx hb dL_law_466 rfl (lv_at hl 3 rfl) ?_
  refine lv_iconst (v := 3) hx hb dL_law_467 (by decide) ?_
  refine lv_iadd hx hb dL_law_468 ?_
  refine va_sld hx hb hX hbl hbA hH.2.2 h3 dL_law_469 ?_
  refine k_PVi hC LL_53 ⟨Nat.le_of_ble_eq_true rfl, Nat.le_of_ble_eq_true rfl⟩ hcs (cS_rank l E ad L tr Sn iS P R B Y Z T N lr ld (xs (i + 1).toNatClampNeg) (bI (decide (¬ (xs (i + 2).toNatClampNeg) = 0))) (xs (i + 3).toNatClampNeg) r e1) rfl rfl (vP_perm hH.1 (List.Perm.refl _)) rfl rfl hl.1 rfl (Nat.le_of_ble_eq_true rfl) rfl dL_law_470 (fun _ => ?_)
  refine lv_aload_n hx hb dL_law_473 rfl (lv_at hl 2 rfl) ?_
  refine lv_aload_n hx hb dL_law_474 rfl (lv_at hl 0 rfl) ?_
  refine lv_iload_n hx hb dL_law_475 rfl (lv_at hl 3 rfl) ?_
  refine lv_iconst (v := 1) hx hb dL_law_476 (by decide) ?_
  refine lv_iadd hx hb dL_law_477 ?_
  refine va_sld hx hb hX hbl hbA hH.2.2 h1 dL_law_478 ?_
  refine lv_aload_n hx hb dL_law_479 rfl (lv_at hl 0 rfl) ?_
  refine lv_iload_n hx hb dL_law_480 rfl (lv_at hl 3 rfl) ?_
  refine lv_iconst (v := 2) hx hb dL_law_481 (by decide) ?_
  refine lv_iadd hx hb dL_law_482 ?_
  refine va_sld hx hb hX hbl hbA hH.2.2 h2 dL_law_483 ?_
  refine law_bool (pc := 484) hx hb dL_law_484 dL_law_487 dL_law_488 dL_law_491 ?_
  refine lv_aload_n hx hb dL_law_492 rfl (lv_at hl 0 rfl) ?_
  refine lv_iload_n hx hb dL_law_493 rfl (lv_at hl 3 rfl) ?_
  refine lv_iconst (v := 3) hx hb dL_law_494 (by decide) ?_
  refine lv_iadd hx hb dL_law_495 ?_
  refine va_sld hx hb hX hbl hbA hH.2.2 h3 dL_law_496 ?_
  refine k_WVpi hC LL_57 ⟨Nat.le_of_ble_eq_true rfl, Nat.le_of_ble_eq_true rfl⟩ hcs (cM_rank l E adm lr ld rn dn w u sr mind chg fi iS at_ line2 ll text2 (nI tn) nx nums so dd (xs (i + 1).toNatClampNeg) (bI (decide (¬ (xs (i + 2).toNatClampNeg) = 0))) (xs (i + 3).toNatClampNeg) (r, at2) e2) rfl rfl hH List.perm_append_comm List.perm_append_comm rfl rfl rfl hl.1 rfl (Nat.le_of_ble_eq_true rfl) rfl dL_law_497 (fun H locs _ hH => ?_)
  have hH : Hp E (AA s) (wS E ad L tr Sn iS P R B Y Z T N lr ld ++ wM E adm lr ld rn dn w u sr mind chg fi iS at2 line2 ll text2 (nI tn) nx nums so dd) s.heap H locs := hH
  refine lv_icmp_eq (tgt := 1329) hx hb dL_law_500 (by decide) (fun _ => ?_) (fun q => absurd rfl q)
  exact kk _ _ _ _ _ _ _ _ _ _ _ _ _ _ _ _ _ _ _ _ _ _ _ _ _ _ _ _ _ _ ⟨hST, hPA, hSv, hT1, hT2, hLI⟩ H locs hH ls (lv_sub hl [0, 1, 2, 3] rfl)
set_option maxHeartbeats 4000000 in
set_option maxRecDepth 100000 in
theorem law_rankAgain (hC : Cx p s m #[Value.ref b] c cL_law 8 RL E) (hcs : cells + 0 ≤ room_1.cells ∧ slots + 0 ≤ room_1.slots) (hX : va_X b Ln xs s s.heap) (hbl : b < s.heap.size) (hSC : SC G (AA s) s s.heap) (h1 : vp_in (i + 1) Ln) (h2 : vp_in (i + 2) Ln) (h3 : vp_in (i + 3) Ln) (hR : Rl L Sn iS P R B T N w u sr chg fi line2 ll text2 tn) (kk : KC p l e s m below meth c E b ad adm cells slots Q i) (hH : Hp E (AA s) (wS E ad L tr Sn iS P R B Y Z T N lr ld ++ wM E adm lr ld rn dn w u sr mind chg fi iS at_ line2 ll text2 (nI tn) nx nums so dd) s.heap H locs) (hl : lv_has ls 8 [(0, .ref b), (1, .ref (ad 0)), (2, .ref (adm 0)), (3, .int i)]) : W p l e room_1 s m #[Value.ref b] below meth c H locs cells slots Q (F0 m 505 ls []) := by
  have hx := hC.1
  have hb := hC.2.1
  have hbA : ¬ AA s b := Nat.not_le.mpr hbl
  obtain ⟨hST, hPA, hSv, hT1, hT2, hLI⟩ := hR
  obtain ⟨r, at2, e1, e2⟩ := st_rankAgain hST (xs (i + 1).toNatClampNeg) (decide (¬ (xs (i + 2).toNatClampNeg) = 0)) (xs (i + 3).toNatClampNeg) at_
  refine lv_aload_n hx hb dL_law_505 rfl (lv_at hl 1 rfl) ?_
  refine lv_aload_n hx hb dL_law_506 rfl (lv_at hl 0 rfl) ?_
  refine lv_iload_n hx hb dL_law_507 rfl (lv_at hl 3 rfl) ?_
  refine lv_iconst (v := 1) hx hb dL_law_508 (by decide) ?_
  refine lv_iadd hx hb dL_law_509 ?_
  refine va_sld hx hb hX hbl hbA hH.2.2 h1 dL_law_510 ?_
  refine lv_aload_n hx hb dL_law_511 rfl (lv_at hl 0 rfl) ?_
  refine lv_iload_n hx hb dL_law_512 rfl (lv_at hl 3 rfl) ?_
  refine lv_iconst (v := 2) hx hb dL_law_513 (by decide) ?_
  refine lv_iadd hx hb dL_law_514 ?_
  refine va_sld hx hb hX hbl hbA hH.2.2 h2 dL_law_515 ?_
  refine law_bool (pc := 516) hx hb dL_law_516 dL_law_519 dL_law_520 dL_law_523 ?_
  refine lv_aload_n hx hb dL_law_524 rfl (lv_at hl 0 rfl) ?_
  refine lv_iload_n hx hb dL_law_525 rfl (lv_at hl 3 rfl) ?_
  refine lv_iconst (v := 3) hx hb dL_law_526 (by decide) ?_
  refine lv_iadd hx hb dL_law_527 ?_
  refine va_sld hx hb hX hbl hbA hH.2.2 h3 dL_law_528 ?_
  refine k_PVi hC LL_58 ⟨Nat.le_of_ble_eq_true rfl, Nat.le_of_ble_eq_true rfl⟩ hcs (cS_rankAgain l E ad L tr Sn iS P R B Y Z T N lr ld (xs (i + 1).toNatClampNeg) (bI (decide (¬ (xs (i + 2).toNatClampNeg) = 0))) (xs (i + 3).toNatClampNeg) r e1) rfl rfl (vP_perm hH.1 (List.Perm.refl _)) rfl rfl hl.1 rfl (Nat.le_of_ble_eq_true rfl) rfl dL_law_529 (fun _ => ?_)
  refine lv_aload_n hx hb dL_law_532 rfl (lv_at hl 2 rfl) ?_
  refine lv_aload_n hx hb dL_law_533 rfl (lv_at hl 0 rfl) ?_
  refine lv_iload_n hx hb dL_law_534 rfl (lv_at hl 3 rfl) ?_
  refine lv_iconst (v := 1) hx hb dL_law_535 (by decide) ?_
  refine lv_iadd hx hb dL_law_536 ?_
  refine va_sld hx hb hX hbl hbA hH.2.2 h1 dL_law_537 ?_
  refine lv_aload_n hx hb dL_law_538 rfl (lv_at hl 0 rfl) ?_
  refine lv_iload_n hx hb dL_law_539 rfl (lv_at hl 3 rfl) ?_
  refine lv_iconst (v := 2) hx hb dL_law_540 (by decide) ?_
  refine lv_iadd hx hb dL_law_541 ?_
  refine va_sld hx hb hX hbl hbA hH.2.2 h2 dL_law_542 ?_
  refine law_bool (pc := 543) hx hb dL_law_543 dL_law_546 dL_law_547 dL_law_550 ?_
  refine lv_aload_n hx hb dL_law_551 rfl (lv_at hl 0 rfl) ?_
  refine lv_iload_n hx hb dL_law_552 rfl (lv_at hl 3 rfl) ?_
  refine lv_iconst (v := 3) hx hb dL_law_553 (by decide) ?_
  refine lv_iadd hx hb dL_law_554 ?_
  refine va_sld hx hb hX hbl hbA hH.2.2 h3 dL_law_555 ?_
  refine k_WVpi hC LL_61 ⟨Nat.le_of_ble_eq_true rfl, Nat.le_of_ble_eq_true rfl⟩ hcs (cM_rankAgain l E adm lr ld rn dn w u sr mind chg fi iS at_ line2 ll text2 (nI tn) nx nums so dd (xs (i + 1).toNatClampNeg) (bI (decide (¬ (xs (i + 2).toNatClampNeg) = 0))) (xs (i + 3).toNatClampNeg) (r, at2) e2) rfl rfl hH List.perm_append_comm List.perm_append_comm rfl rfl rfl hl.1 rfl (Nat.le_of_ble_eq_true rfl) rfl dL_law_556 (fun H locs _ hH => ?_)
  have hH : Hp E (AA s) (wS E ad L tr Sn iS P R B Y Z T N lr ld ++ wM E adm lr ld rn dn w u sr mind chg fi iS at2 line2 ll text2 (nI tn) nx nums so dd) s.heap H locs := hH
  refine lv_icmp_eq (tgt := 1329) hx hb dL_law_559 (by decide) (fun _ => ?_) (fun q => absurd rfl q)
  exact kk _ _ _ _ _ _ _ _ _ _ _ _ _ _ _ _ _ _ _ _ _ _ _ _ _ _ _ _ _ _ ⟨hST, hPA, hSv, hT1, hT2, hLI⟩ H locs hH ls (lv_sub hl [0, 1, 2, 3] rfl)
set_option maxHeartbeats 4000000 in
set_option maxRecDepth 100000 in
theorem law_select (hC : Cx p s m #[Value.ref b] c cL_law 8 RL E) (hcs : cells + 0 ≤ room_1.cells ∧ slots + 0 ≤ room_1.slots) (hX : va_X b Ln xs s s.heap) (hbl : b < s.heap.size) (hSC : SC G (AA s) s s.heap) (h1 : vp_in (i + 1) Ln) (h2 : vp_in (i + 2) Ln) (h3 : vp_in (i + 3) Ln) (hR : Rl L Sn iS P R B T N w u sr chg fi line2 ll text2 tn) (kk : KC p l e s m below meth c E b ad adm cells slots Q i) (hH : Hp E (AA s) (wS E ad L tr Sn iS P R B Y Z T N lr ld ++ wM E adm lr ld rn dn w u sr mind chg fi iS at_ line2 ll text2 (nI tn) nx nums so dd) s.heap H locs) (hl : lv_has ls 8 [(0, .ref b), (1, .ref (ad 0)), (2, .ref (adm 0)), (3, .int i)]) : W p l e room_1 s m #[Value.ref b] below meth c H locs cells slots Q (F0 m 564 ls []) := by
  have hx := hC.1
  have hb := hC.2.1
  have hbA : ¬ AA s b := Nat.not_le.mpr hbl
  obtain ⟨hST, hPA, hSv, hT1, hT2, hLI⟩ := hR
  obtain ⟨r, at2, e1, e2⟩ := st_select hST (xs (i + 1).toNatClampNeg) (decide (¬ (xs (i + 2).toNatClampNeg) = 0)) (xs (i + 3).toNatClampNeg) at_
  refine lv_aload_n hx hb dL_law_564 rfl (lv_at hl 1 rfl) ?_
  refine lv_aload_n hx hb dL_law_565 rfl (lv_at hl 0 rfl) ?_
  refine lv_iload_n hx hb dL_law_566 rfl (lv_at hl 3 rfl) ?_
  refine lv_iconst (v := 1) hx hb dL_law_567 (by decide) ?_
  refine lv_iadd hx hb dL_law_568 ?_
  refine va_sld hx hb hX hbl hbA hH.2.2 h1 dL_law_569 ?_
  refine lv_aload_n hx hb dL_law_570 rfl (lv_at hl 0 rfl) ?_
  refine lv_iload_n hx hb dL_law_571 rfl (lv_at hl 3 rfl) ?_
  refine lv_iconst (v := 2) hx hb dL_law_572 (by decide) ?_
  refine lv_iadd hx hb dL_law_573 ?_
  refine va_sld hx hb hX hbl hbA hH.2.2 h2 dL_law_574 ?_
  refine law_bool (pc := 575) hx hb dL_law_575 dL_law_578 dL_law_579 dL_law_582 ?_
  refine lv_aload_n hx hb dL_law_583 rfl (lv_at hl 0 rfl) ?_
  refine lv_iload_n hx hb dL_law_584 rfl (lv_at hl 3 rfl) ?_
  refine lv_iconst (v := 3) hx hb dL_law_585 (by decide) ?_
  refine lv_iadd hx hb dL_law_586 ?_
  refine va_sld hx hb hX hbl hbA hH.2.2 h3 dL_law_587 ?_
  refine k_PVi hC LL_62 ⟨Nat.le_of_ble_eq_true rfl, Nat.le_of_ble_eq_true rfl⟩ hcs (cS_select l E ad L tr Sn iS P R B Y Z T N lr ld (xs (i + 1).toNatClampNeg) (bI (decide (¬ (xs (i + 2).toNatClampNeg) = 0))) (xs (i + 3).toNatClampNeg) r e1) rfl rfl (vP_perm hH.1 (List.Perm.refl _)) rfl rfl hl.1 rfl (Nat.le_of_ble_eq_true rfl) rfl dL_law_588 (fun _ => ?_)
  refine lv_aload_n hx hb dL_law_591 rfl (lv_at hl 2 rfl) ?_
  refine lv_aload_n hx hb dL_law_592 rfl (lv_at hl 0 rfl) ?_
  refine lv_iload_n hx hb dL_law_593 rfl (lv_at hl 3 rfl) ?_
  refine lv_iconst (v := 1) hx hb dL_law_594 (by decide) ?_
  refine lv_iadd hx hb dL_law_595 ?_
  refine va_sld hx hb hX hbl hbA hH.2.2 h1 dL_law_596 ?_
  refine lv_aload_n hx hb dL_law_597 rfl (lv_at hl 0 rfl) ?_
  refine lv_iload_n hx hb dL_law_598 rfl (lv_at hl 3 rfl) ?_
  refine lv_iconst (v := 2) hx hb dL_law_599 (by decide) ?_
  refine lv_iadd hx hb dL_law_600 ?_
  refine va_sld hx hb hX hbl hbA hH.2.2 h2 dL_law_601 ?_
  refine law_bool (pc := 602) hx hb dL_law_602 dL_law_605 dL_law_606 dL_law_609 ?_
  refine lv_aload_n hx hb dL_law_610 rfl (lv_at hl 0 rfl) ?_
  refine lv_iload_n hx hb dL_law_611 rfl (lv_at hl 3 rfl) ?_
  refine lv_iconst (v := 3) hx hb dL_law_612 (by decide) ?_
  refine lv_iadd hx hb dL_law_613 ?_
  refine va_sld hx hb hX hbl hbA hH.2.2 h3 dL_law_614 ?_
  refine k_WVpi hC LL_65 ⟨Nat.le_of_ble_eq_true rfl, Nat.le_of_ble_eq_true rfl⟩ hcs (cM_select l E adm lr ld rn dn w u sr mind chg fi iS at_ line2 ll text2 (nI tn) nx nums so dd (xs (i + 1).toNatClampNeg) (bI (decide (¬ (xs (i + 2).toNatClampNeg) = 0))) (xs (i + 3).toNatClampNeg) (r, at2) e2) rfl rfl hH List.perm_append_comm List.perm_append_comm rfl rfl rfl hl.1 rfl (Nat.le_of_ble_eq_true rfl) rfl dL_law_615 (fun H locs _ hH => ?_)
  have hH : Hp E (AA s) (wS E ad L tr Sn iS P R B Y Z T N lr ld ++ wM E adm lr ld rn dn w u sr mind chg fi iS at2 line2 ll text2 (nI tn) nx nums so dd) s.heap H locs := hH
  refine lv_icmp_eq (tgt := 1329) hx hb dL_law_618 (by decide) (fun _ => ?_) (fun q => absurd rfl q)
  exact kk _ _ _ _ _ _ _ _ _ _ _ _ _ _ _ _ _ _ _ _ _ _ _ _ _ _ _ _ _ _ ⟨hST, hPA, hSv, hT1, hT2, hLI⟩ H locs hH ls (lv_sub hl [0, 1, 2, 3] rfl)
end LAW
