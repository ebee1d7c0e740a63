section LAW
variable {p : Program} {l : Launch} {e : Env} {s : State} {m : MethodId} {below : List Frame} {meth : Method} {c : Code} {E : eE} {G : eG} {b Ln : Nat} {xs : Nat → Int32} {ad adm : Nat → Nat} {cells slots : Nat} {Q : State → Prop} {i : Int32} {H : Heap} {locs : List Loc} {ls : Array Slot}
variable {L : TL} {tr : TL} {Sn : TL} {iS : Int32} {P : TP} {R : TR} {B : TB} {Y : TY} {Z : TZ} {T : TT} {N : TN} {lr : Int32} {ld : Int32} {rn : Int32} {dn : Int32} {w : Nat → Int32} {u : Nat → Int32} {sr : Nat → Int32} {mind : Nat → Int32} {chg : Int32} {fi : Int32} {at_ : Nat → Int32} {line2 : Nat → Int32} {ll : Int32} {text2 : Nat → Int32} {tn : Nat} {nx : Int32} {nums : Nat → Int32} {so : Int32} {dd : Int32}
set_option maxHeartbeats 4000000 in
set_option maxRecDepth 100000 in
theorem law_head (hC : Cx p s m #[Value.ref b] c cL_law 8 RL E) (hr : meth.sig.returnType = ret) (hlocks : meth.locks = false) (hcs : cells + 0 ≤ room_1.cells ∧ slots + 0 ≤ room_1.slots) (hX : va_X b Ln xs s s.heap) (hbl : b < s.heap.size) (hSC : SC G (AA s) s s.heap) (hLn : Ln ≤ 2048) {iN : Nat} (hi : iN ≤ Ln + 4) (hnext : iN + 4 ≤ Ln → KC p l e s m below meth c E b ad adm cells slots (lw_Z below #[Value.ref b] s) (nI iN)) : Rl L Sn iS P R B T N w u sr chg fi line2 ll text2 tn → Hp E (AA s) (wS E ad L tr Sn iS P R B Y Z T N lr ld ++ wM E adm lr ld rn dn w u sr mind chg fi iS at_ line2 ll text2 (nI tn) nx nums so dd) s.heap H locs → lv_has ls 8 [(0, .ref b), (1, .ref (ad 0)), (2, .ref (adm 0)), (3, .int (nI iN))] → W p l e room_1 s m #[Value.ref b] below meth c H locs cells slots (lw_Z below #[Value.ref b] s) (F0 m 18 ls []) := by
  intro hR hH hl
  have hx := hC.1
  have hb := hC.2.1
  have hbA : ¬ AA s b := Nat.not_le.mpr hbl
  refine lv_iload_n hx hb dL_law_18 rfl (lv_at hl 3 rfl) ?_
  refine lv_aload_n hx hb dL_law_19 rfl (lv_at hl 0 rfl) ?_
  refine va_slen hx hb hX hbl hbA hH.2.2 dL_law_20 ?_
  refine lv_iconst (v := 4) hx hb dL_law_21 (by decide) ?_
  refine lv_isub hx hb dL_law_22 ?_
  refine lv_icmp_gt (tgt := 1335) hx hb dL_law_23 (by decide) (fun _ => ?_) (fun hle => ?_)
  · refine lv_iconst (v := 1) hx hb dL_law_1335 (by decide) ?_
    refine va_forget (fun q hq => hH.2.2.2.2 q hq) ?_
    refine W.widen (k := 600000) (n := 7302250) (show cells ≤ 600000 from hcs.1) (show slots ≤ 7302250 from hcs.2) ?_
    refine W.base ?_
    exact lw_ret (Drawn.sameBut.refl s.drawn lw_cs) hx hb hr hlocks dL_law_1336
  · have h4 : iN + 4 ≤ Ln := by
      rcases Nat.lt_or_ge Ln (iN + 4) with z | z
      · refine absurd ?_ hle
        show nI Ln - nI 4 < nI iN
        rw [Int32.lt_iff_toInt_lt, pk_sub_toInt (by omega) (by omega), nI_toInt (by omega)]
        omega
      · exact z
    have h0 : vp_in (nI iN) Ln := vp_in_nI (by omega) (by omega)
    have h1 : vp_in (nI iN + 1) Ln := by
      show vp_in (nI iN + nI 1) Ln
      rw [nI_add]
      exact vp_in_nI (by omega) (by omega)
    have h2 : vp_in (nI iN + 2) Ln := by
      show vp_in (nI iN + nI 2) Ln
      rw [nI_add]
      exact vp_in_nI (by omega) (by omega)
    have h3 : vp_in (nI iN + 3) Ln := by
      show vp_in (nI iN + nI 3) Ln
      rw [nI_add]
      exact vp_in_nI (by omega) (by omega)
    have kk := hnext h4
    refine lv_aload_n hx hb dL_law_26 rfl (lv_at hl 0 rfl) ?_
    refine lv_iload_n hx hb dL_law_27 rfl (lv_at hl 3 rfl) ?_
    refine va_sld hx hb hX hbl hbA hH.2.2 h0 dL_law_28 ?_
    refine lv_bipush (v := 63) hx hb dL_law_29 (by decide) ?_
    refine lv_iand hx hb dL_law_31 ?_
    obtain ⟨j, hj, ej⟩ := pk_andE (xs (nI iN).toNatClampNeg) (m := (63 : Int32)) 6 (by decide)
    rw [ej]
    rcases Nat.lt_or_ge j 36 with hj2 | hj2
    · have hjj : j = 0 ∨ j = 1 ∨ j = 2 ∨ j = 3 ∨ j = 4 ∨ j = 5 ∨ j = 6 ∨ j = 7 ∨ j = 8 ∨ j = 9 ∨ j = 10 ∨ j = 11 ∨ j = 12 ∨ j = 13 ∨ j = 14 ∨ j = 15 ∨ j = 16 ∨ j = 17 ∨ j = 18 ∨ j = 19 ∨ j = 20 ∨ j = 21 ∨ j = 22 ∨ j = 23 ∨ j = 24 ∨ j = 25 ∨ j = 26 ∨ j = 27 ∨ j = 28 ∨ j = 29 ∨ j = 30 ∨ j = 31 ∨ j = 32 ∨ j = 33 ∨ j = 34 ∨ j = 35 := by omega
      rcases hjj with rfl | rfl | rfl | rfl | rfl | rfl | rfl | rfl | rfl | rfl | rfl | rfl | rfl | rfl | rfl | rfl | rfl | rfl | rfl | rfl | rfl | rfl | rfl | rfl | rfl | rfl | rfl | rfl | rfl | rfl | rfl | rfl | rfl | rfl | rfl | rfl
      · refine lv_tableIn (off := 160) (tgt := 192) hx hb dL_law_32 (by decide +kernel) (by decide +kernel) (by decide +kernel) (by decide) ?_
        exact law_put hC hcs hX hbl hSC h1 h2 h3 hR kk hH hl
      · refine lv_tableIn (off := 183) (tgt := 215) hx hb dL_law_32 (by decide +kernel) (by decide +kernel) (by decide +kernel) (by decide) ?_
        exact law_insert hC hcs hX hbl hSC h1 h2 h3 hR kk hH hl
      · refine lv_tableIn (off := 216) (tgt := 248) hx hb dL_law_32 (by decide +kernel) (by decide +kernel) (by decide +kernel) (by decide) ?_
        exact law_take hC hcs hX hbl hSC h1 h2 h3 hR kk hH hl
      · refine lv_tableIn (off := 239) (tgt := 271) hx hb dL_law_32 (by decide +kernel) (by decide +kernel) (by decide +kernel) (by decide) ?_
        exact law_swap hC hcs hX hbl hSC h1 h2 h3 hR kk hH hl
      · refine lv_tableIn (off := 262) (tgt := 294) hx hb dL_law_32 (by decide +kernel) (by decide +kernel) (by decide +kernel) (by decide) ?_
        exact law_mark hC hcs hX hbl hSC h1 h2 h3 hR kk hH hl
      · refine lv_tableIn (off := 311) (tgt := 343) hx hb dL_law_32 (by decide +kernel) (by decide +kernel) (by decide +kernel) (by decide) ?_
        exact law_weight hC hcs hX hbl hSC h1 h2 h3 hR kk hH hl
      · refine lv_tableIn (off := 334) (tgt := 366) hx hb dL_law_32 (by decide +kernel) (by decide +kernel) (by decide +kernel) (by decide) ?_
        exact law_weightAgain hC hcs hX hbl hSC h1 h2 h3 hR kk hH hl
      · refine lv_tableIn (off := 357) (tgt := 389) hx hb dL_law_32 (by decide +kernel) (by decide +kernel) (by decide +kernel) (by decide) ?_
        exact law_bit hC hcs hX hbl hSC h1 h2 h3 hR kk hH hl
      · refine lv_tableIn (off := 390) (tgt := 422) hx hb dL_law_32 (by decide +kernel) (by decide +kernel) (by decide +kernel) (by decide) ?_
        exact law_bits hC hcs hX hbl hSC h1 h2 h3 hR kk hH hl
      · refine lv_tableIn (off := 414) (tgt := 446) hx hb dL_law_32 (by decide +kernel) (by decide +kernel) (by decide +kernel) (by decide) ?_
        exact law_rank hC hcs hX hbl hSC h1 h2 h3 hR kk hH hl
      · refine lv_tableIn (off := 473) (tgt := 505) hx hb dL_law_32 (by decide +kernel) (by decide +kernel) (by decide +kernel) (by decide) ?_
        exact law_rankAgain hC hcs hX hbl hSC h1 h2 h3 hR kk hH hl
      · refine lv_tableIn (off := 532) (tgt := 564) hx hb dL_law_32 (by decide +kernel) (by decide +kernel) (by decide +kernel) (by decide) ?_
        exact law_select hC hcs hX hbl hSC h1 h2 h3 hR kk hH hl
      · refine lv_tableIn (off := 591) (tgt := 623) hx hb dL_law_32 (by decide +kernel) (by decide +kernel) (by decide +kernel) (by decide) ?_
        exact law_placeIn hC hcs hX hbl hSC h1 h2 h3 hR kk hH hl
      · refine lv_tableIn (off := 624) (tgt := 656) hx hb dL_law_32 (by decide +kernel) (by decide +kernel) (by decide +kernel) (by decide) ?_
        exact law_quantile hC hcs hX hbl hSC h1 h2 h3 hR kk hH hl
      · refine lv_tableIn (off := 667) (tgt := 699) hx hb dL_law_32 (by decide +kernel) (by decide +kernel) (by decide +kernel) (by decide) ?_
        exact law_quantileAgain hC hcs hX hbl hSC h1 h2 h3 hR kk hH hl
      · refine lv_tableIn (off := 710) (tgt := 742) hx hb dL_law_32 (by decide +kernel) (by decide +kernel) (by decide +kernel) (by decide) ?_
        exact law_count hC hcs hX hbl hSC h1 h2 h3 hR kk hH hl
      · refine lv_tableIn (off := 753) (tgt := 785) hx hb dL_law_32 (by decide +kernel) (by decide +kernel) (by decide +kernel) (by decide) ?_
        exact law_lighter hC hcs hX hbl hSC h1 h2 h3 hR kk hH hl
      · refine lv_tableIn (off := 796) (tgt := 828) hx hb dL_law_32 (by decide +kernel) (by decide +kernel) (by decide +kernel) (by decide) ?_
        exact law_atLeast hC hcs hX hbl hSC h1 h2 h3 hR kk hH hl
      · refine lv_tableIn (off := 839) (tgt := 871) hx hb dL_law_32 (by decide +kernel) (by decide +kernel) (by decide +kernel) (by decide) ?_
        exact law_find hC hcs hX hbl hSC h1 h2 h3 hR kk hH hl
      · refine lv_tableIn (off := 872) (tgt := 904) hx hb dL_law_32 (by decide +kernel) (by decide +kernel) (by decide +kernel) (by decide) ?_
        exact law_common hC hcs hX hbl hSC h1 h2 h3 hR kk hH hl
      · refine lv_tableIn (off := 915) (tgt := 947) hx hb dL_law_32 (by decide +kernel) (by decide +kernel) (by decide +kernel) (by decide) ?_
        exact law_bagOf hC hcs hX hbl hSC h1 h2 h3 hR kk hH hl
      · refine lv_tableIn (off := 948) (tgt := 980) hx hb dL_law_32 (by decide +kernel) (by decide +kernel) (by decide +kernel) (by decide) ?_
        exact law_bagAt hC hcs hX hbl hSC h1 h2 h3 hR kk hH hl
      · refine lv_tableIn (off := 971) (tgt := 1003) hx hb dL_law_32 (by decide +kernel) (by decide +kernel) (by decide +kernel) (by decide) ?_
        exact law_ranked hC hcs hX hbl hSC h1 h2 h3 hR kk hH hl
      · refine lv_tableIn (off := 994) (tgt := 1026) hx hb dL_law_32 (by decide +kernel) (by decide +kernel) (by decide +kernel) (by decide) ?_
        exact law_append hC hcs hX hbl hSC h1 h2 h3 hR kk hH hl
      · refine lv_tableIn (off := 1017) (tgt := 1049) hx hb dL_law_32 (by decide +kernel) (by decide +kernel) (by decide +kernel) (by decide) ?_
        exact law_run hC hcs hX hbl hSC h1 h2 h3 hR kk hH hl
      · refine lv_tableIn (off := 1030) (tgt := 1062) hx hb dL_law_32 (by decide +kernel) (by decide +kernel) (by decide +kernel) (by decide) ?_
        exact law_tell hC hcs hX hbl hSC h1 h2 h3 hR kk hH hl
      · refine lv_tableIn (off := 1043) (tgt := 1075) hx hb dL_law_32 (by decide +kernel) (by decide +kernel) (by decide +kernel) (by decide) ?_
        exact law_tellRow hC hcs hX hbl hSC h1 h2 h3 hR kk hH hl
      · refine lv_tableIn (off := 1066) (tgt := 1098) hx hb dL_law_32 (by decide +kernel) (by decide +kernel) (by decide +kernel) (by decide) ?_
        exact law_character hC hcs hX hbl hSC h1 h2 h3 hR kk hH hl
      · refine lv_tableIn (off := 1089) (tgt := 1121) hx hb dL_law_32 (by decide +kernel) (by decide +kernel) (by decide +kernel) (by decide) ?_
        exact law_reason hC hcs hX hbl hSC h1 h2 h3 hR kk hH hl
      · refine lv_tableIn (off := 1128) (tgt := 1160) hx hb dL_law_32 (by decide +kernel) (by decide +kernel) (by decide +kernel) (by decide) ?_
        exact law_account hC hcs hX hbl hSC h1 h2 h3 hR kk hH hl
      · refine lv_tableIn (off := 1151) (tgt := 1183) hx hb dL_law_32 (by decide +kernel) (by decide +kernel) (by decide +kernel) (by decide) ?_
        exact law_isBalanced hC hcs hX hbl hSC h1 h2 h3 hR kk hH hl
      · refine lv_tableIn (off := 1164) (tgt := 1196) hx hb dL_law_32 (by decide +kernel) (by decide +kernel) (by decide +kernel) (by decide) ?_
        exact law_meanWeight hC hcs hX hbl hSC h1 h2 h3 hR kk hH hl
      · refine lv_tableIn (off := 1205) (tgt := 1237) hx hb dL_law_32 (by decide +kernel) (by decide +kernel) (by decide +kernel) (by decide) ?_
        exact law_oneShare hC hcs hX hbl hSC h1 h2 h3 hR kk hH hl
      · refine lv_tableIn (off := 1258) (tgt := 1290) hx hb dL_law_32 (by decide +kernel) (by decide +kernel) (by decide +kernel) (by decide) ?_
        exact law_undo hC hcs hX hbl hSC h1 h2 h3 hR kk hH hl
      · refine lv_tableIn (off := 1271) (tgt := 1303) hx hb dL_law_32 (by decide +kernel) (by decide +kernel) (by decide +kernel) (by decide) ?_
        exact law_save hC hcs hX hbl hSC h1 h2 h3 hR kk hH hl
      · refine lv_tableIn (off := 1284) (tgt := 1316) hx hb dL_law_32 (by decide +kernel) (by decide +kernel) (by decide +kernel) (by decide) ?_
        exact law_restore hC hcs hX hbl hSC h1 h2 h3 hR kk hH hl
    · refine lv_tableOut (tgt := 1329) hx hb dL_law_32 (Or.inr (by rw [nI_toInt (by omega)]; omega)) (by decide) ?_
      exact kk _ _ _ _ _ _ _ _ _ _ _ _ _ _ _ _ _ _ _ _ _ _ _ _ _ _ _ _ _ _ hR H locs hH ls hl
set_option maxHeartbeats 4000000 in
set_option maxRecDepth 100000 in
theorem law_loop (hC : Cx p s m #[Value.ref b] c cL_law 8 RL E) (hr : meth.sig.returnType = ret) (hlocks : meth.locks = false) (hcs : cells + 0 ≤ room_1.cells ∧ slots + 0 ≤ room_1.slots) (hX : va_X b Ln xs s s.heap) (hbl : b < s.heap.size) (hSC : SC G (AA s) s s.heap) (hLn : Ln ≤ 2048) : ∀ (n iN : Nat), iN ≤ Ln + 4 → Ln ≤ iN + n → ∀ (L : TL) (tr : TL) (Sn : TL) (iS : Int32) (P : TP) (R : TR) (B : TB) (Y : TY) (Z : TZ) (T : TT) (N : TN) (lr : Int32) (ld : Int32) (rn : Int32) (dn : Int32) (w : Nat → Int32) (u : Nat → Int32) (sr : Nat → Int32) (mind : Nat → Int32) (chg : Int32) (fi : Int32) (at_ : Nat → Int32) (line2 : Nat → Int32) (ll : Int32) (text2 : Nat → Int32) (tn : Nat) (nx : Int32) (nums : Nat → Int32) (so : Int32) (dd : Int32) (H : Heap) (locs : List Loc) (ls : Array Slot), Rl L Sn iS P R B T N w u sr chg fi line2 ll text2 tn → Hp E (AA s) (wS E ad L tr Sn iS P R B Y Z T N lr ld ++ wM E adm lr ld rn dn w u sr mind chg fi iS at_ line2 ll text2 (nI tn) nx nums so dd) s.heap H locs → lv_has ls 8 [(0, .ref b), (1, .ref (ad 0)), (2, .ref (adm 0)), (3, .int (nI iN))] → W p l e room_1 s m #[Value.ref b] below meth c H locs cells slots (lw_Z below #[Value.ref b] s) (F0 m 18 ls []) := by
  have hx := hC.1
  have hb := hC.2.1
  intro n
  induction n with
  | zero =>
    intro iN h1 h2 L tr Sn iS P R B Y Z T N lr ld rn dn w u sr mind chg fi at_ line2 ll text2 tn nx nums so dd H locs ls hR hH hl
    exact law_head hC hr hlocks hcs hX hbl hSC hLn h1 (fun h => absurd h (by omega)) hR hH hl
  | succ n ih =>
    intro iN h1 h2 L tr Sn iS P R B Y Z T N lr ld rn dn w u sr mind chg fi at_ line2 ll text2 tn nx nums so dd H locs ls hR hH hl
    refine law_head hC hr hlocks hcs hX hbl hSC hLn h1 (fun h => ?_) hR hH hl
    intro L tr Sn iS P R B Y Z T N lr ld rn dn w u sr mind chg fi at_ line2 ll text2 tn nx nums so dd hR H locs hH ls hl
    refine lv_iinc (v := nI (iN + 4)) (lv' := [(3, .int (nI (iN + 4))), (0, .ref b), (1, .ref (ad 0)), (2, .ref (adm 0))]) hx hb dL_law_1329 hl (k := 3) rfl (by rw [← nI_add]; rfl) (by decide) rfl (fun ls hl => ?_)
    refine lv_goto (tgt := 18) hx hb dL_law_1332 (by decide) ?_
    exact ih (iN + 4) (by omega) (by omega) _ _ _ _ _ _ _ _ _ _ _ _ _ _ _ _ _ _ _ _ _ _ _ _ _ _ _ _ _ _ H locs ls hR hH (lv_sub hl [1, 2, 3, 0] rfl)
end LAW
