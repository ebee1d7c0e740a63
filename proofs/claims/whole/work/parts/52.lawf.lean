section LAW
variable {p : Program} {l : Launch} {e : Env} {s : State} {m : MethodId} {below : List Frame} {meth : Method} {c : Code} {E : eE} {G : eG} {b Ln : Nat} {xs : Nat → Int32} {ad adm : Nat → Nat} {cells slots : Nat} {Q : State → Prop} {i : Int32} {H : Heap} {locs : List Loc} {ls : Array Slot}
variable {L : TL} {tr : TL} {Sn : TL} {iS : Int32} {P : TP} {R : TR} {B : TB} {Y : TY} {Z : TZ} {T : TT} {N : TN} {lr : Int32} {ld : Int32} {rn : Int32} {dn : Int32} {w : Nat → Int32} {u : Nat → Int32} {sr : Nat → Int32} {mind : Nat → Int32} {chg : Int32} {fi : Int32} {at_ : Nat → Int32} {line2 : Nat → Int32} {ll : Int32} {text2 : Nat → Int32} {tn : Nat} {nx : Int32} {nums : Nat → Int32} {so : Int32} {dd : Int32}
set_option maxHeartbeats 4000000 in
set_option maxRecDepth 100000 in
theorem law_meanWeight (hC : Cx p s m #[Value.ref b] c cL_law 8 RL E) (hcs : cells + 0 ≤ room_1.cells ∧ slots + 0 ≤ room_1.slots) (hX : va_X b Ln xs s s.heap) (hbl : b < s.heap.size) (hSC : SC G (AA s) s s.heap) (h1 : vp_in (i + 1) Ln) (h2 : vp_in (i + 2) Ln) (h3 : vp_in (i + 3) Ln) (hR : Rl L Sn iS P R B T N w u sr chg fi line2 ll text2 tn) (kk : KC p l e s m below meth c E b ad adm cells slots Q i) (hH : Hp E (AA s) (wS E ad L tr Sn iS P R B Y Z T N lr ld ++ wM E adm lr ld rn dn w u sr mind chg fi iS at_ line2 ll text2 (nI tn) nx nums so dd) s.heap H locs) (hl : lv_has ls 8 [(0, .ref b), (1, .ref (ad 0)), (2, .ref (adm 0)), (3, .int i)]) : W p l e room_1 s m #[Value.ref b] below meth c H locs cells slots Q (F0 m 1196 ls []) := by
  have hx := hC.1
  have hb := hC.2.1
  have hbA : ¬ AA s b := Nat.not_le.mpr hbl
  obtain ⟨hST, hPA, hSv, hT1, hT2, hLI⟩ := hR
  obtain ⟨r, e1, e2⟩ := st_meanWeight hST
  refine lv_aload_n hx hb dL_law_1196 rfl (lv_at hl 1 rfl) ?_
  refine k_PVd hC LL_145 ⟨Nat.le_of_ble_eq_true rfl, Nat.le_of_ble_eq_true rfl⟩ hcs (cS_meanWeight l E ad L tr Sn iS P R B Y Z T N lr ld  r e1) rfl rfl (vP_perm hH.1 (List.Perm.refl _)) rfl rfl hl.1 rfl (Nat.le_of_ble_eq_true rfl) rfl dL_law_1197 (fun _ => ?_)
  refine lv_dstore (lv' := [(4, .double r), (0, .ref b), (1, .ref (ad 0)), (2, .ref (adm 0)), (3, .int i)]) hx hb dL_law_1200 hl (by decide) rfl (fun ls hl => ?_)
  refine lv_aload_n hx hb dL_law_1202 rfl (lv_at hl 3 rfl) ?_
  refine k_PVd hC LL_149 ⟨Nat.le_of_ble_eq_true rfl, Nat.le_of_ble_eq_true rfl⟩ hcs (cM_meanWeight l E adm lr ld rn dn w u sr mind chg fi iS at_ line2 ll text2 (nI tn) nx nums so dd  r e2) rfl rfl (vP_perm hH.1 List.perm_append_comm) rfl rfl hl.1 rfl (Nat.le_of_ble_eq_true rfl) rfl dL_law_1203 (fun _ => ?_)
  refine lv_dstore (lv' := [(6, .double r), (4, .double r), (0, .ref b), (1, .ref (ad 0)), (2, .ref (adm 0)), (3, .int i)]) hx hb dL_law_1206 hl (by decide) rfl (fun ls hl => ?_)
  refine lv_dload hx hb dL_law_1208 (lv_at hl 1 rfl) ?_
  refine lv_dload hx hb dL_law_1210 (lv_at hl 0 rfl) ?_
  refine lv_dcmp hx hb dL_law_1212 ?_
  have hend : W p l e room_1 s m #[Value.ref b] below meth c H locs cells slots Q (F0 m 1234 ls []) := by
    refine lv_goto (tgt := 1329) hx hb dL_law_1234 (by decide) ?_
    exact kk _ _ _ _ _ _ _ _ _ _ _ _ _ _ _ _ _ _ _ _ _ _ _ _ _ _ _ _ _ _ ⟨hST, hPA, hSv, hT1, hT2, hLI⟩ H locs hH ls (lv_sub hl [2, 3, 4, 5] rfl)
  refine lv_if_eq (tgt := 1234) hx hb dL_law_1213 (by decide) (fun _ => hend) (fun q0 => ?_)
  refine lv_dload hx hb dL_law_1216 (lv_at hl 1 rfl) ?_
  refine lv_dload hx hb dL_law_1218 (lv_at hl 1 rfl) ?_
  refine lv_dcmp hx hb dL_law_1220 ?_
  refine lv_if_eq (tgt := 1232) hx hb dL_law_1221 (by decide) (fun q => absurd q q0) (fun _ => ?_)
  refine lv_dload hx hb dL_law_1224 (lv_at hl 0 rfl) ?_
  refine lv_dload hx hb dL_law_1226 (lv_at hl 0 rfl) ?_
  refine lv_dcmp hx hb dL_law_1228 ?_
  exact lv_if_ne (tgt := 1234) hx hb dL_law_1229 (by decide) (fun _ => hend) (fun q => absurd q q0)
set_option maxHeartbeats 4000000 in
set_option maxRecDepth 100000 in
theorem law_oneShare (hC : Cx p s m #[Value.ref b] c cL_law 8 RL E) (hcs : cells + 0 ≤ room_1.cells ∧ slots + 0 ≤ room_1.slots) (hX : va_X b Ln xs s s.heap) (hbl : b < s.heap.size) (hSC : SC G (AA s) s s.heap) (h1 : vp_in (i + 1) Ln) (h2 : vp_in (i + 2) Ln) (h3 : vp_in (i + 3) Ln) (hR : Rl L Sn iS P R B T N w u sr chg fi line2 ll text2 tn) (kk : KC p l e s m below meth c E b ad adm cells slots Q i) (hH : Hp E (AA s) (wS E ad L tr Sn iS P R B Y Z T N lr ld ++ wM E adm lr ld rn dn w u sr mind chg fi iS at_ line2 ll text2 (nI tn) nx nums so dd) s.heap H locs) (hl : lv_has ls 8 [(0, .ref b), (1, .ref (ad 0)), (2, .ref (adm 0)), (3, .int i)]) : W p l e room_1 s m #[Value.ref b] below meth c H locs cells slots Q (F0 m 1237 ls []) := by
  have hx := hC.1
  have hb := hC.2.1
  have hbA : ¬ AA s b := Nat.not_le.mpr hbl
  obtain ⟨hST, hPA, hSv, hT1, hT2, hLI⟩ := hR
  obtain ⟨r, at2, e1, e2, hfn⟩ := st_oneShare2 hST (xs (i + 1).toNatClampNeg) at_
  refine lv_aload_n hx hb dL_law_1237 rfl (lv_at hl 1 rfl) ?_
  refine lv_aload_n hx hb dL_law_1238 rfl (lv_at hl 0 rfl) ?_
  refine lv_iload_n hx hb dL_law_1239 rfl (lv_at hl 3 rfl) ?_
  refine lv_iconst (v := 1) hx hb dL_law_1240 (by decide) ?_
  refine lv_iadd hx hb dL_law_1241 ?_
  refine va_sld hx hb hX hbl hbA hH.2.2 h1 dL_law_1242 ?_
  refine k_PVf hC LL_150 ⟨Nat.le_of_ble_eq_true rfl, Nat.le_of_ble_eq_true rfl⟩ hcs (cS_oneShare l E ad L tr Sn iS P R B Y Z T N lr ld (xs (i + 1).toNatClampNeg) r e1) rfl rfl (vP_perm hH.1 (List.Perm.refl _)) rfl rfl hl.1 rfl (Nat.le_of_ble_eq_true rfl) rfl dL_law_1243 (fun _ => ?_)
  refine lv_f2d hx hb dL_law_1246 hfn ?_
  refine lv_dstore (lv' := [(4, .double (FP.f2d r)), (0, .ref b), (1, .ref (ad 0)), (2, .ref (adm 0)), (3, .int i)]) hx hb dL_law_1247 hl (by decide) rfl (fun ls hl => ?_)
  refine lv_aload_n hx hb dL_law_1249 rfl (lv_at hl 3 rfl) ?_
  refine lv_aload_n hx hb dL_law_1250 rfl (lv_at hl 1 rfl) ?_
  refine lv_iload_n hx hb dL_law_1251 rfl (lv_at hl 4 rfl) ?_
  refine lv_iconst (v := 1) hx hb dL_law_1252 (by decide) ?_
  refine lv_iadd hx hb dL_law_1253 ?_
  refine va_sld hx hb hX hbl hbA hH.2.2 h1 dL_law_1254 ?_
  refine k_WVpf hC LL_154 ⟨Nat.le_of_ble_eq_true rfl, Nat.le_of_ble_eq_true rfl⟩ hcs (cM_oneShare l E adm lr ld rn dn w u sr mind chg fi iS at_ line2 ll text2 (nI tn) nx nums so dd (xs (i + 1).toNatClampNeg) (r, at2) e2) rfl rfl hH List.perm_append_comm List.perm_append_comm rfl rfl rfl hl.1 rfl (Nat.le_of_ble_eq_true rfl) rfl dL_law_1255 (fun H locs _ hH => ?_)
  have hH : Hp E (AA s) (wS E ad L tr Sn iS P R B Y Z T N lr ld ++ wM E adm lr ld rn dn w u sr mind chg fi iS at2 line2 ll text2 (nI tn) nx nums so dd) s.heap H locs := hH
  refine lv_f2d hx hb dL_law_1258 hfn ?_
  refine lv_dstore (lv' := [(6, .double (FP.f2d r)), (4, .double (FP.f2d r)), (0, .ref b), (1, .ref (ad 0)), (2, .ref (adm 0)), (3, .int i)]) hx hb dL_law_1259 hl (by decide) rfl (fun ls hl => ?_)
  refine lv_dload hx hb dL_law_1261 (lv_at hl 1 rfl) ?_
  refine lv_dload hx hb dL_law_1263 (lv_at hl 0 rfl) ?_
  refine lv_dcmp hx hb dL_law_1265 ?_
  have hend : W p l e room_1 s m #[Value.ref b] below meth c H locs cells slots Q (F0 m 1287 ls []) := by
    refine lv_goto (tgt := 1329) hx hb dL_law_1287 (by decide) ?_
    exact kk _ _ _ _ _ _ _ _ _ _ _ _ _ _ _ _ _ _ _ _ _ _ _ _ _ _ _ _ _ _ ⟨hST, hPA, hSv, hT1, hT2, hLI⟩ H locs hH ls (lv_sub hl [2, 3, 4, 5] rfl)
  refine lv_if_eq (tgt := 1287) hx hb dL_law_1266 (by decide) (fun _ => hend) (fun q0 => ?_)
  refine lv_dload hx hb dL_law_1269 (lv_at hl 1 rfl) ?_
  refine lv_dload hx hb dL_law_1271 (lv_at hl 1 rfl) ?_
  refine lv_dcmp hx hb dL_law_1273 ?_
  refine lv_if_eq (tgt := 1285) hx hb dL_law_1274 (by decide) (fun q => absurd q q0) (fun _ => ?_)
  refine lv_dload hx hb dL_law_1277 (lv_at hl 0 rfl) ?_
  refine lv_dload hx hb dL_law_1279 (lv_at hl 0 rfl) ?_
  refine lv_dcmp hx hb dL_law_1281 ?_
  exact lv_if_ne (tgt := 1287) hx hb dL_law_1282 (by decide) (fun _ => hend) (fun q => absurd q q0)
set_option maxHeartbeats 4000000 in
set_option maxRecDepth 100000 in
theorem law_undo (hC : Cx p s m #[Value.ref b] c cL_law 8 RL E) (hcs : cells + 0 ≤ room_1.cells ∧ slots + 0 ≤ room_1.slots) (hX : va_X b Ln xs s s.heap) (hbl : b < s.heap.size) (hSC : SC G (AA s) s s.heap) (h1 : vp_in (i + 1) Ln) (h2 : vp_in (i + 2) Ln) (h3 : vp_in (i + 3) Ln) (hR : Rl L Sn iS P R B T N w u sr chg fi line2 ll text2 tn) (kk : KC p l e s m below meth c E b ad adm cells slots Q i) (hH : Hp E (AA s) (wS E ad L tr Sn iS P R B Y Z T N lr ld ++ wM E adm lr ld rn dn w u sr mind chg fi iS at_ line2 ll text2 (nI tn) nx nums so dd) s.heap H locs) (hl : lv_has ls 8 [(0, .ref b), (1, .ref (ad 0)), (2, .ref (adm 0)), (3, .int i)]) : W p l e room_1 s m #[Value.ref b] below meth c H locs cells slots Q (F0 m 1290 ls []) := by
  have hx := hC.1
  have hb := hC.2.1
  have hbA : ¬ AA s b := Nat.not_le.mpr hbl
  obtain ⟨hST, hPA, hSv, hT1, hT2, hLI⟩ := hR
  obtain ⟨r, L', P', R', B', w', chg', e1, e2, hST2, hPA2⟩ := st_undo hST hPA
  refine lv_aload_n hx hb dL_law_1290 rfl (lv_at hl 1 rfl) ?_
  refine k_WVpi hC LL_155 ⟨Nat.le_of_ble_eq_true rfl, Nat.le_of_ble_eq_true rfl⟩ hcs (cS_undo l E ad L tr Sn iS P R B Y Z T N lr ld  (r, L', P', R', B') e1) rfl rfl hH (List.Perm.refl _) (List.Perm.refl _) rfl rfl rfl hl.1 rfl (Nat.le_of_ble_eq_true rfl) rfl dL_law_1291 (fun H locs _ hH => ?_)
  have hH : Hp E (AA s) (wS E ad L' tr Sn iS P' R' B' Y Z T N lr ld ++ wM E adm lr ld rn dn w u sr mind chg fi iS at_ line2 ll text2 (nI tn) nx nums so dd) s.heap H locs := hH
  refine lv_aload_n hx hb dL_law_1294 rfl (lv_at hl 2 rfl) ?_
  refine k_WVpi hC LL_158 ⟨Nat.le_of_ble_eq_true rfl, Nat.le_of_ble_eq_true rfl⟩ hcs (cM_undo l E adm lr ld rn dn w u sr mind chg fi iS at_ line2 ll text2 (nI tn) nx nums so dd  (r, w', chg') e2) rfl rfl hH List.perm_append_comm List.perm_append_comm rfl rfl rfl hl.1 rfl (Nat.le_of_ble_eq_true rfl) rfl dL_law_1295 (fun H locs _ hH => ?_)
  have hH : Hp E (AA s) (wS E ad L' tr Sn iS P' R' B' Y Z T N lr ld ++ wM E adm lr ld rn dn w' u sr mind chg' fi iS at_ line2 ll text2 (nI tn) nx nums so dd) s.heap H locs := hH
  refine lv_icmp_eq (tgt := 1329) hx hb dL_law_1298 (by decide) (fun _ => ?_) (fun q => absurd rfl q)
  exact kk _ _ _ _ _ _ _ _ _ _ _ _ _ _ _ _ _ _ _ _ _ _ _ _ _ _ _ _ _ _ ⟨hST2, hPA2, hSv, hT1, hT2, hLI⟩ H locs hH ls (lv_sub hl [0, 1, 2, 3] rfl)
set_option maxHeartbeats 4000000 in
set_option maxRecDepth 100000 in
theorem law_save (hC : Cx p s m #[Value.ref b] c cL_law 8 RL E) (hcs : cells + 0 ≤ room_1.cells ∧ slots + 0 ≤ room_1.slots) (hX : va_X b Ln xs s s.heap) (hbl : b < s.heap.size) (hSC : SC G (AA s) s s.heap) (h1 : vp_in (i + 1) Ln) (h2 : vp_in (i + 2) Ln) (h3 : vp_in (i + 3) Ln) (hR : Rl L Sn iS P R B T N w u sr chg fi line2 ll text2 tn) (kk : KC p l e s m below meth c E b ad adm cells slots Q i) (hH : Hp E (AA s) (wS E ad L tr Sn iS P R B Y Z T N lr ld ++ wM E adm lr ld rn dn w u sr mind chg fi iS at_ line2 ll text2 (nI tn) nx nums so dd) s.heap H locs) (hl : lv_has ls 8 [(0, .ref b), (1, .ref (ad 0)), (2, .ref (adm 0)), (3, .int i)]) : W p l e room_1 s m #[Value.ref b] below meth c H locs cells slots Q (F0 m 1303 ls []) := by
  have hx := hC.1
  have hb := hC.2.1
  have hbA : ¬ AA s b := Nat.not_le.mpr hbl
  obtain ⟨hST, hPA, hSv, hT1, hT2, hLI⟩ := hR
  obtain ⟨r, S2, sr2, e1, e2, hS9⟩ := st_save hST Sn iS sr iS
  refine lv_aload_n hx hb dL_law_1303 rfl (lv_at hl 1 rfl) ?_
  refine k_WVpi hC LL_159 ⟨Nat.le_of_ble_eq_true rfl, Nat.le_of_ble_eq_true rfl⟩ hcs (cS_save l E ad L tr Sn iS P R B Y Z T N lr ld  (r, S2, nI 1) e1) rfl rfl hH (List.Perm.refl _) (List.Perm.refl _) rfl rfl rfl hl.1 rfl (Nat.le_of_ble_eq_true rfl) rfl dL_law_1304 (fun H locs _ hH => ?_)
  have hH : Hp E (AA s) (wS E ad L tr S2 (nI 1) P R B Y Z T N lr ld ++ wM E adm lr ld rn dn w u sr mind chg fi iS at_ line2 ll text2 (nI tn) nx nums so dd) s.heap H locs := hH
  refine lv_aload_n hx hb dL_law_1307 rfl (lv_at hl 2 rfl) ?_
  refine k_WVpi hC LL_162 ⟨Nat.le_of_ble_eq_true rfl, Nat.le_of_ble_eq_true rfl⟩ hcs (cM_save l E adm lr ld rn dn w u sr mind chg fi iS at_ line2 ll text2 (nI tn) nx nums so dd  (r, sr2, nI 1) e2) rfl rfl hH List.perm_append_comm List.perm_append_comm rfl rfl rfl hl.1 rfl (Nat.le_of_ble_eq_true rfl) rfl dL_law_1308 (fun H locs _ hH => ?_)
  have hH : Hp E (AA s) (wS E ad L tr S2 (nI 1) P R B Y Z T N lr ld ++ wM E adm lr ld rn dn w u sr2 mind chg fi (nI 1) at_ line2 ll text2 (nI tn) nx nums so dd) s.heap H locs := hH
  refine lv_icmp_eq (tgt := 1329) hx hb dL_law_1311 (by decide) (fun _ => ?_) (fun q => absurd rfl q)
  exact kk _ _ _ _ _ _ _ _ _ _ _ _ _ _ _ _ _ _ _ _ _ _ _ _ _ _ _ _ _ _ ⟨hST, hPA, Or.inr ⟨rfl, hS9⟩, hT1, hT2, hLI⟩ H locs hH ls (lv_sub hl [0, 1, 2, 3] rfl)
set_option maxHeartbeats 4000000 in
set_option maxRecDepth 100000 in
theorem law_restore (hC : Cx p s m #[Value.ref b] c cL_law 8 RL E) (hcs : cells + 0 ≤ room_1.cells ∧ slots + 0 ≤ room_1.slots) (hX : va_X b Ln xs s s.heap) (hbl : b < s.heap.size) (hSC : SC G (AA s) s s.heap) (h1 : vp_in (i + 1) Ln) (h2 : vp_in (i + 2) Ln) (h3 : vp_in (i + 3) Ln) (hR : Rl L Sn iS P R B T N w u sr chg fi line2 ll text2 tn) (kk : KC p l e s m below meth c E b ad adm cells slots Q i) (hH : Hp E (AA s) (wS E ad L tr Sn iS P R B Y Z T N lr ld ++ wM E adm lr ld rn dn w u sr mind chg fi iS at_ line2 ll text2 (nI tn) nx nums so dd) s.heap H locs) (hl : lv_has ls 8 [(0, .ref b), (1, .ref (ad 0)), (2, .ref (adm 0)), (3, .int i)]) : W p l e room_1 s m #[Value.ref b] below meth c H locs cells slots Q (F0 m 1316 ls []) := by
  have hx := hC.1
  have hb := hC.2.1
  have hbA : ¬ AA s b := Nat.not_le.mpr hbl
  obtain ⟨hST, hPA, hSv, hT1, hT2, hLI⟩ := hR
  obtain ⟨r, L', P', R', B', w', chg', fi', e1, e2, hST2, hPA2⟩ := st_restore hST hPA hSv
  refine lv_aload_n hx hb dL_law_1316 rfl (lv_at hl 1 rfl) ?_
  refine k_WVpi hC LL_163 ⟨Nat.le_of_ble_eq_true rfl, Nat.le_of_ble_eq_true rfl⟩ hcs (cS_restore l E ad L tr Sn iS P R B Y Z T N lr ld  (r, L', P', R', B') e1) rfl rfl hH (List.Perm.refl _) (List.Perm.refl _) rfl rfl rfl hl.1 rfl (Nat.le_of_ble_eq_true rfl) rfl dL_law_1317 (fun H locs _ hH => ?_)
  have hH : Hp E (AA s) (wS E ad L' tr Sn iS P' R' B' Y Z T N lr ld ++ wM E adm lr ld rn dn w u sr mind chg fi iS at_ line2 ll text2 (nI tn) nx nums so dd) s.heap H locs := hH
  refine lv_aload_n hx hb dL_law_1320 rfl (lv_at hl 2 rfl) ?_
  refine k_WVpi hC LL_166 ⟨Nat.le_of_ble_eq_true rfl, Nat.le_of_ble_eq_true rfl⟩ hcs (cM_restore l E adm lr ld rn dn w u sr mind chg fi iS at_ line2 ll text2 (nI tn) nx nums so dd  (r, w', chg', fi') e2) rfl rfl hH List.perm_append_comm List.perm_append_comm rfl rfl rfl hl.1 rfl (Nat.le_of_ble_eq_true rfl) rfl dL_law_1321 (fun H locs _ hH => ?_)
  have hH : Hp E (AA s) (wS E ad L' tr Sn iS P' R' B' Y Z T N lr ld ++ wM E adm lr ld rn dn w' u sr mind chg' fi' iS at_ line2 ll text2 (nI tn) nx nums so dd) s.heap H locs := hH
  refine lv_icmp_eq (tgt := 1329) hx hb dL_law_1324 (by decide) (fun _ => ?_) (fun q => absurd rfl q)
  exact kk _ _ _ _ _ _ _ _ _ _ _ _ _ _ _ _ _ _ _ _ _ _ _ _ _ _ _ _ _ _ ⟨hST2, hPA2, hSv, hT1, hT2, hLI⟩ H locs hH ls (lv_sub hl [0, 1, 2, 3] rfl)
end LAW
