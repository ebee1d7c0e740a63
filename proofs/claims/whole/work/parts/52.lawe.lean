section LAW
variable {p : Program} {l : Launch} {e : Env} {s : State} {m : MethodId} {below : List Frame} {meth : Method} {c : Code} {E : eE} {G : eG} {b Ln : Nat} {xs : Nat → Int32} {ad adm : Nat → Nat} {cells slots : Nat} {Q : State → Prop} {i : Int32} {H : Heap} {locs : List Loc} {ls : Array Slot}
variable {L : TL} {tr : TL} {Sn : TL} {iS : Int32} {P : TP} {R : TR} {B : TB} {Y : TY} {Z : TZ} {T : TT} {N : TN} {lr : Int32} {ld : Int32} {rn : Int32} {dn : Int32} {w : Nat → Int32} {u : Nat → Int32} {sr : Nat → Int32} {mind : Nat → Int32} {chg : Int32} {fi : Int32} {at_ : Nat → Int32} {line2 : Nat → Int32} {ll : Int32} {text2 : Nat → Int32} {tn : Nat} {nx : Int32} {nums : Nat → Int32} {so : Int32} {dd : Int32}
set_option maxHeartbeats 4000000 in
set_option maxRecDepth 100000 in
theorem law_tell (hC : Cx p s m #[Value.ref b] c cL_law 8 RL E) (hcs : cells + 0 ≤ room_1.cells ∧ slots + 0 ≤ room_1.slots) (hX : va_X b Ln xs s s.heap) (hbl : b < s.heap.size) (hSC : SC G (AA s) s s.heap) (h1 : vp_in (i + 1) Ln) (h2 : vp_in (i + 2) Ln) (h3 : vp_in (i + 3) Ln) (hR : Rl L Sn iS P R B T N w u sr chg fi line2 ll text2 tn) (kk : KC p l e s m below meth c E b ad adm cells slots Q i) (hH : Hp E (AA s) (wS E ad L tr Sn iS P R B Y Z T N lr ld ++ wM E adm lr ld rn dn w u sr mind chg fi iS at_ line2 ll text2 (nI tn) nx nums so dd) s.heap H locs) (hl : lv_has ls 8 [(0, .ref b), (1, .ref (ad 0)), (2, .ref (adm 0)), (3, .int i)]) : W p l e room_1 s m #[Value.ref b] below meth c H locs cells slots Q (F0 m 1062 ls []) := by
  have hx := hC.1
  have hb := hC.2.1
  have hbA : ¬ AA s b := Nat.not_le.mpr hbl
  obtain ⟨hST, hPA, hSv, hT1, hT2, hLI⟩ := hR
  obtain ⟨r, N2, c2, e1, e2, hLI2⟩ := st_tell hST N line2 ll
  refine lv_aload_n hx hb dL_law_1062 rfl (lv_at hl 1 rfl) ?_
  refine k_WVpi hC LL_120 ⟨Nat.le_of_ble_eq_true rfl, Nat.le_of_ble_eq_true rfl⟩ hcs (cS_tell l E ad L tr Sn iS P R B Y Z T N lr ld  (r, N2) e1) rfl rfl hH (List.Perm.refl _) (List.Perm.refl _) rfl rfl rfl hl.1 rfl (Nat.le_of_ble_eq_true rfl) rfl dL_law_1063 (fun H locs _ hH => ?_)
  have hH : Hp E (AA s) (wS E ad L tr Sn iS P R B Y Z T N2 lr ld ++ wM E adm lr ld rn dn w u sr mind chg fi iS at_ line2 ll text2 (nI tn) nx nums so dd) s.heap H locs := hH
  refine lv_aload_n hx hb dL_law_1066 rfl (lv_at hl 2 rfl) ?_
  refine k_WVpi hC LL_123 ⟨Nat.le_of_ble_eq_true rfl, Nat.le_of_ble_eq_true rfl⟩ hcs (cM_tell l E adm lr ld rn dn w u sr mind chg fi iS at_ line2 ll text2 (nI tn) nx nums so dd  (r, c2, N2.2) e2) rfl rfl hH List.perm_append_comm List.perm_append_comm rfl rfl rfl hl.1 rfl (Nat.le_of_ble_eq_true rfl) rfl dL_law_1067 (fun H locs _ hH => ?_)
  have hH : Hp E (AA s) (wS E ad L tr Sn iS P R B Y Z T N2 lr ld ++ wM E adm lr ld rn dn w u sr mind chg fi iS at_ c2 N2.2 text2 (nI tn) nx nums so dd) s.heap H locs := hH
  refine lv_icmp_eq (tgt := 1329) hx hb dL_law_1070 (by decide) (fun _ => ?_) (fun q => absurd rfl q)
  exact kk _ _ _ _ _ _ _ _ _ _ _ _ _ _ _ _ _ _ _ _ _ _ _ _ _ _ _ _ _ _ ⟨hST, hPA, hSv, hT1, hT2, hLI2⟩ H locs hH ls (lv_sub hl [0, 1, 2, 3] rfl)
set_option maxHeartbeats 4000000 in
set_option maxRecDepth 100000 in
theorem law_tellRow (hC : Cx p s m #[Value.ref b] c cL_law 8 RL E) (hcs : cells + 0 ≤ room_1.cells ∧ slots + 0 ≤ room_1.slots) (hX : va_X b Ln xs s s.heap) (hbl : b < s.heap.size) (hSC : SC G (AA s) s s.heap) (h1 : vp_in (i + 1) Ln) (h2 : vp_in (i + 2) Ln) (h3 : vp_in (i + 3) Ln) (hR : Rl L Sn iS P R B T N w u sr chg fi line2 ll text2 tn) (kk : KC p l e s m below meth c E b ad adm cells slots Q i) (hH : Hp E (AA s) (wS E ad L tr Sn iS P R B Y Z T N lr ld ++ wM E adm lr ld rn dn w u sr mind chg fi iS at_ line2 ll text2 (nI tn) nx nums so dd) s.heap H locs) (hl : lv_has ls 8 [(0, .ref b), (1, .ref (ad 0)), (2, .ref (adm 0)), (3, .int i)]) : W p l e room_1 s m #[Value.ref b] below meth c H locs cells slots Q (F0 m 1075 ls []) := by
  have hx := hC.1
  have hb := hC.2.1
  have hbA : ¬ AA s b := Nat.not_le.mpr hbl
  obtain ⟨hST, hPA, hSv, hT1, hT2, hLI⟩ := hR
  obtain ⟨r, N2, at2, c2, l2, e1, e2, hLI2⟩ := st_tellRow hST (xs (i + 1).toNatClampNeg) at_ N line2 ll hLI
  refine lv_aload_n hx hb dL_law_1075 rfl (lv_at hl 1 rfl) ?_
  refine lv_aload_n hx hb dL_law_1076 rfl (lv_at hl 0 rfl) ?_
  refine lv_iload_n hx hb dL_law_1077 rfl (lv_at hl 3 rfl) ?_
  refine lv_iconst (v := 1) hx hb dL_law_1078 (by decide) ?_
  refine lv_iadd hx hb dL_law_1079 ?_
  refine va_sld hx hb hX hbl hbA hH.2.2 h1 dL_law_1080 ?_
  refine k_WVpi hC LL_124 ⟨Nat.le_of_ble_eq_true rfl, Nat.le_of_ble_eq_true rfl⟩ hcs (cS_tellRow l E ad L tr Sn iS P R B Y Z T N lr ld (xs (i + 1).toNatClampNeg) (r, N2) e1) rfl rfl hH (List.Perm.refl _) (List.Perm.refl _) rfl rfl rfl hl.1 rfl (Nat.le_of_ble_eq_true rfl) rfl dL_law_1081 (fun H locs _ hH => ?_)
  have hH : Hp E (AA s) (wS E ad L tr Sn iS P R B Y Z T N2 lr ld ++ wM E adm lr ld rn dn w u sr mind chg fi iS at_ line2 ll text2 (nI tn) nx nums so dd) s.heap H locs := hH
  refine lv_aload_n hx hb dL_law_1084 rfl (lv_at hl 2 rfl) ?_
  refine lv_aload_n hx hb dL_law_1085 rfl (lv_at hl 0 rfl) ?_
  refine lv_iload_n hx hb dL_law_1086 rfl (lv_at hl 3 rfl) ?_
  refine lv_iconst (v := 1) hx hb dL_law_1087 (by decide) ?_
  refine lv_iadd hx hb dL_law_1088 ?_
  refine va_sld hx hb hX hbl hbA hH.2.2 h1 dL_law_1089 ?_
  refine k_WVpi hC LL_127 ⟨Nat.le_of_ble_eq_true rfl, Nat.le_of_ble_eq_true rfl⟩ hcs (cM_tellRow l E adm lr ld rn dn w u sr mind chg fi iS at_ line2 ll text2 (nI tn) nx nums so dd (xs (i + 1).toNatClampNeg) (r, at2, c2, l2) e2) rfl rfl hH List.perm_append_comm List.perm_append_comm rfl rfl rfl hl.1 rfl (Nat.le_of_ble_eq_true rfl) rfl dL_law_1090 (fun H locs _ hH => ?_)
  have hH : Hp E (AA s) (wS E ad L tr Sn iS P R B Y Z T N2 lr ld ++ wM E adm lr ld rn dn w u sr mind chg fi iS at2 c2 l2 text2 (nI tn) nx nums so dd) s.heap H locs := hH
  refine lv_icmp_eq (tgt := 1329) hx hb dL_law_1093 (by decide) (fun _ => ?_) (fun q => absurd rfl q)
  exact kk _ _ _ _ _ _ _ _ _ _ _ _ _ _ _ _ _ _ _ _ _ _ _ _ _ _ _ _ _ _ ⟨hST, hPA, hSv, hT1, hT2, hLI2⟩ H locs hH ls (lv_sub hl [0, 1, 2, 3] rfl)
set_option maxHeartbeats 4000000 in
set_option maxRecDepth 100000 in
theorem law_character (hC : Cx p s m #[Value.ref b] c cL_law 8 RL E) (hcs : cells + 0 ≤ room_1.cells ∧ slots + 0 ≤ room_1.slots) (hX : va_X b Ln xs s s.heap) (hbl : b < s.heap.size) (hSC : SC G (AA s) s s.heap) (h1 : vp_in (i + 1) Ln) (h2 : vp_in (i + 2) Ln) (h3 : vp_in (i + 3) Ln) (hR : Rl L Sn iS P R B T N w u sr chg fi line2 ll text2 tn) (kk : KC p l e s m below meth c E b ad adm cells slots Q i) (hH : Hp E (AA s) (wS E ad L tr Sn iS P R B Y Z T N lr ld ++ wM E adm lr ld rn dn w u sr mind chg fi iS at_ line2 ll text2 (nI tn) nx nums so dd) s.heap H locs) (hl : lv_has ls 8 [(0, .ref b), (1, .ref (ad 0)), (2, .ref (adm 0)), (3, .int i)]) : W p l e room_1 s m #[Value.ref b] below meth c H locs cells slots Q (F0 m 1098 ls []) := by
  have hx := hC.1
  have hb := hC.2.1
  have hbA : ¬ AA s b := Nat.not_le.mpr hbl
  obtain ⟨hST, hPA, hSv, hT1, hT2, hLI⟩ := hR
  obtain ⟨r, e1, e2⟩ := st_character hLI (xs (i + 1).toNatClampNeg)
  refine lv_aload_n hx hb dL_law_1098 rfl (lv_at hl 1 rfl) ?_
  refine lv_aload_n hx hb dL_law_1099 rfl (lv_at hl 0 rfl) ?_
  refine lv_iload_n hx hb dL_law_1100 rfl (lv_at hl 3 rfl) ?_
  refine lv_iconst (v := 1) hx hb dL_law_1101 (by decide) ?_
  refine lv_iadd hx hb dL_law_1102 ?_
  refine va_sld hx hb hX hbl hbA hH.2.2 h1 dL_law_1103 ?_
  refine k_PVi hC LL_128 ⟨Nat.le_of_ble_eq_true rfl, Nat.le_of_ble_eq_true rfl⟩ hcs (cS_character l E ad L tr Sn iS P R B Y Z T N lr ld (xs (i + 1).toNatClampNeg) r e1) rfl rfl (vP_perm hH.1 (List.Perm.refl _)) rfl rfl hl.1 rfl (Nat.le_of_ble_eq_true rfl) rfl dL_law_1104 (fun _ => ?_)
  refine lv_aload_n hx hb dL_law_1107 rfl (lv_at hl 2 rfl) ?_
  refine lv_aload_n hx hb dL_law_1108 rfl (lv_at hl 0 rfl) ?_
  refine lv_iload_n hx hb dL_law_1109 rfl (lv_at hl 3 rfl) ?_
  refine lv_iconst (v := 1) hx hb dL_law_1110 (by decide) ?_
  refine lv_iadd hx hb dL_law_1111 ?_
  refine va_sld hx hb hX hbl hbA hH.2.2 h1 dL_law_1112 ?_
  refine k_PVi hC LL_131 ⟨Nat.le_of_ble_eq_true rfl, Nat.le_of_ble_eq_true rfl⟩ hcs (cM_character l E adm lr ld rn dn w u sr mind chg fi iS at_ line2 ll text2 (nI tn) nx nums so dd (xs (i + 1).toNatClampNeg) r e2) rfl rfl (vP_perm hH.1 List.perm_append_comm) rfl rfl hl.1 rfl (Nat.le_of_ble_eq_true rfl) rfl dL_law_1113 (fun _ => ?_)
  refine lv_icmp_eq (tgt := 1329) hx hb dL_law_1116 (by decide) (fun _ => ?_) (fun q => absurd rfl q)
  exact kk _ _ _ _ _ _ _ _ _ _ _ _ _ _ _ _ _ _ _ _ _ _ _ _ _ _ _ _ _ _ ⟨hST, hPA, hSv, hT1, hT2, hLI⟩ H locs hH ls (lv_sub hl [0, 1, 2, 3] rfl)
set_option maxHeartbeats 4000000 in
set_option maxRecDepth 100000 in
theorem law_reason (hC : Cx p s m #[Value.ref b] c cL_law 8 RL E) (hcs : cells + 0 ≤ room_1.cells ∧ slots + 0 ≤ room_1.slots) (hX : va_X b Ln xs s s.heap) (hbl : b < s.heap.size) (hSC : SC G (AA s) s s.heap) (h1 : vp_in (i + 1) Ln) (h2 : vp_in (i + 2) Ln) (h3 : vp_in (i + 3) Ln) (hR : Rl L Sn iS P R B T N w u sr chg fi line2 ll text2 tn) (kk : KC p l e s m below meth c E b ad adm cells slots Q i) (hH : Hp E (AA s) (wS E ad L tr Sn iS P R B Y Z T N lr ld ++ wM E adm lr ld rn dn w u sr mind chg fi iS at_ line2 ll text2 (nI tn) nx nums so dd) s.heap H locs) (hl : lv_has ls 8 [(0, .ref b), (1, .ref (ad 0)), (2, .ref (adm 0)), (3, .int i)]) : W p l e room_1 s m #[Value.ref b] below meth c H locs cells slots Q (F0 m 1121 ls []) := by
  have hx := hC.1
  have hb := hC.2.1
  have hbA : ¬ AA s b := Nat.not_le.mpr hbl
  obtain ⟨hST, hPA, hSv, hT1, hT2, hLI⟩ := hR
  obtain ⟨r, e1, e2⟩ : ∃ r, fS_reason lr ld (bI (decide (¬ (xs (i + 1).toNatClampNeg) = 0))) = r ∧ fM_reason lr ld (bI (decide (¬ (xs (i + 1).toNatClampNeg) = 0))) = r := ⟨_, rfl, st_reason lr ld _⟩
  refine lv_aload_n hx hb dL_law_1121 rfl (lv_at hl 1 rfl) ?_
  refine lv_aload_n hx hb dL_law_1122 rfl (lv_at hl 0 rfl) ?_
  refine lv_iload_n hx hb dL_law_1123 rfl (lv_at hl 3 rfl) ?_
  refine lv_iconst (v := 1) hx hb dL_law_1124 (by decide) ?_
  refine lv_iadd hx hb dL_law_1125 ?_
  refine va_sld hx hb hX hbl hbA hH.2.2 h1 dL_law_1126 ?_
  refine law_bool (pc := 1127) hx hb dL_law_1127 dL_law_1130 dL_law_1131 dL_law_1134 ?_
  refine k_PVi hC LL_132 ⟨Nat.le_of_ble_eq_true rfl, Nat.le_of_ble_eq_true rfl⟩ hcs (cS_reason l E ad L tr Sn iS P R B Y Z T N lr ld (bI (decide (¬ (xs (i + 1).toNatClampNeg) = 0))) r e1) rfl rfl (vP_perm hH.1 (List.Perm.refl _)) rfl rfl hl.1 rfl (Nat.le_of_ble_eq_true rfl) rfl dL_law_1135 (fun _ => ?_)
  refine lv_aload_n hx hb dL_law_1138 rfl (lv_at hl 2 rfl) ?_
  refine lv_aload_n hx hb dL_law_1139 rfl (lv_at hl 0 rfl) ?_
  refine lv_iload_n hx hb dL_law_1140 rfl (lv_at hl 3 rfl) ?_
  refine lv_iconst (v := 1) hx hb dL_law_1141 (by decide) ?_
  refine lv_iadd hx hb dL_law_1142 ?_
  refine va_sld hx hb hX hbl hbA hH.2.2 h1 dL_law_1143 ?_
  refine law_bool (pc := 1144) hx hb dL_law_1144 dL_law_1147 dL_law_1148 dL_law_1151 ?_
  refine k_PVi hC LL_136 ⟨Nat.le_of_ble_eq_true rfl, Nat.le_of_ble_eq_true rfl⟩ hcs (cM_reason l E adm lr ld rn dn w u sr mind chg fi iS at_ line2 ll text2 (nI tn) nx nums so dd (bI (decide (¬ (xs (i + 1).toNatClampNeg) = 0))) r e2) rfl rfl (vP_perm hH.1 List.perm_append_comm) rfl rfl hl.1 rfl (Nat.le_of_ble_eq_true rfl) rfl dL_law_1152 (fun _ => ?_)
  refine lv_icmp_eq (tgt := 1329) hx hb dL_law_1155 (by decide) (fun _ => ?_) (fun q => absurd rfl q)
  exact kk _ _ _ _ _ _ _ _ _ _ _ _ _ _ _ _ _ _ _ _ _ _ _ _ _ _ _ _ _ _ ⟨hST, hPA, hSv, hT1, hT2, hLI⟩ H locs hH ls (lv_sub hl [0, 1, 2, 3] rfl)
set_option maxHeartbeats 4000000 in
set_option maxRecDepth 100000 in
theorem law_account (hC : Cx p s m #[Value.ref b] c cL_law 8 RL E) (hcs : cells + 0 ≤ room_1.cells ∧ slots + 0 ≤ room_1.slots) (hX : va_X b Ln xs s s.heap) (hbl : b < s.heap.size) (hSC : SC G (AA s) s s.heap) (h1 : vp_in (i + 1) Ln) (h2 : vp_in (i + 2) Ln) (h3 : vp_in (i + 3) Ln) (hR : Rl L Sn iS P R B T N w u sr chg fi line2 ll text2 tn) (kk : KC p l e s m below meth c E b ad adm cells slots Q i) (hH : Hp E (AA s) (wS E ad L tr Sn iS P R B Y Z T N lr ld ++ wM E adm lr ld rn dn w u sr mind chg fi iS at_ line2 ll text2 (nI tn) nx nums so dd) s.heap H locs) (hl : lv_has ls 8 [(0, .ref b), (1, .ref (ad 0)), (2, .ref (adm 0)), (3, .int i)]) : W p l e room_1 s m #[Value.ref b] below meth c H locs cells slots Q (F0 m 1160 ls []) := by
  have hx := hC.1
  have hb := hC.2.1
  have hbA : ¬ AA s b := Nat.not_le.mpr hbl
  obtain ⟨hST, hPA, hSv, hT1, hT2, hLI⟩ := hR
  obtain ⟨r, Y2, at2, e1, e2⟩ := st_account hST P Y T chg at_ (nI tn) hPA.size hT2 (xs (i + 1).toNatClampNeg)
  refine lv_aload_n hx hb dL_law_1160 rfl (lv_at hl 1 rfl) ?_
  refine lv_aload_n hx hb dL_law_1161 rfl (lv_at hl 0 rfl) ?_
  refine lv_iload_n hx hb dL_law_1162 rfl (lv_at hl 3 rfl) ?_
  refine lv_iconst (v := 1) hx hb dL_law_1163 (by decide) ?_
  refine lv_iadd hx hb dL_law_1164 ?_
  refine va_sld hx hb hX hbl hbA hH.2.2 h1 dL_law_1165 ?_
  refine k_WVpi hC LL_137 ⟨Nat.le_of_ble_eq_true rfl, Nat.le_of_ble_eq_true rfl⟩ hcs (cS_account l E ad L tr Sn iS P R B Y Z T N lr ld (xs (i + 1).toNatClampNeg) (r, Y2) e1) rfl rfl hH (List.Perm.refl _) (List.Perm.refl _) rfl rfl rfl hl.1 rfl (Nat.le_of_ble_eq_true rfl) rfl dL_law_1166 (fun H locs _ hH => ?_)
  have hH : Hp E (AA s) (wS E ad L tr Sn iS P R B Y2 Z T N lr ld ++ wM E adm lr ld rn dn w u sr mind chg fi iS at_ line2 ll text2 (nI tn) nx nums so dd) s.heap H locs := hH
  refine lv_aload_n hx hb dL_law_1169 rfl (lv_at hl 2 rfl) ?_
  refine lv_aload_n hx hb dL_law_1170 rfl (lv_at hl 0 rfl) ?_
  refine lv_iload_n hx hb dL_law_1171 rfl (lv_at hl 3 rfl) ?_
  refine lv_iconst (v := 1) hx hb dL_law_1172 (by decide) ?_
  refine lv_iadd hx hb dL_law_1173 ?_
  refine va_sld hx hb hX hbl hbA hH.2.2 h1 dL_law_1174 ?_
  refine k_WVpi hC LL_140 ⟨Nat.le_of_ble_eq_true rfl, Nat.le_of_ble_eq_true rfl⟩ hcs (cM_account l E adm lr ld rn dn w u sr mind chg fi iS at_ line2 ll text2 (nI tn) nx nums so dd (xs (i + 1).toNatClampNeg) (r, at2) e2) rfl rfl hH List.perm_append_comm List.perm_append_comm rfl rfl rfl hl.1 rfl (Nat.le_of_ble_eq_true rfl) rfl dL_law_1175 (fun H locs _ hH => ?_)
  have hH : Hp E (AA s) (wS E ad L tr Sn iS P R B Y2 Z T N lr ld ++ wM E adm lr ld rn dn w u sr mind chg fi iS at2 line2 ll text2 (nI tn) nx nums so dd) s.heap H locs := hH
  refine lv_icmp_eq (tgt := 1329) hx hb dL_law_1178 (by decide) (fun _ => ?_) (fun q => absurd rfl q)
  exact kk _ _ _ _ _ _ _ _ _ _ _ _ _ _ _ _ _ _ _ _ _ _ _ _ _ _ _ _ _ _ ⟨hST, hPA, hSv, hT1, hT2, hLI⟩ H locs hH ls (lv_sub hl [0, 1, 2, 3] rfl)
set_option maxHeartbeats 4000000 in
set_option maxRecDepth 100000 in
theorem law_isBalanced (hC : Cx p s m #[Value.ref b] c cL_law 8 RL E) (hcs : cells + 0 ≤ room_1.cells ∧ slots + 0 ≤ room_1.slots) (hX : va_X b Ln xs s s.heap) (hbl : b < s.heap.size) (hSC : SC G (AA s) s s.heap) (h1 : vp_in (i + 1) Ln) (h2 : vp_in (i + 2) Ln) (h3 : vp_in (i + 3) Ln) (hR : Rl L Sn iS P R B T N w u sr chg fi line2 ll text2 tn) (kk : KC p l e s m below meth c E b ad adm cells slots Q i) (hH : Hp E (AA s) (wS E ad L tr Sn iS P R B Y Z T N lr ld ++ wM E adm lr ld rn dn w u sr mind chg fi iS at_ line2 ll text2 (nI tn) nx nums so dd) s.heap H locs) (hl : lv_has ls 8 [(0, .ref b), (1, .ref (ad 0)), (2, .ref (adm 0)), (3, .int i)]) : W p l e room_1 s m #[Value.ref b] below meth c H locs cells slots Q (F0 m 1183 ls []) := by
  have hx := hC.1
  have hb := hC.2.1
  have hbA : ¬ AA s b := Nat.not_le.mpr hbl
  obtain ⟨hST, hPA, hSv, hT1, hT2, hLI⟩ := hR
  obtain ⟨r, Z2, at2, e1, e2⟩ := st_isBalanced hST Z at_
  refine lv_aload_n hx hb dL_law_1183 rfl (lv_at hl 1 rfl) ?_
  refine k_WVpi hC LL_141 ⟨Nat.le_of_ble_eq_true rfl, Nat.le_of_ble_eq_true rfl⟩ hcs (cS_isBalanced l E ad L tr Sn iS P R B Y Z T N lr ld  (r, Z2) e1) rfl rfl hH (List.Perm.refl _) (List.Perm.refl _) rfl rfl rfl hl.1 rfl (Nat.le_of_ble_eq_true rfl) rfl dL_law_1184 (fun H locs _ hH => ?_)
  have hH : Hp E (AA s) (wS E ad L tr Sn iS P R B Y Z2 T N lr ld ++ wM E adm lr ld rn dn w u sr mind chg fi iS at_ line2 ll text2 (nI tn) nx nums so dd) s.heap H locs := hH
  refine lv_aload_n hx hb dL_law_1187 rfl (lv_at hl 2 rfl) ?_
  refine k_WVpi hC LL_144 ⟨Nat.le_of_ble_eq_true rfl, Nat.le_of_ble_eq_true rfl⟩ hcs (cM_isBalanced l E adm lr ld rn dn w u sr mind chg fi iS at_ line2 ll text2 (nI tn) nx nums so dd  (r, at2) e2) rfl rfl hH List.perm_append_comm List.perm_append_comm rfl rfl rfl hl.1 rfl (Nat.le_of_ble_eq_true rfl) rfl dL_law_1188 (fun H locs _ hH => ?_)
  have hH : Hp E (AA s) (wS E ad L tr Sn iS P R B Y Z2 T N lr ld ++ wM E adm lr ld rn dn w u sr mind chg fi iS at2 line2 ll text2 (nI tn) nx nums so dd) s.heap H locs := hH
  refine lv_icmp_eq (tgt := 1329) hx hb dL_law_1191 (by decide) (fun _ => ?_) (fun q => absurd rfl q)
  exact kk _ _ _ _ _ _ _ _ _ _ _ _ _ _ _ _ _ _ _ _ _ _ _ _ _ _ _ _ _ _ ⟨hST, hPA, hSv, hT1, hT2, hLI⟩ H locs hH ls (lv_sub hl [0, 1, 2, 3] rfl)
end LAW
