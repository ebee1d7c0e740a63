section LAW
variable {p : Program} {l : Launch} {e : Env} {s : State} {m : MethodId} {below : List Frame} {meth : Method} {c : Code} {E : eE} {G : eG} {b Ln : Nat} {xs : Nat → Int32} {ad adm : Nat → Nat} {cells slots : Nat} {Q : State → Prop} {i : Int32} {H : Heap} {locs : List Loc} {ls : Array Slot}
variable {L : TL} {tr : TL} {Sn : TL} {iS : Int32} {P : TP} {R : TR} {B : TB} {Y : TY} {Z : TZ} {T : TT} {N : TN} {lr : Int32} {ld : Int32} {rn : Int32} {dn : Int32} {w : Nat → Int32} {u : Nat → Int32} {sr : Nat → Int32} {mind : Nat → Int32} {chg : Int32} {fi : Int32} {at_ : Nat → Int32} {line2 : Nat → Int32} {ll : Int32} {text2 : Nat → Int32} {tn : Nat} {nx : Int32} {nums : Nat → Int32} {so : Int32} {dd : Int32}
set_option maxHeartbeats 4000000 in
set_option maxRecDepth 100000 in
theorem law_common (hC : Cx p s m #[Value.ref b] c cL_law 8 RL E) (hcs : cells + 0 ≤ room_1.cells ∧ slots + 0 ≤ room_1.slots) (hX : va_X b Ln xs s s.heap) (hbl : b < s.heap.size) (hSC : SC G (AA s) s s.heap) (h1 : vp_in (i + 1) Ln) (h2 : vp_in (i + 2) Ln) (h3 : vp_in (i + 3) Ln) (hR : Rl L Sn iS P R B T N w u sr chg fi line2 ll text2 tn) (kk : KC p l e s m below meth c E b ad adm cells slots Q i) (hH : Hp E (AA s) (wS E ad L tr Sn iS P R B Y Z T N lr ld ++ wM E adm lr ld rn dn w u sr mind chg fi iS at_ line2 ll text2 (nI tn) nx nums so dd) s.heap H locs) (hl : lv_has ls 8 [(0, .ref b), (1, .ref (ad 0)), (2, .ref (adm 0)), (3, .int i)]) : W p l e room_1 s m #[Value.ref b] below meth c H locs cells slots Q (F0 m 904 ls []) := by
  have hx := hC.1
  have hb := hC.2.1
  have hbA : ¬ AA s b := Nat.not_le.mpr hbl
  obtain ⟨hST, hPA, hSv, hT1, hT2, hLI⟩ := hR
  obtain ⟨r, Y2, e1, e2⟩ := st_common hST (xs (i + 1).toNatClampNeg) (xs (i + 2).toNatClampNeg) (xs (i + 3).toNatClampNeg) Y
  refine lv_aload_n hx hb dL_law_904 rfl (lv_at hl 1 rfl) ?_
  refine lv_aload_n hx hb dL_law_905 rfl (lv_at hl 0 rfl) ?_
  refine lv_iload_n hx hb dL_law_906 rfl (lv_at hl 3 rfl) ?_
  refine lv_iconst (v := 1) hx hb dL_law_907 (by decide) ?_
  refine lv_iadd hx hb dL_law_908 ?_
  refine va_sld hx hb hX hbl hbA hH.2.2 h1 dL_law_909 ?_
  refine lv_aload_n hx hb dL_law_910 rfl (lv_at hl 0 rfl) ?_
  refine lv_iload_n hx hb dL_law_911 rfl (lv_at hl 3 rfl) ?_
  refine lv_iconst (v := 2) hx hb dL_law_912 (by decide) ?_
  refine lv_iadd hx hb dL_law_913 ?_
  refine va_sld hx hb hX hbl hbA hH.2.2 h2 dL_law_914 ?_
  refine lv_aload_n hx hb dL_law_915 rfl (lv_at hl 0 rfl) ?_
  refine lv_iload_n hx hb dL_law_916 rfl (lv_at hl 3 rfl) ?_
  refine lv_iconst (v := 3) hx hb dL_law_917 (by decide) ?_
  refine lv_iadd hx hb dL_law_918 ?_
  refine va_sld hx hb hX hbl hbA hH.2.2 h3 dL_law_919 ?_
  refine k_WVpi hC LL_95 ⟨Nat.le_of_ble_eq_true rfl, Nat.le_of_ble_eq_true rfl⟩ hcs (cS_common l E ad L tr Sn iS P R B Y Z T N lr ld (xs (i + 1).toNatClampNeg) (xs (i + 2).toNatClampNeg) (xs (i + 3).toNatClampNeg) (r, Y2) e1) rfl rfl hH (List.Perm.refl _) (List.Perm.refl _) rfl rfl rfl hl.1 rfl (Nat.le_of_ble_eq_true rfl) rfl dL_law_920 (fun H locs _ hH => ?_)
  have hH : Hp E (AA s) (wS E ad L tr Sn iS P R B Y2 Z T N lr ld ++ wM E adm lr ld rn dn w u sr mind chg fi iS at_ line2 ll text2 (nI tn) nx nums so dd) s.heap H locs := hH
  refine lv_aload_n hx hb dL_law_923 rfl (lv_at hl 2 rfl) ?_
  refine lv_aload_n hx hb dL_law_924 rfl (lv_at hl 0 rfl) ?_
  refine lv_iload_n hx hb dL_law_925 rfl (lv_at hl 3 rfl) ?_
  refine lv_iconst (v := 1) hx hb dL_law_926 (by decide) ?_
  refine lv_iadd hx hb dL_law_927 ?_
  refine va_sld hx hb hX hbl hbA hH.2.2 h1 dL_law_928 ?_
  refine lv_aload_n hx hb dL_law_929 rfl (lv_at hl 0 rfl) ?_
  refine lv_iload_n hx hb dL_law_930 rfl (lv_at hl 3 rfl) ?_
  refine lv_iconst (v := 2) hx hb dL_law_931 (by decide) ?_
  refine lv_iadd hx hb dL_law_932 ?_
  refine va_sld hx hb hX hbl hbA hH.2.2 h2 dL_law_933 ?_
  refine lv_aload_n hx hb dL_law_934 rfl (lv_at hl 0 rfl) ?_
  refine lv_iload_n hx hb dL_law_935 rfl (lv_at hl 3 rfl) ?_
  refine lv_iconst (v := 3) hx hb dL_law_936 (by decide) ?_
  refine lv_iadd hx hb dL_law_937 ?_
  refine va_sld hx hb hX hbl hbA hH.2.2 h3 dL_law_938 ?_
  refine k_PVi hC LL_98 ⟨Nat.le_of_ble_eq_true rfl, Nat.le_of_ble_eq_true rfl⟩ hcs (cM_common l E adm lr ld rn dn w u sr mind chg fi iS at_ line2 ll text2 (nI tn) nx nums so dd (xs (i + 1).toNatClampNeg) (xs (i + 2).toNatClampNeg) (xs (i + 3).toNatClampNeg) r e2) rfl rfl (vP_perm hH.1 List.perm_append_comm) rfl rfl hl.1 rfl (Nat.le_of_ble_eq_true rfl) rfl dL_law_939 (fun _ => ?_)
  refine lv_icmp_eq (tgt := 1329) hx hb dL_law_942 (by decide) (fun _ => ?_) (fun q => absurd rfl q)
  exact kk _ _ _ _ _ _ _ _ _ _ _ _ _ _ _ _ _ _ _ _ _ _ _ _ _ _ _ _ _ _ ⟨hST, hPA, hSv, hT1, hT2, hLI⟩ H locs hH ls (lv_sub hl [0, 1, 2, 3] rfl)
set_option maxHeartbeats 4000000 in
set_option maxRecDepth 100000 in
theorem law_bagOf (hC : Cx p s m #[Value.ref b] c cL_law 8 RL E) (hcs : cells + 0 ≤ room_1.cells ∧ slots + 0 ≤ room_1.slots) (hX : va_X b Ln xs s s.heap) (hbl : b < s.heap.size) (hSC : SC G (AA s) s s.heap) (h1 : vp_in (i + 1) Ln) (h2 : vp_in (i + 2) Ln) (h3 : vp_in (i + 3) Ln) (hR : Rl L Sn iS P R B T N w u sr chg fi line2 ll text2 tn) (kk : KC p l e s m below meth c E b ad adm cells slots Q i) (hH : Hp E (AA s) (wS E ad L tr Sn iS P R B Y Z T N lr ld ++ wM E adm lr ld rn dn w u sr mind chg fi iS at_ line2 ll text2 (nI tn) nx nums so dd) s.heap H locs) (hl : lv_has ls 8 [(0, .ref b), (1, .ref (ad 0)), (2, .ref (adm 0)), (3, .int i)]) : W p l e room_1 s m #[Value.ref b] below meth c H locs cells slots Q (F0 m 947 ls []) := by
  have hx := hC.1
  have hb := hC.2.1
  have hbA : ¬ AA s b := Nat.not_le.mpr hbl
  obtain ⟨hST, hPA, hSv, hT1, hT2, hLI⟩ := hR
  obtain ⟨r, Y2, e1, e2⟩ := st_bagOf hST (xs (i + 1).toNatClampNeg) (xs (i + 2).toNatClampNeg) Y
  refine lv_aload_n hx hb dL_law_947 rfl (lv_at hl 1 rfl) ?_
  refine lv_aload_n hx hb dL_law_948 rfl (lv_at hl 0 rfl) ?_
  refine lv_iload_n hx hb dL_law_949 rfl (lv_at hl 3 rfl) ?_
  refine lv_iconst (v := 1) hx hb dL_law_950 (by decide) ?_
  refine lv_iadd hx hb dL_law_951 ?_
  refine va_sld hx hb hX hbl hbA hH.2.2 h1 dL_law_952 ?_
  refine lv_aload_n hx hb dL_law_953 rfl (lv_at hl 0 rfl) ?_
  refine lv_iload_n hx hb dL_law_954 rfl (lv_at hl 3 rfl) ?_
  refine lv_iconst (v := 2) hx hb dL_law_955 (by decide) ?_
  refine lv_iadd hx hb dL_law_956 ?_
  refine va_sld hx hb hX hbl hbA hH.2.2 h2 dL_law_957 ?_
  refine k_WVpi hC LL_99 ⟨Nat.le_of_ble_eq_true rfl, Nat.le_of_ble_eq_true rfl⟩ hcs (cS_bagOf l E ad L tr Sn iS P R B Y Z T N lr ld (xs (i + 1).toNatClampNeg) (xs (i + 2).toNatClampNeg) (r, Y2) e1) rfl rfl hH (List.Perm.refl _) (List.Perm.refl _) rfl rfl rfl hl.1 rfl (Nat.le_of_ble_eq_true rfl) rfl dL_law_958 (fun H locs _ hH => ?_)
  have hH : Hp E (AA s) (wS E ad L tr Sn iS P R B Y2 Z T N lr ld ++ wM E adm lr ld rn dn w u sr mind chg fi iS at_ line2 ll text2 (nI tn) nx nums so dd) s.heap H locs := hH
  refine lv_aload_n hx hb dL_law_961 rfl (lv_at hl 2 rfl) ?_
  refine lv_aload_n hx hb dL_law_962 rfl (lv_at hl 0 rfl) ?_
  refine lv_iload_n hx hb dL_law_963 rfl (lv_at hl 3 rfl) ?_
  refine lv_iconst (v := 1) hx hb dL_law_964 (by decide) ?_
  refine lv_iadd hx hb dL_law_965 ?_
  refine va_sld hx hb hX hbl hbA hH.2.2 h1 dL_law_966 ?_
  refine lv_aload_n hx hb dL_law_967 rfl (lv_at hl 0 rfl) ?_
  refine lv_iload_n hx hb dL_law_968 rfl (lv_at hl 3 rfl) ?_
  refine lv_iconst (v := 2) hx hb dL_law_969 (by decide) ?_
  refine lv_iadd hx hb dL_law_970 ?_
  refine va_sld hx hb hX hbl hbA hH.2.2 h2 dL_law_971 ?_
  refine k_PVi hC LL_102 ⟨Nat.le_of_ble_eq_true rfl, Nat.le_of_ble_eq_true rfl⟩ hcs (cM_bagOf l E adm lr ld rn dn w u sr mind chg fi iS at_ line2 ll text2 (nI tn) nx nums so dd (xs (i + 1).toNatClampNeg) (xs (i + 2).toNatClampNeg) r e2) rfl rfl (vP_perm hH.1 List.perm_append_comm) rfl rfl hl.1 rfl (Nat.le_of_ble_eq_true rfl) rfl dL_law_972 (fun _ => ?_)
  refine lv_icmp_eq (tgt := 1329) hx hb dL_law_975 (by decide) (fun _ => ?_) (fun q => absurd rfl q)
  exact kk _ _ _ _ _ _ _ _ _ _ _ _ _ _ _ _ _ _ _ _ _ _ _ _ _ _ _ _ _ _ ⟨hST, hPA, hSv, hT1, hT2, hLI⟩ H locs hH ls (lv_sub hl [0, 1, 2, 3] rfl)
set_option maxHeartbeats 4000000 in
set_option maxRecDepth 100000 in
theorem law_bagAt (hC : Cx p s m #[Value.ref b] c cL_law 8 RL E) (hcs : cells + 0 ≤ room_1.cells ∧ slots + 0 ≤ room_1.slots) (hX : va_X b Ln xs s s.heap) (hbl : b < s.heap.size) (hSC : SC G (AA s) s s.heap) (h1 : vp_in (i + 1) Ln) (h2 : vp_in (i + 2) Ln) (h3 : vp_in (i + 3) Ln) (hR : Rl L Sn iS P R B T N w u sr chg fi line2 ll text2 tn) (kk : KC p l e s m below meth c E b ad adm cells slots Q i) (hH : Hp E (AA s) (wS E ad L tr Sn iS P R B Y Z T N lr ld ++ wM E adm lr ld rn dn w u sr mind chg fi iS at_ line2 ll text2 (nI tn) nx nums so dd) s.heap H locs) (hl : lv_has ls 8 [(0, .ref b), (1, .ref (ad 0)), (2, .ref (adm 0)), (3, .int i)]) : W p l e room_1 s m #[Value.ref b] below meth c H locs cells slots Q (F0 m 980 ls []) := by
  have hx := hC.1
  have hb := hC.2.1
  have hbA : ¬ AA s b := Nat.not_le.mpr hbl
  obtain ⟨hST, hPA, hSv, hT1, hT2, hLI⟩ := hR
  obtain ⟨r, e1, e2⟩ := st_bagAt hST (xs (i + 1).toNatClampNeg)
  refine lv_aload_n hx hb dL_law_980 rfl (lv_at hl 1 rfl) ?_
  refine lv_aload_n hx hb dL_law_981 rfl (lv_at hl 0 rfl) ?_
  refine lv_iload_n hx hb dL_law_982 rfl (lv_at hl 3 rfl) ?_
  refine lv_iconst (v := 1) hx hb dL_law_983 (by decide) ?_
  refine lv_iadd hx hb dL_law_984 ?_
  refine va_sld hx hb hX hbl hbA hH.2.2 h1 dL_law_985 ?_
  refine k_PVi hC LL_103 ⟨Nat.le_of_ble_eq_true rfl, Nat.le_of_ble_eq_true rfl⟩ hcs (cS_bagAt l E ad L tr Sn iS P R B Y Z T N lr ld (xs (i + 1).toNatClampNeg) r e1) rfl rfl (vP_perm hH.1 (List.Perm.refl _)) rfl rfl hl.1 rfl (Nat.le_of_ble_eq_true rfl) rfl dL_law_986 (fun _ => ?_)
  refine lv_aload_n hx hb dL_law_989 rfl (lv_at hl 2 rfl) ?_
  refine lv_aload_n hx hb dL_law_990 rfl (lv_at hl 0 rfl) ?_
  refine lv_iload_n hx hb dL_law_991 rfl (lv_at hl 3 rfl) ?_
  refine lv_iconst (v := 1) hx hb dL_law_992 (by decide) ?_
  refine lv_iadd hx hb dL_law_993 ?_
  refine va_sld hx hb hX hbl hbA hH.2.2 h1 dL_law_994 ?_
  refine k_PVi hC LL_106 ⟨Nat.le_of_ble_eq_true rfl, Nat.le_of_ble_eq_true rfl⟩ hcs (cM_bagAt l E adm lr ld rn dn w u sr mind chg fi iS at_ line2 ll text2 (nI tn) nx nums so dd (xs (i + 1).toNatClampNeg) r e2) rfl rfl (vP_perm hH.1 List.perm_append_comm) rfl rfl hl.1 rfl (Nat.le_of_ble_eq_true rfl) rfl dL_law_995 (fun _ => ?_)
  refine lv_icmp_eq (tgt := 1329) hx hb dL_law_998 (by decide) (fun _ => ?_) (fun q => absurd rfl q)
  exact kk _ _ _ _ _ _ _ _ _ _ _ _ _ _ _ _ _ _ _ _ _ _ _ _ _ _ _ _ _ _ ⟨hST, hPA, hSv, hT1, hT2, hLI⟩ H locs hH ls (lv_sub hl [0, 1, 2, 3] rfl)
set_option maxHeartbeats 4000000 in
set_option maxRecDepth 100000 in
theorem law_ranked (hC : Cx p s m #[Value.ref b] c cL_law 8 RL E) (hcs : cells + 0 ≤ room_1.cells ∧ slots + 0 ≤ room_1.slots) (hX : va_X b Ln xs s s.heap) (hbl : b < s.heap.size) (hSC : SC G (AA s) s s.heap) (h1 : vp_in (i + 1) Ln) (h2 : vp_in (i + 2) Ln) (h3 : vp_in (i + 3) Ln) (hR : Rl L Sn iS P R B T N w u sr chg fi line2 ll text2 tn) (kk : KC p l e s m below meth c E b ad adm cells slots Q i) (hH : Hp E (AA s) (wS E ad L tr Sn iS P R B Y Z T N lr ld ++ wM E adm lr ld rn dn w u sr mind chg fi iS at_ line2 ll text2 (nI tn) nx nums so dd) s.heap H locs) (hl : lv_has ls 8 [(0, .ref b), (1, .ref (ad 0)), (2, .ref (adm 0)), (3, .int i)]) : W p l e room_1 s m #[Value.ref b] below meth c H locs cells slots Q (F0 m 1003 ls []) := by
  have hx := hC.1
  have hb := hC.2.1
  have hbA : ¬ AA s b := Nat.not_le.mpr hbl
  obtain ⟨hST, hPA, hSv, hT1, hT2, hLI⟩ := hR
  obtain ⟨r, e1, e2⟩ := st_ranked hST (xs (i + 1).toNatClampNeg)
  refine lv_aload_n hx hb dL_law_1003 rfl (lv_at hl 1 rfl) ?_
  refine lv_aload_n hx hb dL_law_1004 rfl (lv_at hl 0 rfl) ?_
  refine lv_iload_n hx hb dL_law_1005 rfl (lv_at hl 3 rfl) ?_
  refine lv_iconst (v := 1) hx hb dL_law_1006 (by decide) ?_
  refine lv_iadd hx hb dL_law_1007 ?_
  refine va_sld hx hb hX hbl hbA hH.2.2 h1 dL_law_1008 ?_
  refine k_PVi hC LL_107 ⟨Nat.le_of_ble_eq_true rfl, Nat.le_of_ble_eq_true rfl⟩ hcs (cS_ranked l E ad L tr Sn iS P R B Y Z T N lr ld (xs (i + 1).toNatClampNeg) r e1) rfl rfl (vP_perm hH.1 (List.Perm.refl _)) rfl rfl hl.1 rfl (Nat.le_of_ble_eq_true rfl) rfl dL_law_1009 (fun _ => ?_)
  refine lv_aload_n hx hb dL_law_1012 rfl (lv_at hl 2 rfl) ?_
  refine lv_aload_n hx hb dL_law_1013 rfl (lv_at hl 0 rfl) ?_
  refine lv_iload_n hx hb dL_law_1014 rfl (lv_at hl 3 rfl) ?_
  refine lv_iconst (v := 1) hx hb dL_law_1015 (by decide) ?_
  refine lv_iadd hx hb dL_law_1016 ?_
  refine va_sld hx hb hX hbl hbA hH.2.2 h1 dL_law_1017 ?_
  refine k_PVi hC LL_110 ⟨Nat.le_of_ble_eq_true rfl, Nat.le_of_ble_eq_true rfl⟩ hcs (cM_ranked l E adm lr ld rn dn w u sr mind chg fi iS at_ line2 ll text2 (nI tn) nx nums so dd (xs (i + 1).toNatClampNeg) r e2) rfl rfl (vP_perm hH.1 List.perm_append_comm) rfl rfl hl.1 rfl (Nat.le_of_ble_eq_true rfl) rfl dL_law_1018 (fun _ => ?_)
  refine lv_icmp_eq (tgt := 1329) hx hb dL_law_1021 (by decide) (fun _ => ?_) (fun q => absurd rfl q)
  exact kk _ _ _ _ _ _ _ _ _ _ _ _ _ _ _ _ _ _ _ _ _ _ _ _ _ _ _ _ _ _ ⟨hST, hPA, hSv, hT1, hT2, hLI⟩ H locs hH ls (lv_sub hl [0, 1, 2, 3] rfl)
set_option maxHeartbeats 4000000 in
set_option maxRecDepth 100000 in
theorem law_append (hC : Cx p s m #[Value.ref b] c cL_law 8 RL E) (hcs : cells + 0 ≤ room_1.cells ∧ slots + 0 ≤ room_1.slots) (hX : va_X b Ln xs s s.heap) (hbl : b < s.heap.size) (hSC : SC G (AA s) s s.heap) (h1 : vp_in (i + 1) Ln) (h2 : vp_in (i + 2) Ln) (h3 : vp_in (i + 3) Ln) (hR : Rl L Sn iS P R B T N w u sr chg fi line2 ll text2 tn) (kk : KC p l e s m below meth c E b ad adm cells slots Q i) (hH : Hp E (AA s) (wS E ad L tr Sn iS P R B Y Z T N lr ld ++ wM E adm lr ld rn dn w u sr mind chg fi iS at_ line2 ll text2 (nI tn) nx nums so dd) s.heap H locs) (hl : lv_has ls 8 [(0, .ref b), (1, .ref (ad 0)), (2, .ref (adm 0)), (3, .int i)]) : W p l e room_1 s m #[Value.ref b] below meth c H locs cells slots Q (F0 m 1026 ls []) := by
  have hx := hC.1
  have hb := hC.2.1
  have hbA : ¬ AA s b := Nat.not_le.mpr hbl
  obtain ⟨hST, hPA, hSv, hT1, hT2, hLI⟩ := hR
  obtain ⟨r, T2, c2, tn2, e1, e2, hT3, hT4⟩ := st_append hT1 hT2 (xs (i + 1).toNatClampNeg)
  refine lv_aload_n hx hb dL_law_1026 rfl (lv_at hl 1 rfl) ?_
  refine lv_aload_n hx hb dL_law_1027 rfl (lv_at hl 0 rfl) ?_
  refine lv_iload_n hx hb dL_law_1028 rfl (lv_at hl 3 rfl) ?_
  refine lv_iconst (v := 1) hx hb dL_law_1029 (by decide) ?_
  refine lv_iadd hx hb dL_law_1030 ?_
  refine va_sld hx hb hX hbl hbA hH.2.2 h1 dL_law_1031 ?_
  refine k_WVpi hC LL_111 ⟨Nat.le_of_ble_eq_true rfl, Nat.le_of_ble_eq_true rfl⟩ hcs (cS_append l E ad L tr Sn iS P R B Y Z T N lr ld (xs (i + 1).toNatClampNeg) (r, T2) e1) rfl rfl hH (List.Perm.refl _) (List.Perm.refl _) rfl rfl rfl hl.1 rfl (Nat.le_of_ble_eq_true rfl) rfl dL_law_1032 (fun H locs _ hH => ?_)
  have hH : Hp E (AA s) (wS E ad L tr Sn iS P R B Y Z T2 N lr ld ++ wM E adm lr ld rn dn w u sr mind chg fi iS at_ line2 ll text2 (nI tn) nx nums so dd) s.heap H locs := hH
  refine lv_aload_n hx hb dL_law_1035 rfl (lv_at hl 2 rfl) ?_
  refine lv_aload_n hx hb dL_law_1036 rfl (lv_at hl 0 rfl) ?_
  refine lv_iload_n hx hb dL_law_1037 rfl (lv_at hl 3 rfl) ?_
  refine lv_iconst (v := 1) hx hb dL_law_1038 (by decide) ?_
  refine lv_iadd hx hb dL_law_1039 ?_
  refine va_sld hx hb hX hbl hbA hH.2.2 h1 dL_law_1040 ?_
  refine k_WVpi hC LL_114 ⟨Nat.le_of_ble_eq_true rfl, Nat.le_of_ble_eq_true rfl⟩ hcs (cM_append l E adm lr ld rn dn w u sr mind chg fi iS at_ line2 ll text2 (nI tn) nx nums so dd (xs (i + 1).toNatClampNeg) (r, c2, nI tn2) e2) rfl rfl hH List.perm_append_comm List.perm_append_comm rfl rfl rfl hl.1 rfl (Nat.le_of_ble_eq_true rfl) rfl dL_law_1041 (fun H locs _ hH => ?_)
  have hH : Hp E (AA s) (wS E ad L tr Sn iS P R B Y Z T2 N lr ld ++ wM E adm lr ld rn dn w u sr mind chg fi iS at_ line2 ll c2 (nI tn2) nx nums so dd) s.heap H locs := hH
  refine lv_icmp_eq (tgt := 1329) hx hb dL_law_1044 (by decide) (fun _ => ?_) (fun q => absurd rfl q)
  exact kk _ _ _ _ _ _ _ _ _ _ _ _ _ _ _ _ _ _ _ _ _ _ _ _ _ _ _ _ _ _ ⟨hST, hPA, hSv, hT3, hT4, hLI⟩ H locs hH ls (lv_sub hl [0, 1, 2, 3] rfl)
set_option maxHeartbeats 4000000 in
set_option maxRecDepth 100000 in
theorem law_run (hC : Cx p s m #[Value.ref b] c cL_law 8 RL E) (hcs : cells + 0 ≤ room_1.cells ∧ slots + 0 ≤ room_1.slots) (hX : va_X b Ln xs s s.heap) (hbl : b < s.heap.size) (hSC : SC G (AA s) s s.heap) (h1 : vp_in (i + 1) Ln) (h2 : vp_in (i + 2) Ln) (h3 : vp_in (i + 3) Ln) (hR : Rl L Sn iS P R B T N w u sr chg fi line2 ll text2 tn) (kk : KC p l e s m below meth c E b ad adm cells slots Q i) (hH : Hp E (AA s) (wS E ad L tr Sn iS P R B Y Z T N lr ld ++ wM E adm lr ld rn dn w u sr mind chg fi iS at_ line2 ll text2 (nI tn) nx nums so dd) s.heap H locs) (hl : lv_has ls 8 [(0, .ref b), (1, .ref (ad 0)), (2, .ref (adm 0)), (3, .int i)]) : W p l e room_1 s m #[Value.ref b] below meth c H locs cells slots Q (F0 m 1049 ls []) := by
  have hx := hC.1
  have hb := hC.2.1
  have hbA : ¬ AA s b := Nat.not_le.mpr hbl
  obtain ⟨hST, hPA, hSv, hT1, hT2, hLI⟩ := hR
  obtain ⟨r, L', tr', P', R', B', T', lr', ld', rn', dn', w', u', mind', chg', fi', nx', g', so', d', e1, e2, hST2, hPA2, hT4⟩ := st_run (tr := tr) (lr := lr) (ld := ld) (rn := rn) (dn := dn) (mind := mind) (g := nums) (nx := nx) (so := so) (dn2 := dd) hST hPA hT1 hT2
  refine lv_aload_n hx hb dL_law_1049 rfl (lv_at hl 1 rfl) ?_
  refine k_WXi hC LL_115 ⟨Nat.le_of_ble_eq_true rfl, Nat.le_of_ble_eq_true rfl⟩ hcs (cS_run l E G ad L tr Sn iS P R B Y Z T N lr ld  (r, L', tr', P', R', B', T', lr', ld') e1) rfl rfl hSC hH (List.Perm.refl _) (List.Perm.refl _) rfl rfl rfl hl.1 rfl (Nat.le_of_ble_eq_true rfl) rfl dL_law_1050 (fun H locs _ hH => ?_)
  have hH : Hp E (AA s) (wS E ad L' tr' Sn iS P' R' B' Y Z T' N lr' ld' ++ wM E adm lr ld rn dn w u sr mind chg fi iS at_ line2 ll text2 (nI tn) nx nums so dd) s.heap H locs := hH
  refine lv_aload_n hx hb dL_law_1053 rfl (lv_at hl 2 rfl) ?_
  refine k_WVpi hC LL_119 ⟨Nat.le_of_ble_eq_true rfl, Nat.le_of_ble_eq_true rfl⟩ hcs (cM_run l E adm lr ld rn dn w u sr mind chg fi iS at_ line2 ll text2 (nI tn) nx nums so dd  (r, lr', ld', rn', dn', w', u', mind', chg', fi', nI 0, nx', g', so', d') e2) rfl rfl hH List.perm_append_comm List.perm_append_comm rfl rfl rfl hl.1 rfl (Nat.le_of_ble_eq_true rfl) rfl dL_law_1054 (fun H locs _ hH => ?_)
  have hH : Hp E (AA s) (wS E ad L' tr' Sn iS P' R' B' Y Z T' N lr' ld' ++ wM E adm lr' ld' rn' dn' w' u' sr mind' chg' fi' iS at_ line2 ll text2 (nI 0) nx' g' so' d') s.heap H locs := hH
  refine lv_icmp_eq (tgt := 1329) hx hb dL_law_1057 (by decide) (fun _ => ?_) (fun q => absurd rfl q)
  exact kk _ _ _ _ _ _ _ _ _ _ _ _ _ _ _ _ _ _ _ _ _ _ _ _ _ _ _ _ _ _ ⟨hST2, hPA2, hSv, ⟨Nat.zero_le _, fun k hk => absurd hk (Nat.not_lt_zero k)⟩, hT4, hLI⟩ H locs hH ls (lv_sub hl [0, 1, 2, 3] rfl)
end LAW
