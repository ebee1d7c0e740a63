theorem r_neg {r : Int32} (h : r < nI 0) : lg_cmp r.toInt64 (0 : Int64) < 0 ∧ ¬ 0 ≤ lg_cmp r.toInt64 (0 : Int64) := by
  have h1 : r.toInt64 < 0 := by
    rw [Int64.lt_iff_toInt_lt, Int32.toInt_toInt64]
    rw [Int32.lt_iff_toInt_lt] at h
    exact h
  exact ⟨(lg_cmp_lt _ _).mpr h1, fun z => Int64.not_lt.mpr ((lg_cmp_ge _ _).mp z) h1⟩
theorem r_pos {r : Int32} (h : ¬ r < nI 0) : ¬ lg_cmp r.toInt64 (0 : Int64) < 0 ∧ 0 ≤ lg_cmp r.toInt64 (0 : Int64) := by
  have h1 : ¬ r.toInt64 < 0 := by
    rw [Int64.lt_iff_toInt_lt, Int32.toInt_toInt64]
    rw [Int32.lt_iff_toInt_lt] at h
    exact h
  exact ⟨fun z => h1 ((lg_cmp_lt _ _).mp z), (lg_cmp_ge _ _).mpr (Int64.not_lt.mp h1)⟩
theorem min_sp2 {c : Nat} (hc : c ≤ 8) : (if (7 : Int64) < lN c then (7 : Int64) else lN c) = lN (min c 7) := by
  have hcs : c = 0 ∨ c = 1 ∨ c = 2 ∨ c = 3 ∨ c = 4 ∨ c = 5 ∨ c = 6 ∨ c = 7 ∨ c = 8 := by omega
  rcases hcs with rfl | rfl | rfl | rfl | rfl | rfl | rfl | rfl | rfl <;> decide
section LAW
variable {p : Program} {l : Launch} {e : Env} {s : State} {m : MethodId} {below : List Frame} {meth : Method} {c : Code} {E : eE} {G : eG} {b Ln : Nat} {xs : Nat → Int32} {ad : Nat → Nat} {cells slots : Nat} {H : Heap} {locs : List Loc} {ls : Array Slot}
variable {L : TL} {tr : TL} {Sn : TL} {iS : Int32} {P : TP} {R : TR} {B : TB} {Y : TY} {Z : TZ} {T : TT} {N : TN} {lr : Int32} {ld : Int32} {w : Nat → Int32} {u : Nat → Int32} {ch : Int32} {fi : Int32}
/-- the law goes on at 42, with k -/
def LQ (p : Program) (l : Launch) (e : Env) (s : State) (m : MethodId) (below : List Frame) (meth : Method) (c : Code) (E : eE) (b : Nat) (ad : Nat → Nat) (cells slots : Nat) (k : Nat) : Prop :=
  ∀ (L : TL) (tr : TL) (Sn : TL) (iS : Int32) (P : TP) (R : TR) (B : TB) (Y : TY) (Z : TZ) (T : TT) (N : TN) (lr : Int32) (ld : Int32) (w : Nat → Int32) (u : Nat → Int32) (ch : Int32) (fi : Int32), IV L P R B T w u ch fi → ∀ (H : Heap) (locs : List Loc), Hp E (AA s) (wS E ad L tr Sn iS P R B Y Z T N lr ld) s.heap H locs → ∀ ls : Array Slot, lv_has ls 12 [(2, .int (nI k)), (1, .ref (ad 0)), (0, .ref b)] → W p l e room_1 s m #[Value.ref b] below meth c H locs cells slots (lw_Z below #[Value.ref b] s) (F0 m 42 ls [])
set_option maxHeartbeats 4000000 in
set_option maxRecDepth 100000 in
theorem seg223 (hC : Cx p s m #[Value.ref b] c cL_law 12 RL E) (hr : meth.sig.returnType = ret) (hlocks : meth.locks = false) (hcs : cells + 0 ≤ room_1.cells ∧ slots + 0 ≤ room_1.slots) (hX : va_X b Ln xs s s.heap) (hbl : b < s.heap.size) (hSC : SC G (AA s) s s.heap) (hLn : Ln ≤ 260) {k : Nat} (hk : k < 24) (kk : LQ p l e s m below meth c E b ad cells slots (k + 1)) (v : Int32) (hI : IV L P R B T w u ch fi) (hH : Hp E (AA s) (wS E ad L tr Sn iS P R B Y Z T N lr ld) s.heap H locs) (hl : lv_has ls 12 [(3, .int v), (2, .int (nI k)), (1, .ref (ad 0)), (0, .ref b)]) : W p l e room_1 s m #[Value.ref b] below meth c H locs cells slots (lw_Z below #[Value.ref b] s) (F0 m 223 ls []) := by
  have hx := hC.1
  have hb := hC.2.1
  have hml := hC.2.2.1
  have hown := hC.2.2.2.1
  have hta := hC.2.2.2.2.1
  obtain ⟨n, a, mk, hL, hR, hB⟩ := hI.1
  obtain ⟨Y', Z', e1⟩ := wr_fits (P := P) (T := T) hL hR hB hI.2.2.2.1 Y Z (v >>> ((3 : Int32) &&& 31))
  refine lv_aload_n hx hb dL_law_223 rfl (lv_at hl 2 rfl) ?_
  refine lv_iload_n hx hb dL_law_224 rfl (lv_at hl 0 rfl) ?_
  refine lv_iconst (v := 3) hx hb dL_law_225 (by decide) ?_
  refine lv_ishr hx hb dL_law_226 ?_
  refine k_WSsi hC LL_266 ⟨Nat.le_of_ble_eq_true rfl, Nat.le_of_ble_eq_true rfl⟩ hcs (cW_fits l E ad L tr Sn iS P R B Y Z T N lr ld (v >>> ((3 : Int32) &&& 31)) (nI 1, Y', Z') e1) rfl rfl hH rfl hl.1 rfl (Nat.le_of_ble_eq_true rfl) rfl dL_law_227 (fun H locs _ hH => ?_)
  have hH : Hp E (AA s) (wS E ad L tr Sn iS P R B Y' Z' T N lr ld) s.heap H locs := hH
  refine lv_if_ne (tgt := 235) hx hb dL_law_230 (by decide) (fun _ => ?_) (fun c => absurd c (show ¬ nI 1 = 0 by decide))
  refine lv_iinc (v := nI (k + 1)) (lv' := [(2, .int (nI (k + 1))), (3, .int v), (1, .ref (ad 0)), (0, .ref b)]) hx hb dL_law_235 hl (k := 1) rfl (by rw [← nI_add]; rfl) (by decide) rfl (fun ls hl => ?_)
  refine lv_goto (tgt := 42) hx hb dL_law_238 (by decide) ?_
  exact kk L tr Sn iS P R B Y' Z' T N lr ld w u ch fi hI H locs hH ls (lv_sub hl [0, 2, 3] rfl)
set_option maxHeartbeats 4000000 in
set_option maxRecDepth 100000 in
theorem seg152 (hC : Cx p s m #[Value.ref b] c cL_law 12 RL E) (hr : meth.sig.returnType = ret) (hlocks : meth.locks = false) (hcs : cells + 0 ≤ room_1.cells ∧ slots + 0 ≤ room_1.slots) (hX : va_X b Ln xs s s.heap) (hbl : b < s.heap.size) (hSC : SC G (AA s) s s.heap) (hLn : Ln ≤ 260) {k : Nat} (hk : k < 24) (kk : LQ p l e s m below meth c E b ad cells slots (k + 1)) (v : Int32) (hI : IV L P R B T w u ch fi) (hH : Hp E (AA s) (wS E ad L tr Sn iS P R B Y Z T N lr ld) s.heap H locs) (hl : lv_has ls 12 [(3, .int v), (2, .int (nI k)), (1, .ref (ad 0)), (0, .ref b)]) : W p l e room_1 s m #[Value.ref b] below meth c H locs cells slots (lw_Z below #[Value.ref b] s) (F0 m 152 ls []) := by
  have hx := hC.1
  have hb := hC.2.1
  have hml := hC.2.2.1
  have hown := hC.2.2.2.1
  have hta := hC.2.2.2.2.1
  refine lv_iload_n hx hb dL_law_152 rfl (lv_at hl 1 rfl) ?_
  refine lv_iconst (v := 5) hx hb dL_law_153 (by decide) ?_
  refine lv_irem hx hb dL_law_154 (by decide) ?_
  refine lv_if_ne (tgt := 223) hx hb dL_law_155 (by decide) (fun _ => ?_) (fun _ => ?_)
  · exact seg223 hC hr hlocks hcs hX hbl hSC hLn hk kk v hI hH hl
  · obtain ⟨sv, hsv⟩ := state_SV hI.1
    obtain ⟨Y1, e1⟩ := hsv L P R B Y T hI.1
    refine lv_aload_n hx hb dL_law_158 rfl (lv_at hl 2 rfl) ?_
    refine k_WSsl hC LL_246 ⟨Nat.le_of_ble_eq_true rfl, Nat.le_of_ble_eq_true rfl⟩ hcs (cW_state l E ad L tr Sn iS P R B Y Z T N lr ld  (sv, Y1) e1) rfl rfl hH rfl hl.1 rfl (Nat.le_of_ble_eq_true rfl) rfl dL_law_159 (fun H locs _ hH => ?_)
    have hH : Hp E (AA s) (wS E ad L tr Sn iS P R B Y1 Z T N lr ld) s.heap H locs := hH
    refine lv_lstore (lv' := [(10, .long sv), (3, .int v), (2, .int (nI k)), (1, .ref (ad 0)), (0, .ref b)]) hx hb dL_law_162 hl (by decide) rfl (fun ls hl => ?_)
    refine lv_aload_n hx hb dL_law_164 rfl (lv_at hl 3 rfl) ?_
    obtain ⟨n, S1, hn, e2, hLX, hbS, hacc⟩ := save_sp hI Sn iS
    refine k_WSsl hC LL_260 ⟨Nat.le_of_ble_eq_true rfl, Nat.le_of_ble_eq_true rfl⟩ hcs (cW_save l E ad L tr Sn iS P R B Y1 Z T N lr ld  (lN n, S1, nI 1) e2) rfl rfl hH rfl hl.1 rfl (Nat.le_of_ble_eq_true rfl) rfl dL_law_165 (fun H locs _ hH => ?_)
    have hH : Hp E (AA s) (wS E ad L tr S1 (nI 1) P R B Y1 Z T N lr ld) s.heap H locs := hH
    refine lv_aload_n hx hb dL_law_168 rfl (lv_at hl 3 rfl) ?_
    refine lv_iconst (v := 0) hx hb dL_law_169 (by decide) ?_
    refine k_WSsl hC LL_158 ⟨Nat.le_of_ble_eq_true rfl, Nat.le_of_ble_eq_true rfl⟩ hcs (cW_account l E ad L tr S1 (nI 1) P R B Y1 Z T N lr ld (0 : Int32) (lN n, Y1) (hacc Y1)) rfl rfl hH rfl hl.1 rfl (Nat.le_of_ble_eq_true rfl) rfl dL_law_170 (fun H locs _ hH => ?_)
    have hH : Hp E (AA s) (wS E ad L tr S1 (nI 1) P R B Y1 Z T N lr ld) s.heap H locs := hH
    refine W.lcmp hx hb dL_law_173 ?_
    refine lv_if_eq (tgt := 179) hx hb dL_law_174 (by decide) (fun _ => ?_) (fun c => absurd ((lg_cmp_eq _ _).mpr rfl) c)
    obtain ⟨r, L2, tr2, P2, R2, B2, Y2, T2, lr2, ld2, w2, u2, ch2, fi2, e3, hI2, hc2⟩ := acts_sp (tr := tr) (lr := lr) (ld := ld) hI Y1 (v + (1 : Int32))
    refine lv_aload_n hx hb dL_law_179 rfl (lv_at hl 3 rfl) ?_
    refine lv_iload_n hx hb dL_law_180 rfl (lv_at hl 1 rfl) ?_
    refine lv_iconst (v := 1) hx hb dL_law_181 (by decide) ?_
    refine lv_iadd hx hb dL_law_182 ?_
    refine k_WXSl hC LL_249 ⟨Nat.le_of_ble_eq_true rfl, Nat.le_of_ble_eq_true rfl⟩ hcs (cW_acts l E G ad L tr S1 (nI 1) P R B Y1 Z T N lr ld (v + (1 : Int32)) (r.toInt64, L2, tr2, P2, R2, B2, Y2, T2, lr2, ld2) e3) rfl rfl hSC hH rfl hl.1 rfl (Nat.le_of_ble_eq_true rfl) rfl dL_law_183 (fun H locs _ hH => ?_)
    have hH : Hp E (AA s) (wS E ad L2 tr2 S1 (nI 1) P2 R2 B2 Y2 Z T2 N lr2 ld2) s.heap H locs := hH
    refine lv_pop2_2 hx hb dL_law_186 rfl ?_
    refine lv_aload_n hx hb dL_law_187 rfl (lv_at hl 3 rfl) ?_
    obtain ⟨n3, L3, P3, R3, B3, fi3, e4, hI3, hacc3⟩ := restore_sp hI2 hLX hbS
    refine k_WSsl hC LL_262 ⟨Nat.le_of_ble_eq_true rfl, Nat.le_of_ble_eq_true rfl⟩ hcs (cW_restore l E ad L2 tr2 S1 (nI 1) P2 R2 B2 Y2 Z T2 N lr2 ld2  (lN n3, L3, P3, R3, B3) e4) rfl rfl hH rfl hl.1 rfl (Nat.le_of_ble_eq_true rfl) rfl dL_law_188 (fun H locs _ hH => ?_)
    have hH : Hp E (AA s) (wS E ad L3 tr2 S1 (nI 1) P3 R3 B3 Y2 Z T2 N lr2 ld2) s.heap H locs := hH
    refine lv_aload_n hx hb dL_law_191 rfl (lv_at hl 3 rfl) ?_
    refine lv_iconst (v := 0) hx hb dL_law_192 (by decide) ?_
    refine k_WSsl hC LL_158 ⟨Nat.le_of_ble_eq_true rfl, Nat.le_of_ble_eq_true rfl⟩ hcs (cW_account l E ad L3 tr2 S1 (nI 1) P3 R3 B3 Y2 Z T2 N lr2 ld2 (0 : Int32) (lN n3, Y2) (hacc3 Y2)) rfl rfl hH rfl hl.1 rfl (Nat.le_of_ble_eq_true rfl) rfl dL_law_193 (fun H locs _ hH => ?_)
    have hH : Hp E (AA s) (wS E ad L3 tr2 S1 (nI 1) P3 R3 B3 Y2 Z T2 N lr2 ld2) s.heap H locs := hH
    refine W.lcmp hx hb dL_law_196 ?_
    refine lv_if_ne (tgt := 221) hx hb dL_law_197 (by decide) (fun c => absurd ((lg_cmp_eq _ _).mpr rfl) c) (fun _ => ?_)
    obtain ⟨Y4, e5⟩ := hsv L3 P3 R3 B3 Y2 T2 hI3.1
    refine lv_aload_n hx hb dL_law_200 rfl (lv_at hl 3 rfl) ?_
    refine k_WSsl hC LL_246 ⟨Nat.le_of_ble_eq_true rfl, Nat.le_of_ble_eq_true rfl⟩ hcs (cW_state l E ad L3 tr2 S1 (nI 1) P3 R3 B3 Y2 Z T2 N lr2 ld2  (sv, Y4) e5) rfl rfl hH rfl hl.1 rfl (Nat.le_of_ble_eq_true rfl) rfl dL_law_201 (fun H locs _ hH => ?_)
    have hH : Hp E (AA s) (wS E ad L3 tr2 S1 (nI 1) P3 R3 B3 Y4 Z T2 N lr2 ld2) s.heap H locs := hH
    refine lv_lload hx hb dL_law_204 (lv_at hl 0 rfl) ?_
    refine W.lcmp hx hb dL_law_206 ?_
    refine lv_if_ne (tgt := 221) hx hb dL_law_207 (by decide) (fun c => absurd ((lg_cmp_eq _ _).mpr rfl) c) (fun _ => ?_)
    refine lv_aload_n hx hb dL_law_210 rfl (lv_at hl 3 rfl) ?_
    refine k_WSsl hC LL_252 ⟨Nat.le_of_ble_eq_true rfl, Nat.le_of_ble_eq_true rfl⟩ hcs (cW_undo l E ad L3 tr2 S1 (nI 1) P3 R3 B3 Y4 Z T2 N lr2 ld2  ((-15 : Int64), L3, P3, R3, B3) (undo_no hI3)) rfl rfl hH rfl hl.1 rfl (Nat.le_of_ble_eq_true rfl) rfl dL_law_211 (fun H locs _ hH => ?_)
    have hH : Hp E (AA s) (wS E ad L3 tr2 S1 (nI 1) P3 R3 B3 Y4 Z T2 N lr2 ld2) s.heap H locs := hH
    refine lv_ldc2 hx hb hown (hta _ q4_210) dL_law_214 ?_
    refine W.lcmp hx hb dL_law_217 ?_
    refine lv_if_eq (tgt := 223) hx hb dL_law_218 (by decide) (fun _ => ?_) (fun c => absurd ((lg_cmp_eq _ _).mpr rfl) c)
    exact seg223 hC hr hlocks hcs hX hbl hSC hLn hk kk v hI3 hH (lv_sub hl [1, 2, 3, 4] rfl)
set_option maxHeartbeats 4000000 in
set_option maxRecDepth 100000 in
theorem law_body (hC : Cx p s m #[Value.ref b] c cL_law 12 RL E) (hr : meth.sig.returnType = ret) (hlocks : meth.locks = false) (hcs : cells + 0 ≤ room_1.cells ∧ slots + 0 ≤ room_1.slots) (hX : va_X b Ln xs s s.heap) (hbl : b < s.heap.size) (hSC : SC G (AA s) s s.heap) (hLn : Ln ≤ 260) {k : Nat} (hk : k < 24) (kk : LQ p l e s m below meth c E b ad cells slots (k + 1)) (hI : IV L P R B T w u ch fi) (hH : Hp E (AA s) (wS E ad L tr Sn iS P R B Y Z T N lr ld) s.heap H locs) (hl : lv_has ls 12 [(2, .int (nI k)), (1, .ref (ad 0)), (0, .ref b)]) : W p l e room_1 s m #[Value.ref b] below meth c H locs cells slots (lw_Z below #[Value.ref b] s) (F0 m 42 ls []) := by
  have hx := hC.1
  have hb := hC.2.1
  have hml := hC.2.2.1
  have hown := hC.2.2.2.1
  have hta := hC.2.2.2.2.1
  refine lv_iload_n hx hb dL_law_42 rfl (lv_at hl 0 rfl) ?_
  refine lv_bipush (v := 24) hx hb dL_law_43 (by decide) ?_
  refine lv_icmp_ge (tgt := 241) hx hb dL_law_45 (by decide) (fun c => absurd (show nI 24 ≤ nI k from c) (nI_ge hk (by omega))) (fun _ => ?_)
  refine lv_aload_n hx hb dL_law_48 rfl (lv_at hl 2 rfl) ?_
  refine lv_iload_n hx hb dL_law_49 rfl (lv_at hl 0 rfl) ?_
  refine k_CS (by omega) hLn hC LL_242 ⟨Nat.le_of_ble_eq_true rfl, Nat.le_of_ble_eq_true rfl⟩ hcs hX hbl hH.2.2 hl.1 (Nat.le_of_ble_eq_true rfl) dL_law_50 ?_
  generalize cellv Ln xs (nI k) = v
  refine lv_istore_n (lv' := [(3, .int v), (2, .int (nI k)), (1, .ref (ad 0)), (0, .ref b)]) hx hb dL_law_53 rfl hl (by decide) rfl (fun ls hl => ?_)
  refine lv_aload_n hx hb dL_law_54 rfl (lv_at hl 2 rfl) ?_
  obtain ⟨sv, hsv⟩ := state_SV hI.1
  obtain ⟨Y1, e1⟩ := hsv L P R B Y T hI.1
  refine k_WSsl hC LL_246 ⟨Nat.le_of_ble_eq_true rfl, Nat.le_of_ble_eq_true rfl⟩ hcs (cW_state l E ad L tr Sn iS P R B Y Z T N lr ld  (sv, Y1) e1) rfl rfl hH rfl hl.1 rfl (Nat.le_of_ble_eq_true rfl) rfl dL_law_55 (fun H locs _ hH => ?_)
  have hH : Hp E (AA s) (wS E ad L tr Sn iS P R B Y1 Z T N lr ld) s.heap H locs := hH
  refine lv_lstore (lv' := [(4, .long sv), (3, .int v), (2, .int (nI k)), (1, .ref (ad 0)), (0, .ref b)]) hx hb dL_law_58 hl (by decide) rfl (fun ls hl => ?_)
  refine lv_aload_n hx hb dL_law_60 rfl (lv_at hl 3 rfl) ?_
  refine lv_bipush (v := 10) hx hb dL_law_61 (by decide) ?_
  obtain ⟨q, hq, hch, hP2⟩ := hI.2.1.c
  refine k_WSsl hC LL_158 ⟨Nat.le_of_ble_eq_true rfl, Nat.le_of_ble_eq_true rfl⟩ hcs (cW_account l E ad L tr Sn iS P R B Y1 Z T N lr ld (10 : Int32) (lN q, Y1) (acc10_sp hq hP2 L R B Y1 T)) rfl rfl hH rfl hl.1 rfl (Nat.le_of_ble_eq_true rfl) rfl dL_law_63 (fun H locs _ hH => ?_)
  have hH : Hp E (AA s) (wS E ad L tr Sn iS P R B Y1 Z T N lr ld) s.heap H locs := hH
  refine lv_lstore (lv' := [(6, .long (lN q)), (4, .long sv), (3, .int v), (2, .int (nI k)), (1, .ref (ad 0)), (0, .ref b)]) hx hb dL_law_66 hl (by decide) rfl (fun ls hl => ?_)
  refine lv_aload_n hx hb dL_law_68 rfl (lv_at hl 4 rfl) ?_
  refine lv_iload_n hx hb dL_law_69 rfl (lv_at hl 2 rfl) ?_
  obtain ⟨r, L2, tr2, P2, R2, B2, Y2, T2, lr2, ld2, w2, u2, ch2, fi2, e3, hI2, hc2⟩ := acts_sp (tr := tr) (lr := lr) (ld := ld) hI Y1 v
  refine k_WXSl hC LL_249 ⟨Nat.le_of_ble_eq_true rfl, Nat.le_of_ble_eq_true rfl⟩ hcs (cW_acts l E G ad L tr Sn iS P R B Y1 Z T N lr ld v (r.toInt64, L2, tr2, P2, R2, B2, Y2, T2, lr2, ld2) e3) rfl rfl hSC hH rfl hl.1 rfl (Nat.le_of_ble_eq_true rfl) rfl dL_law_70 (fun H locs _ hH => ?_)
  have hH : Hp E (AA s) (wS E ad L2 tr2 Sn iS P2 R2 B2 Y2 Z T2 N lr2 ld2) s.heap H locs := hH
  refine lv_lstore (lv' := [(8, .long r.toInt64), (6, .long (lN q)), (4, .long sv), (3, .int v), (2, .int (nI k)), (1, .ref (ad 0)), (0, .ref b)]) hx hb dL_law_73 hl (by decide) rfl (fun ls hl => ?_)
  refine lv_lload hx hb dL_law_75 (lv_at hl 0 rfl) ?_
  refine lv_lconst (v := 0) hx hb dL_law_77 (by decide) ?_
  refine W.lcmp hx hb dL_law_78 ?_
  rcases hc2 with ⟨hneg, hw, -, -, -⟩ | ⟨hpos, hK⟩
  · skip
    refine lv_if_ge (tgt := 92) hx hb dL_law_79 (by decide) (fun c => absurd c (r_neg hneg).2) (fun _ => ?_)
    obtain ⟨Y3, e4⟩ := hsv L2 P2 R2 B2 Y2 T2 (ST.cong hI2.1 (fun k hk => (hw k hk).symm))
    refine lv_aload_n hx hb dL_law_82 rfl (lv_at hl 5 rfl) ?_
    refine k_WSsl hC LL_246 ⟨Nat.le_of_ble_eq_true rfl, Nat.le_of_ble_eq_true rfl⟩ hcs (cW_state l E ad L2 tr2 Sn iS P2 R2 B2 Y2 Z T2 N lr2 ld2  (sv, Y3) e4) rfl rfl hH rfl hl.1 rfl (Nat.le_of_ble_eq_true rfl) rfl dL_law_83 (fun H locs _ hH => ?_)
    have hH : Hp E (AA s) (wS E ad L2 tr2 Sn iS P2 R2 B2 Y3 Z T2 N lr2 ld2) s.heap H locs := hH
    refine lv_lload hx hb dL_law_86 (lv_at hl 2 rfl) ?_
    refine W.lcmp hx hb dL_law_88 ?_
    refine lv_if_ne (tgt := 103) hx hb dL_law_89 (by decide) (fun c => absurd ((lg_cmp_eq _ _).mpr rfl) c) (fun _ => ?_)
    refine lv_aload_n hx hb dL_law_92 rfl (lv_at hl 5 rfl) ?_
    refine lv_bipush (v := 9) hx hb dL_law_93 (by decide) ?_
    refine k_WSsl hC LL_158 ⟨Nat.le_of_ble_eq_true rfl, Nat.le_of_ble_eq_true rfl⟩ hcs (cW_account l E ad L2 tr2 Sn iS P2 R2 B2 Y3 Z T2 N lr2 ld2 (9 : Int32) (lN 0, Y3) (acc9_sp hI2.2.2.1 L2 P2 R2 B2 Y3)) rfl rfl hH rfl hl.1 rfl (Nat.le_of_ble_eq_true rfl) rfl dL_law_95 (fun H locs _ hH => ?_)
    have hH : Hp E (AA s) (wS E ad L2 tr2 Sn iS P2 R2 B2 Y3 Z T2 N lr2 ld2) s.heap H locs := hH
    refine lv_lconst (v := 0) hx hb dL_law_98 (by decide) ?_
    refine W.lcmp hx hb dL_law_99 ?_
    refine lv_if_eq (tgt := 105) hx hb dL_law_100 (by decide) (fun _ => ?_) (fun c => absurd ((lg_cmp_eq _ _).mpr rfl) c)
    refine lv_lload hx hb dL_law_105 (lv_at hl 0 rfl) ?_
    refine lv_lconst (v := 0) hx hb dL_law_107 (by decide) ?_
    refine W.lcmp hx hb dL_law_108 ?_
    refine lv_if_lt (tgt := 152) hx hb dL_law_109 (by decide) (fun _ => ?_) (fun c => absurd (r_neg hneg).1 c)
    exact seg152 hC hr hlocks hcs hX hbl hSC hLn hk kk v hI2 hH (lv_sub hl [3, 4, 5, 6] rfl)
  · skip
    refine lv_if_ge (tgt := 92) hx hb dL_law_79 (by decide) (fun _ => ?_) (fun c => absurd (r_pos hpos).2 c)
    refine lv_aload_n hx hb dL_law_92 rfl (lv_at hl 5 rfl) ?_
    refine lv_bipush (v := 9) hx hb dL_law_93 (by decide) ?_
    refine k_WSsl hC LL_158 ⟨Nat.le_of_ble_eq_true rfl, Nat.le_of_ble_eq_true rfl⟩ hcs (cW_account l E ad L2 tr2 Sn iS P2 R2 B2 Y2 Z T2 N lr2 ld2 (9 : Int32) (lN 0, Y2) (acc9_sp hI2.2.2.1 L2 P2 R2 B2 Y2)) rfl rfl hH rfl hl.1 rfl (Nat.le_of_ble_eq_true rfl) rfl dL_law_95 (fun H locs _ hH => ?_)
    have hH : Hp E (AA s) (wS E ad L2 tr2 Sn iS P2 R2 B2 Y2 Z T2 N lr2 ld2) s.heap H locs := hH
    refine lv_lconst (v := 0) hx hb dL_law_98 (by decide) ?_
    refine W.lcmp hx hb dL_law_99 ?_
    refine lv_if_eq (tgt := 105) hx hb dL_law_100 (by decide) (fun _ => ?_) (fun c => absurd ((lg_cmp_eq _ _).mpr rfl) c)
    refine lv_lload hx hb dL_law_105 (lv_at hl 0 rfl) ?_
    refine lv_lconst (v := 0) hx hb dL_law_107 (by decide) ?_
    refine W.lcmp hx hb dL_law_108 ?_
    refine lv_if_lt (tgt := 152) hx hb dL_law_109 (by decide) (fun c => absurd c (r_pos hpos).1) (fun _ => ?_)
    refine lv_iload_n hx hb dL_law_112 rfl (lv_at hl 4 rfl) ?_
    refine lv_iconst (v := 3) hx hb dL_law_113 (by decide) ?_
    refine lv_irem hx hb dL_law_114 (by decide) ?_
    refine lv_if_ne (tgt := 152) hx hb dL_law_115 (by decide) (fun _ => ?_) (fun _ => ?_)
    · exact seg152 hC hr hlocks hcs hX hbl hSC hLn hk kk v hI2 hH (lv_sub hl [3, 4, 5, 6] rfl)
    · obtain ⟨q2, L3, P3, R3, B3, ch3, hq2, hq8, e5, hI3⟩ := undo_sp hI.2.1 hK hI2
      have eq : q2 = q := (nI_eq (by omega) (by omega)).mp (hq2.symm.trans hch)
      rw [eq] at e5
      refine lv_aload_n hx hb dL_law_118 rfl (lv_at hl 5 rfl) ?_
      refine k_WSsl hC LL_252 ⟨Nat.le_of_ble_eq_true rfl, Nat.le_of_ble_eq_true rfl⟩ hcs (cW_undo l E ad L2 tr2 Sn iS P2 R2 B2 Y2 Z T2 N lr2 ld2  (lN (min q 7), L3, P3, R3, B3) e5) rfl rfl hH rfl hl.1 rfl (Nat.le_of_ble_eq_true rfl) rfl dL_law_119 (fun H locs _ hH => ?_)
      have hH : Hp E (AA s) (wS E ad L3 tr2 Sn iS P3 R3 B3 Y2 Z T2 N lr2 ld2) s.heap H locs := hH
      refine lv_lload hx hb dL_law_122 (lv_at hl 1 rfl) ?_
      refine lv_ldc2 hx hb hown (hta _ q4_209) dL_law_124 ?_
      refine va_mmin_long hx hb (hml.trans hl.1.symm) hown (hta _ q4_206) (hta _ q4_207) (hta _ q1_11) (hta _ q4_208) (Nat.le_of_ble_eq_true rfl) (Nat.le_of_ble_eq_true rfl) hcs.1 hcs.2 dL_law_127 ?_
      rw [show (if (7 : Int64) < lN q then (7 : Int64) else lN q) = lN (min q 7) from min_sp2 hq]
      refine W.lcmp hx hb dL_law_130 ?_
      refine lv_if_ne (tgt := 144) hx hb dL_law_131 (by decide) (fun c => absurd ((lg_cmp_eq _ _).mpr rfl) c) (fun _ => ?_)
      obtain ⟨Y4, e6⟩ := hsv L3 P3 R3 B3 Y2 T2 hI3.1
      refine lv_aload_n hx hb dL_law_134 rfl (lv_at hl 5 rfl) ?_
      refine k_WSsl hC LL_246 ⟨Nat.le_of_ble_eq_true rfl, Nat.le_of_ble_eq_true rfl⟩ hcs (cW_state l E ad L3 tr2 Sn iS P3 R3 B3 Y2 Z T2 N lr2 ld2  (sv, Y4) e6) rfl rfl hH rfl hl.1 rfl (Nat.le_of_ble_eq_true rfl) rfl dL_law_135 (fun H locs _ hH => ?_)
      have hH : Hp E (AA s) (wS E ad L3 tr2 Sn iS P3 R3 B3 Y4 Z T2 N lr2 ld2) s.heap H locs := hH
      refine lv_lload hx hb dL_law_138 (lv_at hl 2 rfl) ?_
      refine W.lcmp hx hb dL_law_140 ?_
      refine lv_if_eq (tgt := 146) hx hb dL_law_141 (by decide) (fun _ => ?_) (fun c => absurd ((lg_cmp_eq _ _).mpr rfl) c)
      obtain ⟨r5, L5, tr5, P5, R5, B5, Y5, T5, lr5, ld5, w5, u5, ch5, fi5, e7, hI5, hc5⟩ := acts_sp (tr := tr2) (lr := lr2) (ld := ld2) hI3 Y4 v
      refine lv_aload_n hx hb dL_law_146 rfl (lv_at hl 5 rfl) ?_
      refine lv_iload_n hx hb dL_law_147 rfl (lv_at hl 3 rfl) ?_
      refine k_WXSl hC LL_249 ⟨Nat.le_of_ble_eq_true rfl, Nat.le_of_ble_eq_true rfl⟩ hcs (cW_acts l E G ad L3 tr2 Sn iS P3 R3 B3 Y4 Z T2 N lr2 ld2 v (r5.toInt64, L5, tr5, P5, R5, B5, Y5, T5, lr5, ld5) e7) rfl rfl hSC hH rfl hl.1 rfl (Nat.le_of_ble_eq_true rfl) rfl dL_law_148 (fun H locs _ hH => ?_)
      have hH : Hp E (AA s) (wS E ad L5 tr5 Sn iS P5 R5 B5 Y5 Z T5 N lr5 ld5) s.heap H locs := hH
      refine lv_pop2_2 hx hb dL_law_151 rfl ?_
      exact seg152 hC hr hlocks hcs hX hbl hSC hLn hk kk v hI5 hH (lv_sub hl [3, 4, 5, 6] rfl)
set_option maxHeartbeats 4000000 in
set_option maxRecDepth 100000 in
theorem law_end (hC : Cx p s m #[Value.ref b] c cL_law 12 RL E) (hr : meth.sig.returnType = ret) (hlocks : meth.locks = false) (hcs : cells + 0 ≤ room_1.cells ∧ slots + 0 ≤ room_1.slots) (hX : va_X b Ln xs s s.heap) (hbl : b < s.heap.size) (hSC : SC G (AA s) s s.heap) (hLn : Ln ≤ 260) : LQ p l e s m below meth c E b ad cells slots 24 := by
  intro L tr Sn iS P R B Y Z T N lr ld w u ch fi hI H locs hH ls hl
  have hx := hC.1
  have hb := hC.2.1
  have hml := hC.2.2.1
  have hown := hC.2.2.2.1
  have hta := hC.2.2.2.2.1
  refine lv_iload_n hx hb dL_law_42 rfl (lv_at hl 0 rfl) ?_
  refine lv_bipush (v := 24) hx hb dL_law_43 (by decide) ?_
  refine lv_icmp_ge (tgt := 241) hx hb dL_law_45 (by decide) (fun _ => ?_) (fun c => absurd (by decide) c)
  refine lv_iconst (v := 1) hx hb dL_law_241 (by decide) ?_
  refine va_forget (fun q hq => hH.2.2.2.2 q hq) ?_
  refine W.widen (k := 600000) (n := 7302250) (show cells ≤ 600000 from hcs.1) (show slots ≤ 7302250 from hcs.2) ?_
  exact lw_ret hx hb hr hlocks dL_law_242
theorem law_loop (hC : Cx p s m #[Value.ref b] c cL_law 12 RL E) (hr : meth.sig.returnType = ret) (hlocks : meth.locks = false) (hcs : cells + 0 ≤ room_1.cells ∧ slots + 0 ≤ room_1.slots) (hX : va_X b Ln xs s s.heap) (hbl : b < s.heap.size) (hSC : SC G (AA s) s s.heap) (hLn : Ln ≤ 260) : ∀ d k, k + d = 24 → LQ p l e s m below meth c E b ad cells slots k := by
  intro d
  induction d with
  | zero =>
    intro k h
    rw [show k = 24 by omega]
    exact law_end hC hr hlocks hcs hX hbl hSC hLn
  | succ d ih =>
    intro k h L tr Sn iS P R B Y Z T N lr ld w u ch fi hI H locs hH ls hl
    exact law_body hC hr hlocks hcs hX hbl hSC hLn (by omega) (ih (k + 1) (by omega)) hI hH hl
/-- the law goes on at 10, with k -/
def LQF (p : Program) (l : Launch) (e : Env) (s : State) (m : MethodId) (below : List Frame) (meth : Method) (c : Code) (E : eE) (b : Nat) (ad : Nat → Nat) (cells slots : Nat) (k : Nat) : Prop :=
  ∀ (L : TL) (tr : TL) (Sn : TL) (iS : Int32) (P : TP) (R : TR) (B : TB) (Y : TY) (Z : TZ) (T : TT) (N : TN) (lr : Int32) (ld : Int32) (w : Nat → Int32) (u : Nat → Int32) (ch : Int32) (fi : Int32), IV L P R B T w u ch fi → ∀ (H : Heap) (locs : List Loc), Hp E (AA s) (wS E ad L tr Sn iS P R B Y Z T N lr ld) s.heap H locs → ∀ ls : Array Slot, lv_has ls 12 [(2, .int (nI k)), (1, .ref (ad 0)), (0, .ref b)] → W p l e room_1 s m #[Value.ref b] below meth c H locs cells slots (lw_Z below #[Value.ref b] s) (F0 m 10 ls [])
set_option maxHeartbeats 4000000 in
set_option maxRecDepth 100000 in
theorem four_body (hC : Cx p s m #[Value.ref b] c cL_law 12 RL E) (hr : meth.sig.returnType = ret) (hlocks : meth.locks = false) (hcs : cells + 0 ≤ room_1.cells ∧ slots + 0 ≤ room_1.slots) (hX : va_X b Ln xs s s.heap) (hbl : b < s.heap.size) (hSC : SC G (AA s) s s.heap) (hLn : Ln ≤ 260) {k : Nat} (hk : k < 4) (kk : LQF p l e s m below meth c E b ad cells slots (k + 1)) (hI : IV L P R B T w u ch fi) (hH : Hp E (AA s) (wS E ad L tr Sn iS P R B Y Z T N lr ld) s.heap H locs) (hl : lv_has ls 12 [(2, .int (nI k)), (1, .ref (ad 0)), (0, .ref b)]) : W p l e room_1 s m #[Value.ref b] below meth c H locs cells slots (lw_Z below #[Value.ref b] s) (F0 m 10 ls []) := by
  have hx := hC.1
  have hb := hC.2.1
  have hml := hC.2.2.1
  have hown := hC.2.2.2.1
  have hta := hC.2.2.2.2.1
  refine lv_iload_n hx hb dL_law_10 rfl (lv_at hl 0 rfl) ?_
  refine lv_iconst (v := 4) hx hb dL_law_11 (by decide) ?_
  refine lv_icmp_ge (tgt := 40) hx hb dL_law_12 (by decide) (fun c => absurd (show nI 4 ≤ nI k from c) (nI_ge hk (by omega))) (fun _ => ?_)
  refine lv_aload_n hx hb dL_law_15 rfl (lv_at hl 1 rfl) ?_
  refine lv_aload_n hx hb dL_law_16 rfl (lv_at hl 2 rfl) ?_
  refine lv_iconst (v := 0) hx hb dL_law_17 (by decide) ?_
  refine k_CS (k := 0) (by omega) hLn hC LL_242 ⟨Nat.le_of_ble_eq_true rfl, Nat.le_of_ble_eq_true rfl⟩ hcs hX hbl hH.2.2 hl.1 (Nat.le_of_ble_eq_true rfl) dL_law_18 ?_
  generalize cellv Ln xs (nI 0) = x
  refine lv_iconst (v := 5) hx hb dL_law_21 (by decide) ?_
  refine lv_iload_n hx hb dL_law_22 rfl (lv_at hl 0 rfl) ?_
  refine lv_imul hx hb dL_law_23 ?_
  refine lv_ishr hx hb dL_law_24 ?_
  refine lv_bipush (v := 32) hx hb dL_law_25 (by decide) ?_
  obtain ⟨c1, hc1, e1⟩ := chosen_sp (x >>> (((5 : Int32) * nI k) &&& 31)) (show 0 < 32 by omega) (by omega)
  refine k_PSi hC LL_167 ⟨Nat.le_of_ble_eq_true rfl, Nat.le_of_ble_eq_true rfl⟩ hcs (cW_chosen l E (x >>> (((5 : Int32) * nI k) &&& 31)) (32 : Int32) (nI c1) e1) rfl rfl vP_nil hl.1 rfl (Nat.le_of_ble_eq_true rfl) rfl dL_law_27 (fun _ => ?_)
  obtain ⟨r, L2, P2, R2, B2, lr2, ld2, w2, u2, ch2, fi2, e2, hI2, -⟩ := aput (lr := lr) (ld := ld) hI (nI c1)
  refine k_WSsl hC LL_175 ⟨Nat.le_of_ble_eq_true rfl, Nat.le_of_ble_eq_true rfl⟩ hcs (cW_put l E ad L tr Sn iS P R B Y Z T N lr ld (nI c1) (r.toInt64, L2, P2, R2, B2, lr2, ld2) e2) rfl rfl hH rfl hl.1 rfl (Nat.le_of_ble_eq_true rfl) rfl dL_law_30 (fun H locs _ hH => ?_)
  have hH : Hp E (AA s) (wS E ad L2 tr Sn iS P2 R2 B2 Y Z T N lr2 ld2) s.heap H locs := hH
  refine lv_pop2_2 hx hb dL_law_33 rfl ?_
  refine lv_iinc (v := nI (k + 1)) (lv' := [(2, .int (nI (k + 1))), (1, .ref (ad 0)), (0, .ref b)]) hx hb dL_law_34 hl (k := 0) rfl (by rw [← nI_add]; rfl) (by decide) rfl (fun ls hl => ?_)
  refine lv_goto (tgt := 10) hx hb dL_law_37 (by decide) ?_
  exact kk L2 tr Sn iS P2 R2 B2 Y Z T N lr2 ld2 w2 u2 ch2 fi2 hI2 H locs hH ls hl
set_option maxHeartbeats 4000000 in
set_option maxRecDepth 100000 in
theorem four_end (hC : Cx p s m #[Value.ref b] c cL_law 12 RL E) (hr : meth.sig.returnType = ret) (hlocks : meth.locks = false) (hcs : cells + 0 ≤ room_1.cells ∧ slots + 0 ≤ room_1.slots) (hX : va_X b Ln xs s s.heap) (hbl : b < s.heap.size) (hSC : SC G (AA s) s s.heap) (hLn : Ln ≤ 260) : LQF p l e s m below meth c E b ad cells slots 4 := by
  intro L tr Sn iS P R B Y Z T N lr ld w u ch fi hI H locs hH ls hl
  have hx := hC.1
  have hb := hC.2.1
  have hml := hC.2.2.1
  have hown := hC.2.2.2.1
  have hta := hC.2.2.2.2.1
  refine lv_iload_n hx hb dL_law_10 rfl (lv_at hl 0 rfl) ?_
  refine lv_iconst (v := 4) hx hb dL_law_11 (by decide) ?_
  refine lv_icmp_ge (tgt := 40) hx hb dL_law_12 (by decide) (fun _ => ?_) (fun c => absurd (by decide) c)
  refine lv_iconst (v := 1) hx hb dL_law_40 (by decide) ?_
  refine lv_istore_n (lv' := [(2, .int 1), (1, .ref (ad 0)), (0, .ref b)]) hx hb dL_law_41 rfl hl (by decide) rfl (fun ls hl => ?_)
  exact law_loop hC hr hlocks hcs hX hbl hSC hLn 23 1 (by omega) L tr Sn iS P R B Y Z T N lr ld w u ch fi hI H locs hH ls hl
theorem four_loop (hC : Cx p s m #[Value.ref b] c cL_law 12 RL E) (hr : meth.sig.returnType = ret) (hlocks : meth.locks = false) (hcs : cells + 0 ≤ room_1.cells ∧ slots + 0 ≤ room_1.slots) (hX : va_X b Ln xs s s.heap) (hbl : b < s.heap.size) (hSC : SC G (AA s) s s.heap) (hLn : Ln ≤ 260) : ∀ d k, k + d = 4 → LQF p l e s m below meth c E b ad cells slots k := by
  intro d
  induction d with
  | zero =>
    intro k h
    rw [show k = 4 by omega]
    exact four_end hC hr hlocks hcs hX hbl hSC hLn
  | succ d ih =>
    intro k h L tr Sn iS P R B Y Z T N lr ld w u ch fi hI H locs hH ls hl
    exact four_body hC hr hlocks hcs hX hbl hSC hLn (by omega) (ih (k + 1) (by omega)) hI hH hl
end LAW
