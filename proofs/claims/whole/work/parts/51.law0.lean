/-- the class' state beside the reference's -/
def Rl (L Sn : TL) (iS : Int32) (P : TP) (R : TR) (B : TB) (T : TT) (N : TN) (w u sr : Nat → Int32) (chg fi : Int32) (line2 : Nat → Int32) (ll : Int32) (text2 : Nat → Int32) (tn : Nat) : Prop :=
  ST L w R B ∧ PA P u chg fi ∧ (iS = nI 0 ∨ (iS = nI 1 ∧ LX Sn sr)) ∧ TXr T.1 text2 tn ∧ T.2.1 = nI tn ∧ LI N line2 ll
theorem PA.size {P : TP} {u : Nat → Int32} {ch fi : Int32} (h : PA P u ch fi) : P.2.2 = ch := by
  obtain ⟨c, f1, f2, -, -, -, -, e2, e3, -⟩ := h
  rw [e2, e3]
theorem st_reason (a b : Int32) (x : Int32) : fM_reason a b x = fS_reason a b x := rfl
/-- the states as they begin -/
theorem Rl.start (sr w u : Nat → Int32) (hw : ∀ k, w k = 0) (line2 text2 : Nat → Int32) : Rl iLs iLs (0 : Int32) iPs iRs iBs iTs iNs w u sr (0 : Int32) (0 : Int32) line2 (0 : Int32) text2 0 := by
  have hm : LW iLs w 0 (fun _ => 0) (fun _ => false) := by
    refine ⟨⟨by omega, fun p hp => by omega, hw 0, fun k hk => by omega⟩, rfl, fun k hk => by omega, ?_, rfl, fun k _ _ => by rw [hw]; rfl, (hw 1).symm, (hw 2).symm, (hw 3).symm⟩
    decide +kernel
  refine ⟨⟨0, fun _ => 0, fun _ => false, hm, ⟨⟨by omega, fun r hr => ?_⟩, rfl⟩, ⟨by omega, rfl, rfl, fun j k hj => absurd hj (by rw [cn_0]; omega), fun j k k' hj => absurd hj (by rw [cn_0]; omega)⟩⟩, ⟨0, 0, 0, by omega, by omega, by omega, rfl, rfl, rfl, rfl, fun j hj => by omega⟩, Or.inl rfl, ⟨by omega, fun k hk => by omega⟩, rfl, ⟨0, by omega, rfl, rfl, fun k hk => by omega⟩⟩
  have e : rp (qb (fun _ => 0)) 0 r = [] := List.length_eq_zero_iff.mp (rp_len _ _ _)
  rw [e]
  refine ⟨rfl, fun b hb => ?_, rfl⟩
  simp [ca]
  rfl
theorem st_oneShare2 {L : TL} {w : Nat → Int32} {R : TR} {B : TB} (h : ST L w R B) (x : Int32) (at_ : Nat → Int32) : ∃ r at', fS_oneShare L R x = some r ∧ fM_oneShare w at_ x = some (r, at') ∧ vf_n64 (FP.f2d r) := by
  obtain ⟨r, at', e1, e2⟩ := st_oneShare h x at_
  refine ⟨r, at', e1, e2, ?_⟩
  have key : ∀ z : UInt32, vf_n32 z → vf_n64 (FP.f2d z) := by
    intro z hz
    have h1 : z.toNat % 2 ^ 31 ≤ 2139095040 := by
      unfold vf_n32 at hz
      rw [UInt32.le_iff_toNat_le, UInt32.toNat_and, show (0x7fffffff : UInt32).toNat = 2 ^ 31 - 1 from rfl, Nat.and_two_pow_sub_one_eq_mod, show (0x7f800000 : UInt32).toNat = 2139095040 from rfl] at hz
      exact hz
    have h2 : FP.Core.fIsNaN z = false := by
      cases hq : FP.Core.fIsNaN z
      · rfl
      · have := (FP.Core.isNaN_bits32 z).mp hq
        omega
    have h3 : FP.Core.dIsNaN (FP.Core.f2d z) = false := FP.Core.f2d_out h2
    have h5 : FP.f2d z = FP.Core.f2d z := by
      unfold FP.f2d
      rw [h2]
      rfl
    rw [h5]
    unfold vf_n64
    generalize FP.Core.f2d z = y at h3
    have h4 : ¬ 9218868437227405312 < y.toNat % 2 ^ 63 := fun q => by
      rw [(FP.Core.isNaN_bits y).mpr q] at h3
      cases h3
    rw [UInt64.le_iff_toNat_le, UInt64.toNat_and, show (0x7fffffffffffffff : UInt64).toNat = 2 ^ 63 - 1 from rfl, Nat.and_two_pow_sub_one_eq_mod, show (0x7ff0000000000000 : UInt64).toNat = 9218868437227405312 from rfl]
    omega
  apply key
  unfold fS_oneShare at e1
  by_cases c1 : fS_isRow x = 0
  · rw [if_pos c1] at e1
    cases e1
    unfold vf_n32
    decide +kernel
  · rw [if_neg c1] at e1
    by_cases c2 : fL_size L.2.1 ≤ 0
    · rw [if_pos c2] at e1
      cases e1
      unfold vf_n32
      decide +kernel
    · rw [if_neg c2] at e1
      obtain ⟨t3, h3, e1⟩ := ob e1
      obtain ⟨w4, h4, e1⟩ := ob e1
      cases e1
      obtain ⟨g1, g2⟩ := dvF_ok h4
      rw [← g2]
      exact g1
theorem LL_13 : LV RL 13 yX8_put cX8_put 2 (some .int) 1 := ⟨q1_223, q1_224, q1_225, q1_1, q1_226, (by decide +kernel)⟩
theorem LL_17 : LV RL 17 yX9_put cX9_put 3 (some .int) 1 := ⟨q4_200, q4_201, q4_202, q1_10, q4_203, (by decide +kernel)⟩
theorem LL_18 : LV RL 18 yX8_insert cX8_insert 3 (some .int) 2 := ⟨q2_77, q2_78, q2_79, q1_1, q2_80, (by decide +kernel)⟩
theorem LL_22 : LV RL 22 yX9_insert cX9_insert 4 (some .int) 2 := ⟨q4_238, q4_239, q5_0, q1_10, q5_1, (by decide +kernel)⟩
theorem LL_23 : LV RL 23 yX8_take cX8_take 3 (some .int) 1 := ⟨q2_81, q2_82, q2_83, q1_1, q2_84, (by decide +kernel)⟩
theorem LL_26 : LV RL 26 yX9_take cX9_take 2 (some .int) 1 := ⟨q5_2, q5_3, q5_4, q1_10, q5_5, (by decide +kernel)⟩
theorem LL_27 : LV RL 27 yX8_swap cX8_swap 2 (some .int) 1 := ⟨q2_95, q2_96, q2_97, q1_1, q2_98, (by decide +kernel)⟩
theorem LL_30 : LV RL 30 yX9_swap cX9_swap 3 (some .int) 1 := ⟨q5_18, q5_19, q5_20, q1_10, q5_21, (by decide +kernel)⟩
theorem LL_31 : LV RL 31 yX8_mark cX8_mark 3 (some .int) 2 := ⟨q2_108, q2_109, q2_110, q1_1, q2_111, (by decide +kernel)⟩
theorem LL_35 : LV RL 35 yX9_mark cX9_mark 4 (some .int) 2 := ⟨q5_30, q5_31, q5_32, q1_10, q5_33, (by decide +kernel)⟩
theorem LL_36 : LV RL 36 yX8_weight cX8_weight 2 (some .int) 1 := ⟨q2_129, q2_130, q2_131, q1_1, q2_132, (by decide +kernel)⟩
theorem LL_39 : LV RL 39 yX9_weight cX9_weight 2 (some .int) 1 := ⟨q5_97, q5_98, q5_99, q1_10, q5_100, (by decide +kernel)⟩
theorem LL_40 : LV RL 40 yX8_weightAgain cX8_weightAgain 2 (some .int) 1 := ⟨q2_133, q2_134, q2_135, q1_1, q2_136, (by decide +kernel)⟩
theorem LL_43 : LV RL 43 yX9_weightAgain cX9_weightAgain 2 (some .int) 1 := ⟨q5_101, q5_102, q5_103, q1_10, q5_104, (by decide +kernel)⟩
theorem LL_44 : LV RL 44 yX8_bit cX8_bit 3 (some .int) 2 := ⟨q2_158, q2_159, q2_160, q1_1, q2_161, (by decide +kernel)⟩
theorem LL_47 : LV RL 47 yX9_bit cX9_bit 3 (some .int) 2 := ⟨q5_50, q5_51, q5_52, q1_10, q5_53, (by decide +kernel)⟩
theorem LL_48 : LV RL 48 yX8_bits cX8_bits 2 (some .long) 1 := ⟨q2_164, q2_165, q2_166, q1_1, q2_167, (by decide +kernel)⟩
theorem LL_52 : LV RL 52 yX9_bits cX9_bits 5 (some .long) 1 := ⟨q5_68, q5_69, q5_70, q1_10, q5_71, (by decide +kernel)⟩
theorem LL_53 : LV RL 53 yX8_rank cX8_rank 4 (some .int) 3 := ⟨q2_172, q2_173, q2_174, q1_1, q2_175, (by decide +kernel)⟩
theorem LL_57 : LV RL 57 yX9_rank cX9_rank 4 (some .int) 3 := ⟨q5_73, q5_74, q5_75, q1_10, q5_76, (by decide +kernel)⟩
theorem LL_58 : LV RL 58 yX8_rankAgain cX8_rankAgain 4 (some .int) 3 := ⟨q2_181, q2_182, q2_183, q1_1, q2_184, (by decide +kernel)⟩
theorem LL_61 : LV RL 61 yX9_rankAgain cX9_rankAgain 5 (some .int) 3 := ⟨q5_81, q5_82, q5_83, q1_10, q5_84, (by decide +kernel)⟩
theorem LL_62 : LV RL 62 yX8_select cX8_select 5 (some .int) 3 := ⟨q2_193, q2_194, q2_195, q1_1, q2_196, (by decide +kernel)⟩
theorem LL_65 : LV RL 65 yX9_select cX9_select 5 (some .int) 3 := ⟨q5_85, q5_86, q5_87, q1_10, q5_88, (by decide +kernel)⟩
theorem LL_66 : LV RL 66 yX8_placeIn cX8_placeIn 3 (some .int) 2 := ⟨q2_201, q2_202, q2_203, q1_1, q2_204, (by decide +kernel)⟩
theorem LL_69 : LV RL 69 yX9_placeIn cX9_placeIn 3 (some .int) 2 := ⟨q5_89, q5_90, q5_91, q1_10, q5_92, (by decide +kernel)⟩
theorem LL_70 : LV RL 70 yX8_quantile cX8_quantile 4 (some .int) 3 := ⟨q2_209, q2_210, q2_211, q1_1, q2_212, (by decide +kernel)⟩
theorem LL_74 : LV RL 74 yX9_quantile cX9_quantile 4 (some .int) 3 := ⟨q5_109, q5_110, q5_111, q1_10, q5_112, (by decide +kernel)⟩
theorem LL_75 : LV RL 75 yX8_quantileAgain cX8_quantileAgain 4 (some .int) 3 := ⟨q2_225, q2_226, q2_227, q1_1, q2_228, (by decide +kernel)⟩
theorem LL_78 : LV RL 78 yX9_quantileAgain cX9_quantileAgain 4 (some .int) 3 := ⟨q5_129, q5_130, q5_131, q1_10, q5_132, (by decide +kernel)⟩
theorem LL_79 : LV RL 79 yX8_count cX8_count 4 (some .int) 3 := ⟨q3_2, q3_3, q3_4, q1_1, q3_5, (by decide +kernel)⟩
theorem LL_82 : LV RL 82 yX9_count cX9_count 4 (some .int) 3 := ⟨q5_141, q5_142, q5_143, q1_10, q5_144, (by decide +kernel)⟩
theorem LL_83 : LV RL 83 yX8_lighter cX8_lighter 4 (some .int) 3 := ⟨q3_14, q3_15, q3_16, q1_1, q3_17, (by decide +kernel)⟩
theorem LL_86 : LV RL 86 yX9_lighter cX9_lighter 4 (some .int) 3 := ⟨q5_145, q5_146, q5_147, q1_10, q5_148, (by decide +kernel)⟩
theorem LL_87 : LV RL 87 yX8_atLeast cX8_atLeast 5 (some .int) 3 := ⟨q3_22, q3_23, q3_24, q1_1, q3_25, (by decide +kernel)⟩
theorem LL_90 : LV RL 90 yX9_atLeast cX9_atLeast 5 (some .int) 3 := ⟨q5_149, q5_150, q5_151, q1_10, q5_152, (by decide +kernel)⟩
theorem LL_91 : LV RL 91 yX8_find cX8_find 4 (some .int) 2 := ⟨q3_26, q3_27, q3_28, q1_1, q3_29, (by decide +kernel)⟩
theorem LL_94 : LV RL 94 yX9_find cX9_find 4 (some .int) 2 := ⟨q5_153, q5_154, q5_155, q1_10, q5_156, (by decide +kernel)⟩
theorem LL_95 : LV RL 95 yX8_common cX8_common 5 (some .int) 3 := ⟨q3_35, q3_36, q3_37, q1_1, q3_38, (by decide +kernel)⟩
theorem LL_98 : LV RL 98 yX9_common cX9_common 9 (some .int) 3 := ⟨q5_157, q5_158, q5_159, q1_10, q5_160, (by decide +kernel)⟩
theorem LL_99 : LV RL 99 yX8_bagOf cX8_bagOf 5 (some .int) 2 := ⟨q3_52, q3_53, q3_54, q1_1, q3_55, (by decide +kernel)⟩
theorem LL_102 : LV RL 102 yX9_bagOf cX9_bagOf 5 (some .int) 2 := ⟨q5_161, q5_162, q5_163, q1_10, q5_164, (by decide +kernel)⟩
theorem LL_103 : LV RL 103 yX8_bagAt cX8_bagAt 2 (some .int) 1 := ⟨q3_77, q3_78, q3_79, q1_1, q3_80, (by decide +kernel)⟩
theorem LL_106 : LV RL 106 yX9_bagAt cX9_bagAt 2 (some .int) 1 := ⟨q5_193, q5_194, q5_195, q1_10, q5_196, (by decide +kernel)⟩
theorem LL_107 : LV RL 107 yX8_ranked cX8_ranked 3 (some .int) 1 := ⟨q3_85, q3_86, q3_87, q1_1, q3_88, (by decide +kernel)⟩
theorem LL_110 : LV RL 110 yX9_ranked cX9_ranked 6 (some .int) 1 := ⟨q5_197, q5_198, q5_199, q1_10, q5_200, (by decide +kernel)⟩
theorem LL_111 : LV RL 111 yX8_append cX8_append 2 (some .int) 1 := ⟨q3_103, q3_104, q3_105, q1_1, q3_106, (by decide +kernel)⟩
theorem LL_114 : LV RL 114 yX9_append cX9_append 2 (some .int) 1 := ⟨q6_9, q6_10, q6_11, q1_10, q6_12, (by decide +kernel)⟩
theorem LL_115 : LV RL 115 yX8_run cX8_run 3 (some .int) 0 := ⟨q3_119, q3_120, q3_121, q1_1, q3_122, (by decide +kernel)⟩
theorem LL_119 : LV RL 119 yX9_run cX9_run 2 (some .int) 0 := ⟨q6_13, q6_14, q6_15, q1_10, q6_16, (by decide +kernel)⟩
theorem LL_120 : LV RL 120 yX8_tell cX8_tell 2 (some .int) 0 := ⟨q4_11, q4_12, q4_13, q1_1, q4_14, (by decide +kernel)⟩
theorem LL_123 : LV RL 123 yX9_tell cX9_tell 2 (some .int) 0 := ⟨q5_213, q5_214, q5_215, q1_10, q5_216, (by decide +kernel)⟩
theorem LL_124 : LV RL 124 yX8_tellRow cX8_tellRow 3 (some .int) 1 := ⟨q4_30, q4_31, q4_32, q1_1, q4_33, (by decide +kernel)⟩
theorem LL_127 : LV RL 127 yX9_tellRow cX9_tellRow 3 (some .int) 1 := ⟨q5_221, q5_222, q5_223, q1_10, q5_224, (by decide +kernel)⟩
theorem LL_128 : LV RL 128 yX8_character cX8_character 2 (some .int) 1 := ⟨q4_34, q4_35, q4_36, q1_1, q4_37, (by decide +kernel)⟩
theorem LL_131 : LV RL 131 yX9_character cX9_character 2 (some .int) 1 := ⟨q5_225, q5_226, q5_227, q1_10, q5_228, (by decide +kernel)⟩
theorem LL_132 : LV RL 132 yX8_reason cX8_reason 2 (some .int) 1 := ⟨q4_42, q4_43, q4_44, q1_1, q4_45, (by decide +kernel)⟩
theorem LL_136 : LV RL 136 yX9_reason cX9_reason 2 (some .int) 1 := ⟨q4_196, q4_197, q4_198, q1_10, q4_199, (by decide +kernel)⟩
theorem LL_137 : LV RL 137 yX8_account cX8_account 2 (some .int) 1 := ⟨q4_46, q4_47, q4_48, q1_1, q4_49, (by decide +kernel)⟩
theorem LL_140 : LV RL 140 yX9_account cX9_account 2 (some .int) 1 := ⟨q5_229, q5_230, q5_231, q1_10, q5_232, (by decide +kernel)⟩
theorem LL_141 : LV RL 141 yX8_isBalanced cX8_isBalanced 2 (some .int) 0 := ⟨q4_79, q4_80, q4_81, q1_1, q4_82, (by decide +kernel)⟩
theorem LL_144 : LV RL 144 yX9_isBalanced cX9_isBalanced 4 (some .int) 0 := ⟨q5_237, q5_238, q5_239, q1_10, q6_0, (by decide +kernel)⟩
theorem LL_145 : LV RL 145 yX8_meanWeight cX8_meanWeight 2 (some .double) 0 := ⟨q4_99, q4_100, q4_101, q1_1, q4_102, (by decide +kernel)⟩
theorem LL_149 : LV RL 149 yX9_meanWeight cX9_meanWeight 1 (some .double) 0 := ⟨q6_1, q6_2, q6_3, q1_10, q6_4, (by decide +kernel)⟩
theorem LL_150 : LV RL 150 yX8_oneShare cX8_oneShare 3 (some .float) 1 := ⟨q4_103, q4_104, q4_105, q1_1, q4_106, (by decide +kernel)⟩
theorem LL_154 : LV RL 154 yX9_oneShare cX9_oneShare 2 (some .float) 1 := ⟨q6_5, q6_6, q6_7, q1_10, q6_8, (by decide +kernel)⟩
theorem LL_155 : LV RL 155 yX8_undo cX8_undo 1 (some .int) 0 := ⟨q4_108, q4_109, q4_110, q1_1, q4_111, (by decide +kernel)⟩
theorem LL_158 : LV RL 158 yX9_undo cX9_undo 3 (some .int) 0 := ⟨q6_57, q6_58, q6_59, q1_10, q6_60, (by decide +kernel)⟩
theorem LL_159 : LV RL 159 yX8_save cX8_save 1 (some .int) 0 := ⟨q4_116, q4_117, q4_118, q1_1, q4_119, (by decide +kernel)⟩
theorem LL_162 : LV RL 162 yX9_save cX9_save 2 (some .int) 0 := ⟨q6_61, q6_62, q6_63, q1_10, q6_64, (by decide +kernel)⟩
theorem LL_163 : LV RL 163 yX8_restore cX8_restore 1 (some .int) 0 := ⟨q4_120, q4_121, q4_122, q1_1, q4_123, (by decide +kernel)⟩
theorem LL_166 : LV RL 166 yX9_restore cX9_restore 2 (some .int) 0 := ⟨q6_65, q6_66, q6_67, q1_10, q6_68, (by decide +kernel)⟩
section LAW
variable {p : Program} {l : Launch} {e : Env} {s : State} {m : MethodId} {below : List Frame} {meth : Method} {c : Code} {E : eE} {b : Nat} {ad adm : Nat → Nat} {cells slots : Nat} {Q : State → Prop} {i : Int32} {H : Heap} {locs : List Loc} {ls : Array Slot} {rest : List Value} {pc : Nat}
/-- what is new lies behind the old heap -/
def AA (s : State) : Nat → Prop := fun q => s.heap.size ≤ q
/-- where every call of the law goes on -/
def KC (p : Program) (l : Launch) (e : Env) (s : State) (m : MethodId) (below : List Frame) (meth : Method) (c : Code) (E : eE) (b : Nat) (ad adm : Nat → Nat) (cells slots : Nat) (Q : State → Prop) (i : Int32) : Prop :=
  ∀ (L : TL) (tr : TL) (Sn : TL) (iS : Int32) (P : TP) (R : TR) (B : TB) (Y : TY) (Z : TZ) (T : TT) (N : TN) (lr : Int32) (ld : Int32) (rn : Int32) (dn : Int32) (w : Nat → Int32) (u : Nat → Int32) (sr : Nat → Int32) (mind : Nat → Int32) (chg : Int32) (fi : Int32) (at_ : Nat → Int32) (line2 : Nat → Int32) (ll : Int32) (text2 : Nat → Int32) (tn : Nat) (nx : Int32) (nums : Nat → Int32) (so : Int32) (dd : Int32), Rl L Sn iS P R B T N w u sr chg fi line2 ll text2 tn → ∀ (H : Heap) (locs : List Loc), Hp E (AA s) (wS E ad L tr Sn iS P R B Y Z T N lr ld ++ wM E adm lr ld rn dn w u sr mind chg fi iS at_ line2 ll text2 (nI tn) nx nums so dd) s.heap H locs → ∀ ls : Array Slot, lv_has ls 8 [(0, .ref b), (1, .ref (ad 0)), (2, .ref (adm 0)), (3, .int i)] → W p l e room_1 s m #[Value.ref b] below meth c H locs cells slots Q (F0 m 1329 ls [])
/-- x != 0, as a boolean -/
theorem law_bool (hx : p.tables.exec = Jvm.exec) (hb : c.code = cL_law) {x : Int32} (d0 : decode cL_law pc = .ok (.ifCond .eq 7, 3)) (d1 : decode cL_law (pc + 3) = .ok (.iconst 1, 1)) (d2 : decode cL_law (pc + 3 + 1) = .ok (.goto 4, 3)) (d3 : decode cL_law (pc + 7) = .ok (.iconst 0, 1))
    (kk : W p l e room_1 s m #[Value.ref b] below meth c H locs cells slots Q (F0 m (pc + 8) ls (.int (bI (decide (¬ x = 0))) :: rest))) : W p l e room_1 s m #[Value.ref b] below meth c H locs cells slots Q (F0 m pc ls (.int x :: rest)) := by
  refine lv_if_eq (tgt := pc + 7) hx hb d0 (by omega) (fun h => ?_) (fun h => ?_)
  · refine lv_iconst (v := 0) hx hb d3 (by decide) ?_
    rw [decide_eq_false (show ¬ ¬ x = 0 from fun q => q h)] at kk
    exact kk
  · refine lv_iconst (v := 1) hx hb d1 (by decide) ?_
    refine lv_goto (tgt := pc + 8) hx hb d2 (by omega) ?_
    rw [decide_eq_true h] at kk
    exact kk
end LAW
