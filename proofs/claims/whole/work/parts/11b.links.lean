def mIs (i : Nat) (w : Cond) : Bool := decide (lw_tbl[i]? = some w)
theorem mIs_mem {i : Nat} {w : Cond} (h : mIs i w = true) : w ∈ lw_tbl := List.mem_of_getElem? (of_decide_eq_true h)
/-- what holds of the name of a method that is called -/
def mYn (y : MethodName) (n : Nat) : Bool := decide (y.cls ≠ "java/lang/invoke/MethodHandle") && decide (y.cls ≠ "java/lang/invoke/VarHandle") && decide ((parseMethodDescriptor y.desc).map (fun d => d.parameters.length) = some n)
def mMw (oc : Nat) (q : Nat × Nat × Nat × mM) (ix : Nat × Nat × Nat × Nat × Nat) : Bool := match q.2.1 with
  | 0 => mIs ix.2.1 (.initialized q.2.2.2.1.cls) && mIs ix.2.2.1 (.methodLink (mNm oc) q.1 q.2.2.2.1) && mIs ix.2.2.2.1 (.instanceMethod q.2.2.2.1) && mIs ix.2.2.2.2 (.selects q.2.2.2.1.cls q.2.2.2.1 q.2.2.2.1) && mYn q.2.2.2.1 q.2.2.1 && decide (mNm q.2.2.2.2.2.2.2.2.1 = q.2.2.2.1.cls) && decide (q.2.2.2.2.2.2.2.1 = []) && decide (q.2.2.2.2.2.1 ≤ 20)
  | 1 => mIs ix.2.1 (.initialized q.2.2.2.1.cls) && mIs ix.2.2.1 (.methodLinkNest (mNm oc) q.1 q.2.2.2.1 "SugarDice") && mIs ix.2.2.2.1 (.instanceMethod q.2.2.2.1) && mIs ix.2.2.2.2 (.selects q.2.2.2.1.cls q.2.2.2.1 q.2.2.2.1) && mYn q.2.2.2.1 q.2.2.1 && decide (mNm q.2.2.2.2.2.2.2.2.1 = q.2.2.2.1.cls) && decide (q.2.2.2.2.2.2.2.1 = []) && decide (q.2.2.2.2.2.1 ≤ 20)
  | 2 => mIs ix.2.1 (.initialized q.2.2.2.1.cls) && mIs ix.2.2.1 (.methodLink (mNm oc) q.1 q.2.2.2.1) && mIs ix.2.2.2.1 (.static q.2.2.2.1) && mYn q.2.2.2.1 q.2.2.1 && decide (q.2.2.2.2.2.2.2.1 = []) && decide (q.2.2.2.2.2.1 ≤ 20)
  | 3 => mIs ix.2.1 (.initialized q.2.2.2.1.cls) && mIs ix.2.2.1 (.methodLinkNest (mNm oc) q.1 q.2.2.2.1 "SugarDice") && mIs ix.2.2.2.1 (.static q.2.2.2.1) && mYn q.2.2.2.1 q.2.2.1 && decide (q.2.2.2.2.2.2.2.1 = []) && decide (q.2.2.2.2.2.1 ≤ 20)
  | 4 => mIs ix.2.1 (.initialized q.2.2.2.1.cls) && mIs ix.2.2.1 (.methodLink (mNm oc) q.1 q.2.2.2.1) && mIs ix.2.2.2.1 (.instanceMethod q.2.2.2.1) && mYn q.2.2.2.1 q.2.2.1 && decide (q.2.2.2.1.name = "<init>") && decide (q.2.2.2.2.2.2.1 = none) && decide (q.2.2.2.2.2.2.2.1 = []) && decide (q.2.2.2.2.2.1 ≤ 20)
  | 5 => mIs ix.2.1 (.initialized q.2.2.2.1.cls) && mIs ix.2.2.1 (.methodLinkNest (mNm oc) q.1 q.2.2.2.1 "SugarDice") && mIs ix.2.2.2.1 (.instanceMethod q.2.2.2.1) && mYn q.2.2.2.1 q.2.2.1 && decide (q.2.2.2.1.name = "<init>") && decide (q.2.2.2.2.2.2.1 = none) && decide (q.2.2.2.2.2.2.2.1 = []) && decide (q.2.2.2.2.2.1 ≤ 20)
  | 6 => mIs ix.1 (.methodLink (mNm oc) q.1 Lib.objectInit)
  | 7 => mIs ix.1 (.methodLink (mNm oc) q.1 arraycopyName)
  | 8 => mIs ix.2.1 (.initialized q.2.2.2.1.cls) && mIs ix.2.2.1 (.methodLink (mNm oc) q.1 q.2.2.2.1) && mIs ix.2.2.2.1 (.static q.2.2.2.1) && mYn q.2.2.2.1 q.2.2.1 && decide (q.2.2.2.2.2.2.2.1 ≠ []) && decide (q.2.2.2.2.2.1 ≤ 20)
  | 10 => mIs ix.2.2.1 (.methodLink (mNm oc) q.1 Lib.Math.min.name)
  | 11 => mIs ix.2.2.1 (.methodLink (mNm oc) q.1 Lib.Math.max.name)
  | 12 => mIs ix.2.2.1 (.methodLink (mNm oc) q.1 Lib.Math.abs.name)
  | 13 => mIs ix.2.2.1 (.methodLink (mNm oc) q.1 Lib.MathLoose.max_long.x)
  | _ => mIs ix.2.1 (.initialized q.2.2.2.1.cls) && mIs ix.2.2.1 (.methodLink (mNm oc) q.1 q.2.2.2.1) && mIs ix.2.2.2.1 (.instanceMethod q.2.2.2.1) && mIs ix.2.2.2.2 (.selects q.2.2.2.1.cls q.2.2.2.1 q.2.2.2.1) && mYn q.2.2.2.1 q.2.2.1 && decide (q.2.2.2.2.2.2.2.1 = []) && decide (q.2.2.2.2.2.1 ≤ 20)
theorem mK_0_15 : mMw 0 (15, 1, 2, mX2_weight) (484, 163, 481, 483, 10) = true := by decide +kernel
theorem mK_0_21 : mMw 0 (21, 0, 2, mX0_waysToBeat) (480, 166, 477, 479, 9) = true := by decide +kernel
theorem mK_0_28 : mMw 0 (28, 0, 1, mX0_weakerOnes) (472, 166, 469, 471, 7) = true := by decide +kernel
theorem mK_0_32 : mMw 0 (32, 1, 1, mX2_isGone) (488, 163, 485, 487, 11) = true := by decide +kernel
theorem mK_0_36 : mMw 0 (36, 0, 2, mX0_isBetter) (476, 166, 473, 475, 8) = true := by decide +kernel
theorem mK_0_40 : mMw 0 (40, 1, 1, mX2_total) (492, 163, 510, 491, 12) = true := by decide +kernel
theorem mK_0_43 : mMw 0 (43, 12, 1, mJ9_abs_0f7a4) (0, 0, 511, 0, 0) = true := by decide +kernel
theorem mK_0_3 : mMw 0 (3, 6, 0, mX0_init) (338, 0, 0, 0, 0) = true := by decide +kernel
theorem mMt_ok0 : ∀ q ∈ mMt0, ∃ ix, mMw 0 q ix = true := List.forall_mem_cons.mpr ⟨⟨_, mK_0_15⟩, List.forall_mem_cons.mpr ⟨⟨_, mK_0_21⟩, List.forall_mem_cons.mpr ⟨⟨_, mK_0_28⟩, List.forall_mem_cons.mpr ⟨⟨_, mK_0_32⟩, List.forall_mem_cons.mpr ⟨⟨_, mK_0_36⟩, List.forall_mem_cons.mpr ⟨⟨_, mK_0_40⟩, List.forall_mem_cons.mpr ⟨⟨_, mK_0_43⟩, List.forall_mem_cons.mpr ⟨⟨_, mK_0_3⟩, fun _ h => absurd h List.not_mem_nil⟩⟩⟩⟩⟩⟩⟩⟩
theorem mMt_cd0 : ∀ q ∈ mMt0, mCode q.2.2.2 ∈ lw_tbl := List.forall_mem_cons.mpr ⟨mCd_X2_weight, List.forall_mem_cons.mpr ⟨mCd_X0_waysToBeat, List.forall_mem_cons.mpr ⟨mCd_X0_weakerOnes, List.forall_mem_cons.mpr ⟨mCd_X2_isGone, List.forall_mem_cons.mpr ⟨mCd_X0_isBetter, List.forall_mem_cons.mpr ⟨mCd_X2_total, List.forall_mem_cons.mpr ⟨mCd_J9_abs_0f7a4, List.forall_mem_cons.mpr ⟨mCd_X0_init, fun _ h => absurd h List.not_mem_nil⟩⟩⟩⟩⟩⟩⟩⟩
theorem mK_1_1 : mMw 1 (1, 6, 0, mX0_init) (308, 0, 0, 0, 0) = true := by decide +kernel
theorem mMt_ok1 : ∀ q ∈ mMt1, ∃ ix, mMw 1 q ix = true := List.forall_mem_cons.mpr ⟨⟨_, mK_1_1⟩, fun _ h => absurd h List.not_mem_nil⟩
theorem mMt_cd1 : ∀ q ∈ mMt1, mCode q.2.2.2 ∈ lw_tbl := List.forall_mem_cons.mpr ⟨mCd_X0_init, fun _ h => absurd h List.not_mem_nil⟩
theorem mK_2_50 : mMw 2 (50, 0, 2, mX2_weight) (484, 163, 493, 483, 10) = true := by decide +kernel
theorem mK_2_54 : mMw 2 (54, 0, 1, mX2_total) (492, 163, 489, 491, 12) = true := by decide +kernel
theorem mK_2_58 : mMw 2 (58, 0, 1, mX2_isGone) (488, 163, 555, 487, 11) = true := by decide +kernel
theorem mK_2_62 : mMw 2 (62, 0, 1, mX2_hasDie) (771, 163, 845, 770, 40) = true := by decide +kernel
theorem mK_2_65 : mMw 2 (65, 0, 1, mX2_hasHand) (815, 163, 821, 814, 44) = true := by decide +kernel
theorem mK_2_72 : mMw 2 (72, 0, 1, mX2_isSalt) (797, 163, 902, 796, 42) = true := by decide +kernel
theorem mK_2_80 : mMw 2 (80, 0, 0, mX2_hasRoomForThrow) (881, 163, 896, 880, 52) = true := by decide +kernel
theorem mK_2_86 : mMw 2 (86, 0, 3, mX2_whyNot) (922, 163, 986, 921, 57) = true := by decide +kernel
theorem mK_2_90 : mMw 2 (90, 0, 3, mX2_throwFace) (891, 163, 991, 890, 54) = true := by decide +kernel
theorem mK_2_94 : mMw 2 (94, 0, 1, mX2_heat) (820, 163, 897, 819, 45) = true := by decide +kernel
theorem mK_2_97 : mMw 2 (97, 0, 3, mX2_wear) (901, 163, 898, 900, 55) = true := by decide +kernel
theorem mK_2_100 : mMw 2 (100, 0, 1, mX2_toldThrow) (537, 163, 534, 536, 19) = true := by decide +kernel
theorem mK_2_103 : mMw 2 (103, 0, 1, mX2_faceForAnts) (1018, 163, 1015, 1017, 67) = true := by decide +kernel
theorem mK_2_109 : mMw 2 (109, 1, 0, mX1_draw) (455, 164, 452, 454, 4) = true := by decide +kernel
theorem mK_2_115 : mMw 2 (115, 0, 2, mX2_dieLeft) (460, 163, 457, 459, 5) = true := by decide +kernel
theorem mK_2_44 : mMw 2 (44, 7, 5, mX0_init) (753, 0, 0, 0, 0) = true := by decide +kernel
theorem mK_2_68 : mMw 2 (68, 3, 1, mX9_isFace) (894, 160, 892, 893, 0) = true := by decide +kernel
theorem mK_2_75 : mMw 2 (75, 10, 2, mJ9_min_7cf53) (0, 0, 903, 0, 0) = true := by decide +kernel
theorem mK_2_106 : mMw 2 (106, 11, 2, mJ9_max_7cf53) (0, 0, 1030, 0, 0) = true := by decide +kernel
theorem mK_2_3 : mMw 2 (3, 6, 0, mX0_init) (267, 0, 0, 0, 0) = true := by decide +kernel
theorem mMt_ok2 : ∀ q ∈ mMt2, ∃ ix, mMw 2 q ix = true := List.forall_mem_cons.mpr ⟨⟨_, mK_2_50⟩, List.forall_mem_cons.mpr ⟨⟨_, mK_2_54⟩, List.forall_mem_cons.mpr ⟨⟨_, mK_2_58⟩, List.forall_mem_cons.mpr ⟨⟨_, mK_2_62⟩, List.forall_mem_cons.mpr ⟨⟨_, mK_2_65⟩, List.forall_mem_cons.mpr ⟨⟨_, mK_2_72⟩, List.forall_mem_cons.mpr ⟨⟨_, mK_2_80⟩, List.forall_mem_cons.mpr ⟨⟨_, mK_2_86⟩, List.forall_mem_cons.mpr ⟨⟨_, mK_2_90⟩, List.forall_mem_cons.mpr ⟨⟨_, mK_2_94⟩, List.forall_mem_cons.mpr ⟨⟨_, mK_2_97⟩, List.forall_mem_cons.mpr ⟨⟨_, mK_2_100⟩, List.forall_mem_cons.mpr ⟨⟨_, mK_2_103⟩, List.forall_mem_cons.mpr ⟨⟨_, mK_2_109⟩, List.forall_mem_cons.mpr ⟨⟨_, mK_2_115⟩, List.forall_mem_cons.mpr ⟨⟨_, mK_2_44⟩, List.forall_mem_cons.mpr ⟨⟨_, mK_2_68⟩, List.forall_mem_cons.mpr ⟨⟨_, mK_2_75⟩, List.forall_mem_cons.mpr ⟨⟨_, mK_2_106⟩, List.forall_mem_cons.mpr ⟨⟨_, mK_2_3⟩, fun _ h => absurd h List.not_mem_nil⟩⟩⟩⟩⟩⟩⟩⟩⟩⟩⟩⟩⟩⟩⟩⟩⟩⟩⟩⟩
theorem mMt_cd2 : ∀ q ∈ mMt2, mCode q.2.2.2 ∈ lw_tbl := List.forall_mem_cons.mpr ⟨mCd_X2_weight, List.forall_mem_cons.mpr ⟨mCd_X2_total, List.forall_mem_cons.mpr ⟨mCd_X2_isGone, List.forall_mem_cons.mpr ⟨mCd_X2_hasDie, List.forall_mem_cons.mpr ⟨mCd_X2_hasHand, List.forall_mem_cons.mpr ⟨mCd_X2_isSalt, List.forall_mem_cons.mpr ⟨mCd_X2_hasRoomForThrow, List.forall_mem_cons.mpr ⟨mCd_X2_whyNot, List.forall_mem_cons.mpr ⟨mCd_X2_throwFace, List.forall_mem_cons.mpr ⟨mCd_X2_heat, List.forall_mem_cons.mpr ⟨mCd_X2_wear, List.forall_mem_cons.mpr ⟨mCd_X2_toldThrow, List.forall_mem_cons.mpr ⟨mCd_X2_faceForAnts, List.forall_mem_cons.mpr ⟨mCd_X1_draw, List.forall_mem_cons.mpr ⟨mCd_X2_dieLeft, List.forall_mem_cons.mpr ⟨mCd_X0_init, List.forall_mem_cons.mpr ⟨mCd_X9_isFace, List.forall_mem_cons.mpr ⟨mCd_J9_min_7cf53, List.forall_mem_cons.mpr ⟨mCd_J9_max_7cf53, List.forall_mem_cons.mpr ⟨mCd_X0_init, fun _ h => absurd h List.not_mem_nil⟩⟩⟩⟩⟩⟩⟩⟩⟩⟩⟩⟩⟩⟩⟩⟩⟩⟩⟩⟩
theorem mK_3_21 : mMw 3 (21, 1, 1, mX2_dieOfThrow) (533, 163, 530, 532, 18) = true := by decide +kernel
theorem mK_3_25 : mMw 3 (25, 1, 1, mX2_handOfThrow) (833, 163, 830, 832, 48) = true := by decide +kernel
theorem mK_3_28 : mMw 3 (28, 1, 1, mX2_faceOfThrow) (545, 163, 542, 544, 21) = true := by decide +kernel
theorem mK_3_37 : mMw 3 (37, 0, 1, mX3_throwsOfDie) (529, 168, 526, 528, 17) = true := by decide +kernel
theorem mK_3_40 : mMw 3 (40, 0, 2, mX3_timesShown) (541, 168, 538, 540, 20) = true := by decide +kernel
theorem mK_3_49 : mMw 3 (49, 0, 1, mX3_howFarOff) (525, 168, 522, 524, 16) = true := by decide +kernel
theorem mK_3_31 : mMw 3 (31, 11, 2, mJ9_max_7cf53) (0, 0, 1424, 0, 0) = true := by decide +kernel
theorem mK_3_43 : mMw 3 (43, 12, 1, mJ9_abs_0f7a4) (0, 0, 546, 0, 0) = true := by decide +kernel
theorem mK_3_3 : mMw 3 (3, 6, 0, mX0_init) (364, 0, 0, 0, 0) = true := by decide +kernel
theorem mMt_ok3 : ∀ q ∈ mMt3, ∃ ix, mMw 3 q ix = true := List.forall_mem_cons.mpr ⟨⟨_, mK_3_21⟩, List.forall_mem_cons.mpr ⟨⟨_, mK_3_25⟩, List.forall_mem_cons.mpr ⟨⟨_, mK_3_28⟩, List.forall_mem_cons.mpr ⟨⟨_, mK_3_37⟩, List.forall_mem_cons.mpr ⟨⟨_, mK_3_40⟩, List.forall_mem_cons.mpr ⟨⟨_, mK_3_49⟩, List.forall_mem_cons.mpr ⟨⟨_, mK_3_31⟩, List.forall_mem_cons.mpr ⟨⟨_, mK_3_43⟩, List.forall_mem_cons.mpr ⟨⟨_, mK_3_3⟩, fun _ h => absurd h List.not_mem_nil⟩⟩⟩⟩⟩⟩⟩⟩⟩
theorem mMt_cd3 : ∀ q ∈ mMt3, mCode q.2.2.2 ∈ lw_tbl := List.forall_mem_cons.mpr ⟨mCd_X2_dieOfThrow, List.forall_mem_cons.mpr ⟨mCd_X2_handOfThrow, List.forall_mem_cons.mpr ⟨mCd_X2_faceOfThrow, List.forall_mem_cons.mpr ⟨mCd_X3_throwsOfDie, List.forall_mem_cons.mpr ⟨mCd_X3_timesShown, List.forall_mem_cons.mpr ⟨mCd_X3_howFarOff, List.forall_mem_cons.mpr ⟨mCd_J9_max_7cf53, List.forall_mem_cons.mpr ⟨mCd_J9_abs_0f7a4, List.forall_mem_cons.mpr ⟨mCd_X0_init, fun _ h => absurd h List.not_mem_nil⟩⟩⟩⟩⟩⟩⟩⟩⟩
theorem mK_4_35 : mMw 4 (35, 1, 1, mX2_total) (492, 163, 1098, 491, 12) = true := by decide +kernel
theorem mK_4_39 : mMw 4 (39, 0, 1, mX4_countSums) (1114, 165, 1111, 1113, 76) = true := by decide +kernel
theorem mK_4_49 : mMw 4 (49, 1, 2, mX2_weight) (484, 163, 1122, 483, 10) = true := by decide +kernel
theorem mK_4_52 : mMw 4 (52, 0, 1, mX4_wholeOf) (1094, 165, 1196, 1093, 74) = true := by decide +kernel
theorem mK_4_61 : mMw 4 (61, 0, 2, mX4_waysOfSumOrMore) (1133, 165, 1203, 1132, 78) = true := by decide +kernel
theorem mK_4_69 : mMw 4 (69, 0, 2, mX4_addToFaceSets) (1218, 165, 1215, 1217, 86) = true := by decide +kernel
theorem mK_4_77 : mMw 4 (77, 0, 3, mX4_countThrows) (1320, 165, 1317, 1319, 92) = true := by decide +kernel
theorem mK_4_84 : mMw 4 (84, 0, 2, mX4_bestByStopping) (1336, 165, 1333, 1335, 94) = true := by decide +kernel
theorem mK_4_91 : mMw 4 (91, 0, 2, mX4_addToSums) (1121, 165, 1118, 1120, 77) = true := by decide +kernel
theorem mK_4_31 : mMw 4 (31, 2, 2, mX4_isIn) (1097, 165, 1095, 1096, 0) = true := by decide +kernel
theorem mK_4_43 : mMw 4 (43, 11, 2, mJ9_max_7cf53) (0, 0, 1134, 0, 0) = true := by decide +kernel
theorem mK_4_56 : mMw 4 (56, 2, 1, mJ6_bitCount_0f7a4) (1199, 183, 1197, 1198, 0) = true := by decide +kernel
theorem mK_4_65 : mMw 4 (65, 2, 1, mX4_begin) (1117, 165, 1115, 1116, 0) = true := by decide +kernel
theorem mK_4_73 : mMw 4 (73, 2, 1, mX4_isWithoutGap) (1221, 165, 1219, 1220, 0) = true := by decide +kernel
theorem mK_4_81 : mMw 4 (81, 13, 2, mJ9_max_f86c9) (0, 0, 1337, 0, 0) = true := by decide +kernel
theorem mK_4_87 : mMw 4 (87, 3, 2, mX9_power) (1250, 160, 1340, 1249, 0) = true := by decide +kernel
theorem mK_4_3 : mMw 4 (3, 6, 0, mX0_init) (318, 0, 0, 0, 0) = true := by decide +kernel
theorem mMt_ok4 : ∀ q ∈ mMt4, ∃ ix, mMw 4 q ix = true := List.forall_mem_cons.mpr ⟨⟨_, mK_4_35⟩, List.forall_mem_cons.mpr ⟨⟨_, mK_4_39⟩, List.forall_mem_cons.mpr ⟨⟨_, mK_4_49⟩, List.forall_mem_cons.mpr ⟨⟨_, mK_4_52⟩, List.forall_mem_cons.mpr ⟨⟨_, mK_4_61⟩, List.forall_mem_cons.mpr ⟨⟨_, mK_4_69⟩, List.forall_mem_cons.mpr ⟨⟨_, mK_4_77⟩, List.forall_mem_cons.mpr ⟨⟨_, mK_4_84⟩, List.forall_mem_cons.mpr ⟨⟨_, mK_4_91⟩, List.forall_mem_cons.mpr ⟨⟨_, mK_4_31⟩, List.forall_mem_cons.mpr ⟨⟨_, mK_4_43⟩, List.forall_mem_cons.mpr ⟨⟨_, mK_4_56⟩, List.forall_mem_cons.mpr ⟨⟨_, mK_4_65⟩, List.forall_mem_cons.mpr ⟨⟨_, mK_4_73⟩, List.forall_mem_cons.mpr ⟨⟨_, mK_4_81⟩, List.forall_mem_cons.mpr ⟨⟨_, mK_4_87⟩, List.forall_mem_cons.mpr ⟨⟨_, mK_4_3⟩, fun _ h => absurd h List.not_mem_nil⟩⟩⟩⟩⟩⟩⟩⟩⟩⟩⟩⟩⟩⟩⟩⟩⟩
theorem mMt_cd4 : ∀ q ∈ mMt4, mCode q.2.2.2 ∈ lw_tbl := List.forall_mem_cons.mpr ⟨mCd_X2_total, List.forall_mem_cons.mpr ⟨mCd_X4_countSums, List.forall_mem_cons.mpr ⟨mCd_X2_weight, List.forall_mem_cons.mpr ⟨mCd_X4_wholeOf, List.forall_mem_cons.mpr ⟨mCd_X4_waysOfSumOrMore, List.forall_mem_cons.mpr ⟨mCd_X4_addToFaceSets, List.forall_mem_cons.mpr ⟨mCd_X4_countThrows, List.forall_mem_cons.mpr ⟨mCd_X4_bestByStopping, List.forall_mem_cons.mpr ⟨mCd_X4_addToSums, List.forall_mem_cons.mpr ⟨mCd_X4_isIn, List.forall_mem_cons.mpr ⟨mCd_J9_max_7cf53, List.forall_mem_cons.mpr ⟨mCd_J6_bitCount_0f7a4, List.forall_mem_cons.mpr ⟨mCd_X4_begin, List.forall_mem_cons.mpr ⟨mCd_X4_isWithoutGap, List.forall_mem_cons.mpr ⟨mCd_J9_max_f86c9, List.forall_mem_cons.mpr ⟨mCd_X9_power, List.forall_mem_cons.mpr ⟨mCd_X0_init, fun _ h => absurd h List.not_mem_nil⟩⟩⟩⟩⟩⟩⟩⟩⟩⟩⟩⟩⟩⟩⟩⟩⟩
theorem mK_5_23 : mMw 5 (23, 0, 0, mX5_clear) (643, 162, 640, 642, 26) = true := by decide +kernel
theorem mK_5_29 : mMw 5 (29, 0, 0, mX5_nextToken) (647, 162, 644, 646, 27) = true := by decide +kernel
theorem mK_5_38 : mMw 5 (38, 0, 0, mX5_readsLine) (728, 162, 725, 727, 32) = true := by decide +kernel
theorem mK_5_57 : mMw 5 (57, 0, 0, mX5_readsDie) (732, 162, 729, 731, 33) = true := by decide +kernel
theorem mK_5_60 : mMw 5 (60, 0, 0, mX5_readsHand) (744, 162, 741, 743, 36) = true := by decide +kernel
theorem mK_5_63 : mMw 5 (63, 0, 0, mX5_readsAnts) (748, 162, 745, 747, 37) = true := by decide +kernel
theorem mK_5_66 : mMw 5 (66, 0, 1, mX5_isFaulty) (736, 162, 733, 735, 34) = true := by decide +kernel
theorem mK_5_70 : mMw 5 (70, 0, 2, mX5_readsNumber) (740, 162, 737, 739, 35) = true := by decide +kernel
theorem mK_5_80 : mMw 5 (80, 1, 1, mX6_byteAt) (651, 161, 648, 650, 28) = true := by decide +kernel
theorem mK_5_92 : mMw 5 (92, 0, 0, mX5_nextNumber) (661, 162, 658, 660, 29) = true := by decide +kernel
theorem mK_5_98 : mMw 5 (98, 0, 0, mX5_nextWord) (668, 162, 665, 667, 30) = true := by decide +kernel
theorem mK_5_103 : mMw 5 (103, 0, 1, mX5_isWord) (673, 162, 670, 672, 31) = true := by decide +kernel
theorem mK_5_113 : mMw 5 (113, 9, 0, mJ0_length_8abf5) (677, 175, 674, 675, 676) = true := by decide +kernel
theorem mK_5_118 : mMw 5 (118, 9, 1, mJ0_charAt_5068e) (687, 175, 684, 685, 686) = true := by decide +kernel
theorem mK_5_86 : mMw 5 (86, 2, 1, mX5_isBlank) (654, 162, 652, 653, 0) = true := by decide +kernel
theorem mK_5_89 : mMw 5 (89, 2, 1, mX5_isDigit) (657, 162, 655, 656, 0) = true := by decide +kernel
theorem mK_5_95 : mMw 5 (95, 2, 1, mX5_isLetter) (664, 162, 662, 663, 0) = true := by decide +kernel
theorem mK_5_3 : mMw 5 (3, 6, 0, mX0_init) (213, 0, 0, 0, 0) = true := by decide +kernel
theorem mMt_ok5 : ∀ q ∈ mMt5, ∃ ix, mMw 5 q ix = true := List.forall_mem_cons.mpr ⟨⟨_, mK_5_23⟩, List.forall_mem_cons.mpr ⟨⟨_, mK_5_29⟩, List.forall_mem_cons.mpr ⟨⟨_, mK_5_38⟩, List.forall_mem_cons.mpr ⟨⟨_, mK_5_57⟩, List.forall_mem_cons.mpr ⟨⟨_, mK_5_60⟩, List.forall_mem_cons.mpr ⟨⟨_, mK_5_63⟩, List.forall_mem_cons.mpr ⟨⟨_, mK_5_66⟩, List.forall_mem_cons.mpr ⟨⟨_, mK_5_70⟩, List.forall_mem_cons.mpr ⟨⟨_, mK_5_80⟩, List.forall_mem_cons.mpr ⟨⟨_, mK_5_92⟩, List.forall_mem_cons.mpr ⟨⟨_, mK_5_98⟩, List.forall_mem_cons.mpr ⟨⟨_, mK_5_103⟩, List.forall_mem_cons.mpr ⟨⟨_, mK_5_113⟩, List.forall_mem_cons.mpr ⟨⟨_, mK_5_118⟩, List.forall_mem_cons.mpr ⟨⟨_, mK_5_86⟩, List.forall_mem_cons.mpr ⟨⟨_, mK_5_89⟩, List.forall_mem_cons.mpr ⟨⟨_, mK_5_95⟩, List.forall_mem_cons.mpr ⟨⟨_, mK_5_3⟩, fun _ h => absurd h List.not_mem_nil⟩⟩⟩⟩⟩⟩⟩⟩⟩⟩⟩⟩⟩⟩⟩⟩⟩⟩
theorem mMt_cd5 : ∀ q ∈ mMt5, mCode q.2.2.2 ∈ lw_tbl := List.forall_mem_cons.mpr ⟨mCd_X5_clear, List.forall_mem_cons.mpr ⟨mCd_X5_nextToken, List.forall_mem_cons.mpr ⟨mCd_X5_readsLine, List.forall_mem_cons.mpr ⟨mCd_X5_readsDie, List.forall_mem_cons.mpr ⟨mCd_X5_readsHand, List.forall_mem_cons.mpr ⟨mCd_X5_readsAnts, List.forall_mem_cons.mpr ⟨mCd_X5_isFaulty, List.forall_mem_cons.mpr ⟨mCd_X5_readsNumber, List.forall_mem_cons.mpr ⟨mCd_X6_byteAt, List.forall_mem_cons.mpr ⟨mCd_X5_nextNumber, List.forall_mem_cons.mpr ⟨mCd_X5_nextWord, List.forall_mem_cons.mpr ⟨mCd_X5_isWord, List.forall_mem_cons.mpr ⟨mCd_J0_length_8abf5, List.forall_mem_cons.mpr ⟨mCd_J0_charAt_5068e, List.forall_mem_cons.mpr ⟨mCd_X5_isBlank, List.forall_mem_cons.mpr ⟨mCd_X5_isDigit, List.forall_mem_cons.mpr ⟨mCd_X5_isLetter, List.forall_mem_cons.mpr ⟨mCd_X0_init, fun _ h => absurd h List.not_mem_nil⟩⟩⟩⟩⟩⟩⟩⟩⟩⟩⟩⟩⟩⟩⟩⟩⟩⟩
theorem mK_6_3 : mMw 6 (3, 6, 0, mX0_init) (198, 0, 0, 0, 0) = true := by decide +kernel
theorem mMt_ok6 : ∀ q ∈ mMt6, ∃ ix, mMw 6 q ix = true := List.forall_mem_cons.mpr ⟨⟨_, mK_6_3⟩, fun _ h => absurd h List.not_mem_nil⟩
theorem mMt_cd6 : ∀ q ∈ mMt6, mCode q.2.2.2 ∈ lw_tbl := List.forall_mem_cons.mpr ⟨mCd_X0_init, fun _ h => absurd h List.not_mem_nil⟩
theorem mK_7_26 : mMw 7 (26, 0, 1, mX7_cut) (1476, 169, 1473, 1475, 106) = true := by decide +kernel
theorem mK_7_30 : mMw 7 (30, 0, 1, mX7_number) (980, 169, 1357, 979, 62) = true := by decide +kernel
theorem mK_7_34 : mMw 7 (34, 3, 1, mX9_isFace) (894, 160, 1358, 893, 0) = true := by decide +kernel
theorem mK_7_3 : mMw 7 (3, 6, 0, mX0_init) (375, 0, 0, 0, 0) = true := by decide +kernel
theorem mMt_ok7 : ∀ q ∈ mMt7, ∃ ix, mMw 7 q ix = true := List.forall_mem_cons.mpr ⟨⟨_, mK_7_26⟩, List.forall_mem_cons.mpr ⟨⟨_, mK_7_30⟩, List.forall_mem_cons.mpr ⟨⟨_, mK_7_34⟩, List.forall_mem_cons.mpr ⟨⟨_, mK_7_3⟩, fun _ h => absurd h List.not_mem_nil⟩⟩⟩⟩
theorem mMt_cd7 : ∀ q ∈ mMt7, mCode q.2.2.2 ∈ lw_tbl := List.forall_mem_cons.mpr ⟨mCd_X7_cut, List.forall_mem_cons.mpr ⟨mCd_X7_number, List.forall_mem_cons.mpr ⟨mCd_X9_isFace, List.forall_mem_cons.mpr ⟨mCd_X0_init, fun _ h => absurd h List.not_mem_nil⟩⟩⟩⟩
theorem mK_8_33 : mMw 8 (33, 1, 1, mX7_face) (1367, 169, 1364, 1366, 98) = true := by decide +kernel
theorem mK_8_37 : mMw 8 (37, 1, 2, mX2_weight) (484, 163, 1368, 483, 10) = true := by decide +kernel
theorem mK_8_41 : mMw 8 (41, 1, 1, mX2_total) (492, 163, 1369, 491, 12) = true := by decide +kernel
theorem mK_8_48 : mMw 8 (48, 0, 3, mX8_totalBehind) (1396, 167, 1393, 1395, 101) = true := by decide +kernel
theorem mK_8_52 : mMw 8 (52, 0, 1, mX8_begin) (1400, 167, 1397, 1399, 102) = true := by decide +kernel
theorem mK_8_56 : mMw 8 (56, 1, 1, mX2_hasHand) (815, 163, 1402, 814, 44) = true := by decide +kernel
theorem mK_8_60 : mMw 8 (60, 1, 1, mX2_isSalt) (797, 163, 1403, 796, 42) = true := by decide +kernel
theorem mK_8_68 : mMw 8 (68, 1, 1, mX2_heat) (820, 163, 1401, 819, 45) = true := by decide +kernel
theorem mK_8_44 : mMw 8 (44, 3, 2, mX9_power) (1250, 160, 1370, 1249, 0) = true := by decide +kernel
theorem mK_8_63 : mMw 8 (63, 10, 2, mJ9_min_7cf53) (0, 0, 1404, 0, 0) = true := by decide +kernel
theorem mK_8_3 : mMw 8 (3, 6, 0, mX0_init) (348, 0, 0, 0, 0) = true := by decide +kernel
theorem mMt_ok8 : ∀ q ∈ mMt8, ∃ ix, mMw 8 q ix = true := List.forall_mem_cons.mpr ⟨⟨_, mK_8_33⟩, List.forall_mem_cons.mpr ⟨⟨_, mK_8_37⟩, List.forall_mem_cons.mpr ⟨⟨_, mK_8_41⟩, List.forall_mem_cons.mpr ⟨⟨_, mK_8_48⟩, List.forall_mem_cons.mpr ⟨⟨_, mK_8_52⟩, List.forall_mem_cons.mpr ⟨⟨_, mK_8_56⟩, List.forall_mem_cons.mpr ⟨⟨_, mK_8_60⟩, List.forall_mem_cons.mpr ⟨⟨_, mK_8_68⟩, List.forall_mem_cons.mpr ⟨⟨_, mK_8_44⟩, List.forall_mem_cons.mpr ⟨⟨_, mK_8_63⟩, List.forall_mem_cons.mpr ⟨⟨_, mK_8_3⟩, fun _ h => absurd h List.not_mem_nil⟩⟩⟩⟩⟩⟩⟩⟩⟩⟩⟩
theorem mMt_cd8 : ∀ q ∈ mMt8, mCode q.2.2.2 ∈ lw_tbl := List.forall_mem_cons.mpr ⟨mCd_X7_face, List.forall_mem_cons.mpr ⟨mCd_X2_weight, List.forall_mem_cons.mpr ⟨mCd_X2_total, List.forall_mem_cons.mpr ⟨mCd_X8_totalBehind, List.forall_mem_cons.mpr ⟨mCd_X8_begin, List.forall_mem_cons.mpr ⟨mCd_X2_hasHand, List.forall_mem_cons.mpr ⟨mCd_X2_isSalt, List.forall_mem_cons.mpr ⟨mCd_X2_heat, List.forall_mem_cons.mpr ⟨mCd_X9_power, List.forall_mem_cons.mpr ⟨mCd_J9_min_7cf53, List.forall_mem_cons.mpr ⟨mCd_X0_init, fun _ h => absurd h List.not_mem_nil⟩⟩⟩⟩⟩⟩⟩⟩⟩⟩⟩
